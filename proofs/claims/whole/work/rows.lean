section
-- ===== PART A: goes FIRST, ahead of the names: the tables' words, and 'selects' of the private methods out of them =====
/-- a private method of a class that the tables say can be made, by its rows of tables_1 -/
def lw_okq (q : MethodName × Nat) : Prop := (q.1.cls ≠ "java/lang/invoke/MethodHandle" ∧ q.1.cls ≠ "java/lang/invoke/VarHandle") ∧ Cond.instantiable q.1.cls q.2 ∈ tables_1 ∧ Cond.privateMethod q.1 ∈ tables_1 ∧ Cond.instanceMethod q.1 ∈ tables_1
theorem lw_p0 : lw_okq (⟨"SnoopingBus", "isCore", "(I)Z"⟩, 6) := ⟨⟨by decide +kernel, by decide +kernel⟩, List.mem_of_getElem? (i := 9) (by decide +kernel), List.mem_of_getElem? (i := 131) (by decide +kernel), List.mem_of_getElem? (i := 132) (by decide +kernel)⟩
theorem lw_p1 : lw_okq (⟨"SnoopingBus$Core", "waits", "()Z"⟩, 8) := ⟨⟨by decide +kernel, by decide +kernel⟩, List.mem_of_getElem? (i := 41) (by decide +kernel), List.mem_of_getElem? (i := 138) (by decide +kernel), List.mem_of_getElem? (i := 139) (by decide +kernel)⟩
theorem lw_p2 : lw_okq (⟨"SnoopingBus$Core", "newestStoreTo", "(I)I"⟩, 8) := ⟨⟨by decide +kernel, by decide +kernel⟩, List.mem_of_getElem? (i := 41) (by decide +kernel), List.mem_of_getElem? (i := 142) (by decide +kernel), List.mem_of_getElem? (i := 143) (by decide +kernel)⟩
theorem lw_p3 : lw_okq (⟨"SnoopingBus$Cache", "holds", "(I)Z"⟩, 6) := ⟨⟨by decide +kernel, by decide +kernel⟩, List.mem_of_getElem? (i := 43) (by decide +kernel), List.mem_of_getElem? (i := 149) (by decide +kernel), List.mem_of_getElem? (i := 150) (by decide +kernel)⟩
theorem lw_p4 : lw_okq (⟨"SnoopingBus$Cache", "use", "(I)V"⟩, 6) := ⟨⟨by decide +kernel, by decide +kernel⟩, List.mem_of_getElem? (i := 43) (by decide +kernel), List.mem_of_getElem? (i := 153) (by decide +kernel), List.mem_of_getElem? (i := 154) (by decide +kernel)⟩
theorem lw_p5 : lw_okq (⟨"SnoopingBus$Core", "ask", "(III)V"⟩, 8) := ⟨⟨by decide +kernel, by decide +kernel⟩, List.mem_of_getElem? (i := 41) (by decide +kernel), List.mem_of_getElem? (i := 157) (by decide +kernel), List.mem_of_getElem? (i := 158) (by decide +kernel)⟩
theorem lw_p6 : lw_okq (⟨"SnoopingBus$Core", "appendStore", "(II)V"⟩, 8) := ⟨⟨by decide +kernel, by decide +kernel⟩, List.mem_of_getElem? (i := 41) (by decide +kernel), List.mem_of_getElem? (i := 165) (by decide +kernel), List.mem_of_getElem? (i := 166) (by decide +kernel)⟩
theorem lw_p7 : lw_okq (⟨"SnoopingBus$Core", "changeOrAsk", "(III)I"⟩, 8) := ⟨⟨by decide +kernel, by decide +kernel⟩, List.mem_of_getElem? (i := 41) (by decide +kernel), List.mem_of_getElem? (i := 173) (by decide +kernel), List.mem_of_getElem? (i := 174) (by decide +kernel)⟩
theorem lw_p8 : lw_okq (⟨"SnoopingBus$Cache", "owns", "(I)Z"⟩, 6) := ⟨⟨by decide +kernel, by decide +kernel⟩, List.mem_of_getElem? (i := 43) (by decide +kernel), List.mem_of_getElem? (i := 178) (by decide +kernel), List.mem_of_getElem? (i := 179) (by decide +kernel)⟩
theorem lw_p9 : lw_okq (⟨"SnoopingBus$Core", "change", "(III)V"⟩, 8) := ⟨⟨by decide +kernel, by decide +kernel⟩, List.mem_of_getElem? (i := 41) (by decide +kernel), List.mem_of_getElem? (i := 182) (by decide +kernel), List.mem_of_getElem? (i := 183) (by decide +kernel)⟩
theorem lw_p10 : lw_okq (⟨"SnoopingBus$Cache", "put", "(II)V"⟩, 6) := ⟨⟨by decide +kernel, by decide +kernel⟩, List.mem_of_getElem? (i := 43) (by decide +kernel), List.mem_of_getElem? (i := 186) (by decide +kernel), List.mem_of_getElem? (i := 187) (by decide +kernel)⟩
theorem lw_p11 : lw_okq (⟨"SnoopingBus$Core", "removeOldestStore", "()V"⟩, 8) := ⟨⟨by decide +kernel, by decide +kernel⟩, List.mem_of_getElem? (i := 41) (by decide +kernel), List.mem_of_getElem? (i := 192) (by decide +kernel), List.mem_of_getElem? (i := 193) (by decide +kernel)⟩
theorem lw_p12 : lw_okq (⟨"SnoopingBus", "changeAtOnce", "(IIII)I"⟩, 6) := ⟨⟨by decide +kernel, by decide +kernel⟩, List.mem_of_getElem? (i := 9) (by decide +kernel), List.mem_of_getElem? (i := 201) (by decide +kernel), List.mem_of_getElem? (i := 202) (by decide +kernel)⟩
theorem lw_p13 : lw_okq (⟨"SnoopingBus", "serve", "(I)V"⟩, 6) := ⟨⟨by decide +kernel, by decide +kernel⟩, List.mem_of_getElem? (i := 9) (by decide +kernel), List.mem_of_getElem? (i := 213) (by decide +kernel), List.mem_of_getElem? (i := 214) (by decide +kernel)⟩
theorem lw_p14 : lw_okq (⟨"SnoopingBus", "serveRead", "(II)V"⟩, 6) := ⟨⟨by decide +kernel, by decide +kernel⟩, List.mem_of_getElem? (i := 9) (by decide +kernel), List.mem_of_getElem? (i := 217) (by decide +kernel), List.mem_of_getElem? (i := 218) (by decide +kernel)⟩
theorem lw_p15 : lw_okq (⟨"SnoopingBus", "shareElsewhere", "(II)Z"⟩, 6) := ⟨⟨by decide +kernel, by decide +kernel⟩, List.mem_of_getElem? (i := 9) (by decide +kernel), List.mem_of_getElem? (i := 221) (by decide +kernel), List.mem_of_getElem? (i := 222) (by decide +kernel)⟩
def lw_privs_1 : List (MethodName × Nat) := [(⟨"SnoopingBus", "isCore", "(I)Z"⟩, 6), (⟨"SnoopingBus$Core", "waits", "()Z"⟩, 8), (⟨"SnoopingBus$Core", "newestStoreTo", "(I)I"⟩, 8), (⟨"SnoopingBus$Cache", "holds", "(I)Z"⟩, 6), (⟨"SnoopingBus$Cache", "use", "(I)V"⟩, 6), (⟨"SnoopingBus$Core", "ask", "(III)V"⟩, 8), (⟨"SnoopingBus$Core", "appendStore", "(II)V"⟩, 8), (⟨"SnoopingBus$Core", "changeOrAsk", "(III)I"⟩, 8), (⟨"SnoopingBus$Cache", "owns", "(I)Z"⟩, 6), (⟨"SnoopingBus$Core", "change", "(III)V"⟩, 8), (⟨"SnoopingBus$Cache", "put", "(II)V"⟩, 6), (⟨"SnoopingBus$Core", "removeOldestStore", "()V"⟩, 8), (⟨"SnoopingBus", "changeAtOnce", "(IIII)I"⟩, 6), (⟨"SnoopingBus", "serve", "(I)V"⟩, 6), (⟨"SnoopingBus", "serveRead", "(II)V"⟩, 6), (⟨"SnoopingBus", "shareElsewhere", "(II)Z"⟩, 6)]
theorem lw_r1 : ∀ q ∈ lw_privs_1, lw_okq q := List.forall_mem_cons.mpr ⟨lw_p0, List.forall_mem_cons.mpr ⟨lw_p1, List.forall_mem_cons.mpr ⟨lw_p2, List.forall_mem_cons.mpr ⟨lw_p3, List.forall_mem_cons.mpr ⟨lw_p4, List.forall_mem_cons.mpr ⟨lw_p5, List.forall_mem_cons.mpr ⟨lw_p6, List.forall_mem_cons.mpr ⟨lw_p7, List.forall_mem_cons.mpr ⟨lw_p8, List.forall_mem_cons.mpr ⟨lw_p9, List.forall_mem_cons.mpr ⟨lw_p10, List.forall_mem_cons.mpr ⟨lw_p11, List.forall_mem_cons.mpr ⟨lw_p12, List.forall_mem_cons.mpr ⟨lw_p13, List.forall_mem_cons.mpr ⟨lw_p14, List.forall_mem_cons.mpr ⟨lw_p15, fun _ h => absurd h List.not_mem_nil⟩⟩⟩⟩⟩⟩⟩⟩⟩⟩⟩⟩⟩⟩⟩⟩
theorem lw_p16 : lw_okq (⟨"SnoopingBus$Cache", "share", "(I)V"⟩, 6) := ⟨⟨by decide +kernel, by decide +kernel⟩, List.mem_of_getElem? (i := 43) (by decide +kernel), List.mem_of_getElem? (i := 225) (by decide +kernel), List.mem_of_getElem? (i := 226) (by decide +kernel)⟩
theorem lw_p17 : lw_okq (⟨"SnoopingBus$Cache", "writeBackIfModified", "(I)V"⟩, 6) := ⟨⟨by decide +kernel, by decide +kernel⟩, List.mem_of_getElem? (i := 43) (by decide +kernel), List.mem_of_getElem? (i := 229) (by decide +kernel), List.mem_of_getElem? (i := 230) (by decide +kernel)⟩
theorem lw_p18 : lw_okq (⟨"SnoopingBus$Cache", "fill", "(II)V"⟩, 6) := ⟨⟨by decide +kernel, by decide +kernel⟩, List.mem_of_getElem? (i := 43) (by decide +kernel), List.mem_of_getElem? (i := 236) (by decide +kernel), List.mem_of_getElem? (i := 237) (by decide +kernel)⟩
theorem lw_p19 : lw_okq (⟨"SnoopingBus$Cache", "lineToLeave", "(I)I"⟩, 6) := ⟨⟨by decide +kernel, by decide +kernel⟩, List.mem_of_getElem? (i := 43) (by decide +kernel), List.mem_of_getElem? (i := 240) (by decide +kernel), List.mem_of_getElem? (i := 241) (by decide +kernel)⟩
theorem lw_p20 : lw_okq (⟨"SnoopingBus$Cache", "drop", "(I)V"⟩, 6) := ⟨⟨by decide +kernel, by decide +kernel⟩, List.mem_of_getElem? (i := 43) (by decide +kernel), List.mem_of_getElem? (i := 245) (by decide +kernel), List.mem_of_getElem? (i := 246) (by decide +kernel)⟩
theorem lw_p21 : lw_okq (⟨"SnoopingBus", "takeLine", "(II)V"⟩, 6) := ⟨⟨by decide +kernel, by decide +kernel⟩, List.mem_of_getElem? (i := 9) (by decide +kernel), List.mem_of_getElem? (i := 249) (by decide +kernel), List.mem_of_getElem? (i := 250) (by decide +kernel)⟩
theorem lw_p22 : lw_okq (⟨"SnoopingBus", "invalidateElsewhere", "(II)V"⟩, 6) := ⟨⟨by decide +kernel, by decide +kernel⟩, List.mem_of_getElem? (i := 9) (by decide +kernel), List.mem_of_getElem? (i := 253) (by decide +kernel), List.mem_of_getElem? (i := 254) (by decide +kernel)⟩
theorem lw_p23 : lw_okq (⟨"SnoopingBusModel", "bars", "(II)I"⟩, 17) := ⟨⟨by decide +kernel, by decide +kernel⟩, List.mem_of_getElem? (i := 306) (by decide +kernel), List.mem_of_getElem? (i := 368) (by decide +kernel), List.mem_of_getElem? (i := 369) (by decide +kernel)⟩
theorem lw_p24 : lw_okq (⟨"SnoopingBusModel", "isCore", "(I)Z"⟩, 17) := ⟨⟨by decide +kernel, by decide +kernel⟩, List.mem_of_getElem? (i := 306) (by decide +kernel), List.mem_of_getElem? (i := 372) (by decide +kernel), List.mem_of_getElem? (i := 373) (by decide +kernel)⟩
theorem lw_p25 : lw_okq (⟨"SnoopingBusModel", "find", "(II)I"⟩, 17) := ⟨⟨by decide +kernel, by decide +kernel⟩, List.mem_of_getElem? (i := 306) (by decide +kernel), List.mem_of_getElem? (i := 379) (by decide +kernel), List.mem_of_getElem? (i := 380) (by decide +kernel)⟩
theorem lw_p26 : lw_okq (⟨"SnoopingBusModel", "ask", "(IIII)I"⟩, 17) := ⟨⟨by decide +kernel, by decide +kernel⟩, List.mem_of_getElem? (i := 306) (by decide +kernel), List.mem_of_getElem? (i := 383) (by decide +kernel), List.mem_of_getElem? (i := 384) (by decide +kernel)⟩
theorem lw_p27 : lw_okq (⟨"SnoopingBusModel", "wordAt", "(II)I"⟩, 17) := ⟨⟨by decide +kernel, by decide +kernel⟩, List.mem_of_getElem? (i := 306) (by decide +kernel), List.mem_of_getElem? (i := 387) (by decide +kernel), List.mem_of_getElem? (i := 388) (by decide +kernel)⟩
theorem lw_p28 : lw_okq (⟨"SnoopingBusModel", "use", "(I)V"⟩, 17) := ⟨⟨by decide +kernel, by decide +kernel⟩, List.mem_of_getElem? (i := 306) (by decide +kernel), List.mem_of_getElem? (i := 391) (by decide +kernel), List.mem_of_getElem? (i := 392) (by decide +kernel)⟩
theorem lw_p29 : lw_okq (⟨"SnoopingBusModel", "owns", "(I)Z"⟩, 17) := ⟨⟨by decide +kernel, by decide +kernel⟩, List.mem_of_getElem? (i := 306) (by decide +kernel), List.mem_of_getElem? (i := 403) (by decide +kernel), List.mem_of_getElem? (i := 404) (by decide +kernel)⟩
theorem lw_p30 : lw_okq (⟨"SnoopingBusModel", "drainTo", "(II)V"⟩, 17) := ⟨⟨by decide +kernel, by decide +kernel⟩, List.mem_of_getElem? (i := 306) (by decide +kernel), List.mem_of_getElem? (i := 407) (by decide +kernel), List.mem_of_getElem? (i := 408) (by decide +kernel)⟩
theorem lw_p31 : lw_okq (⟨"SnoopingBusModel", "put", "(III)V"⟩, 17) := ⟨⟨by decide +kernel, by decide +kernel⟩, List.mem_of_getElem? (i := 306) (by decide +kernel), List.mem_of_getElem? (i := 411) (by decide +kernel), List.mem_of_getElem? (i := 412) (by decide +kernel)⟩
def lw_privs_2 : List (MethodName × Nat) := [(⟨"SnoopingBus$Cache", "share", "(I)V"⟩, 6), (⟨"SnoopingBus$Cache", "writeBackIfModified", "(I)V"⟩, 6), (⟨"SnoopingBus$Cache", "fill", "(II)V"⟩, 6), (⟨"SnoopingBus$Cache", "lineToLeave", "(I)I"⟩, 6), (⟨"SnoopingBus$Cache", "drop", "(I)V"⟩, 6), (⟨"SnoopingBus", "takeLine", "(II)V"⟩, 6), (⟨"SnoopingBus", "invalidateElsewhere", "(II)V"⟩, 6), (⟨"SnoopingBusModel", "bars", "(II)I"⟩, 17), (⟨"SnoopingBusModel", "isCore", "(I)Z"⟩, 17), (⟨"SnoopingBusModel", "find", "(II)I"⟩, 17), (⟨"SnoopingBusModel", "ask", "(IIII)I"⟩, 17), (⟨"SnoopingBusModel", "wordAt", "(II)I"⟩, 17), (⟨"SnoopingBusModel", "use", "(I)V"⟩, 17), (⟨"SnoopingBusModel", "owns", "(I)Z"⟩, 17), (⟨"SnoopingBusModel", "drainTo", "(II)V"⟩, 17), (⟨"SnoopingBusModel", "put", "(III)V"⟩, 17)]
theorem lw_r2 : ∀ q ∈ lw_privs_2, lw_okq q := List.forall_mem_cons.mpr ⟨lw_p16, List.forall_mem_cons.mpr ⟨lw_p17, List.forall_mem_cons.mpr ⟨lw_p18, List.forall_mem_cons.mpr ⟨lw_p19, List.forall_mem_cons.mpr ⟨lw_p20, List.forall_mem_cons.mpr ⟨lw_p21, List.forall_mem_cons.mpr ⟨lw_p22, List.forall_mem_cons.mpr ⟨lw_p23, List.forall_mem_cons.mpr ⟨lw_p24, List.forall_mem_cons.mpr ⟨lw_p25, List.forall_mem_cons.mpr ⟨lw_p26, List.forall_mem_cons.mpr ⟨lw_p27, List.forall_mem_cons.mpr ⟨lw_p28, List.forall_mem_cons.mpr ⟨lw_p29, List.forall_mem_cons.mpr ⟨lw_p30, List.forall_mem_cons.mpr ⟨lw_p31, fun _ h => absurd h List.not_mem_nil⟩⟩⟩⟩⟩⟩⟩⟩⟩⟩⟩⟩⟩⟩⟩⟩
theorem lw_p32 : lw_okq (⟨"SnoopingBusModel", "change", "(IIIZ)I"⟩, 17) := ⟨⟨by decide +kernel, by decide +kernel⟩, List.mem_of_getElem? (i := 306) (by decide +kernel), List.mem_of_getElem? (i := 419) (by decide +kernel), List.mem_of_getElem? (i := 420) (by decide +kernel)⟩
theorem lw_p33 : lw_okq (⟨"SnoopingBusModel", "tradeAt", "(IIIIZ)V"⟩, 17) := ⟨⟨by decide +kernel, by decide +kernel⟩, List.mem_of_getElem? (i := 306) (by decide +kernel), List.mem_of_getElem? (i := 423) (by decide +kernel), List.mem_of_getElem? (i := 424) (by decide +kernel)⟩
theorem lw_p34 : lw_okq (⟨"SnoopingBusModel", "serveRead", "(II)V"⟩, 17) := ⟨⟨by decide +kernel, by decide +kernel⟩, List.mem_of_getElem? (i := 306) (by decide +kernel), List.mem_of_getElem? (i := 435) (by decide +kernel), List.mem_of_getElem? (i := 436) (by decide +kernel)⟩
theorem lw_p35 : lw_okq (⟨"SnoopingBusModel", "snoop", "(IIZ)Z"⟩, 17) := ⟨⟨by decide +kernel, by decide +kernel⟩, List.mem_of_getElem? (i := 306) (by decide +kernel), List.mem_of_getElem? (i := 439) (by decide +kernel), List.mem_of_getElem? (i := 440) (by decide +kernel)⟩
theorem lw_p36 : lw_okq (⟨"SnoopingBusModel", "writeBack", "(I)V"⟩, 17) := ⟨⟨by decide +kernel, by decide +kernel⟩, List.mem_of_getElem? (i := 306) (by decide +kernel), List.mem_of_getElem? (i := 443) (by decide +kernel), List.mem_of_getElem? (i := 444) (by decide +kernel)⟩
theorem lw_p37 : lw_okq (⟨"SnoopingBusModel", "fill", "(II)I"⟩, 17) := ⟨⟨by decide +kernel, by decide +kernel⟩, List.mem_of_getElem? (i := 306) (by decide +kernel), List.mem_of_getElem? (i := 447) (by decide +kernel), List.mem_of_getElem? (i := 448) (by decide +kernel)⟩
theorem lw_p38 : lw_okq (⟨"SnoopingBusModel", "roomIn", "(II)I"⟩, 17) := ⟨⟨by decide +kernel, by decide +kernel⟩, List.mem_of_getElem? (i := 306) (by decide +kernel), List.mem_of_getElem? (i := 451) (by decide +kernel), List.mem_of_getElem? (i := 452) (by decide +kernel)⟩
theorem lw_p39 : lw_okq (⟨"SnoopingBusModel", "serveOwn", "(III)V"⟩, 17) := ⟨⟨by decide +kernel, by decide +kernel⟩, List.mem_of_getElem? (i := 306) (by decide +kernel), List.mem_of_getElem? (i := 455) (by decide +kernel), List.mem_of_getElem? (i := 456) (by decide +kernel)⟩
def lw_privs_3 : List (MethodName × Nat) := [(⟨"SnoopingBusModel", "change", "(IIIZ)I"⟩, 17), (⟨"SnoopingBusModel", "tradeAt", "(IIIIZ)V"⟩, 17), (⟨"SnoopingBusModel", "serveRead", "(II)V"⟩, 17), (⟨"SnoopingBusModel", "snoop", "(IIZ)Z"⟩, 17), (⟨"SnoopingBusModel", "writeBack", "(I)V"⟩, 17), (⟨"SnoopingBusModel", "fill", "(II)I"⟩, 17), (⟨"SnoopingBusModel", "roomIn", "(II)I"⟩, 17), (⟨"SnoopingBusModel", "serveOwn", "(III)V"⟩, 17)]
theorem lw_r3 : ∀ q ∈ lw_privs_3, lw_okq q := List.forall_mem_cons.mpr ⟨lw_p32, List.forall_mem_cons.mpr ⟨lw_p33, List.forall_mem_cons.mpr ⟨lw_p34, List.forall_mem_cons.mpr ⟨lw_p35, List.forall_mem_cons.mpr ⟨lw_p36, List.forall_mem_cons.mpr ⟨lw_p37, List.forall_mem_cons.mpr ⟨lw_p38, List.forall_mem_cons.mpr ⟨lw_p39, fun _ h => absurd h List.not_mem_nil⟩⟩⟩⟩⟩⟩⟩⟩
def lw_privs : List (MethodName × Nat) := lw_privs_1 ++ (lw_privs_2 ++ (lw_privs_3))
def lw_tbl : List Cond := k2_sels lw_privs ++ tables_1
theorem lw_privs_ok : ∀ q ∈ lw_privs, lw_okq q := by
  show ∀ q ∈ lw_privs_1 ++ (lw_privs_2 ++ (lw_privs_3)), lw_okq q
  exact List.forall_mem_append.mpr ⟨lw_r1, List.forall_mem_append.mpr ⟨lw_r2, lw_r3⟩⟩
end
section
/-! Own names: classes, words, methods, decode rows (by wip/whole/gen/names.py). BG: the good words of the tables, one list for every method. -/
def BG : List Cond := lw_tbl.filter goodWord
theorem BG_good : GoodIn BG BG := fun w h => ⟨h, good_of_word (List.mem_filter.mp h).2⟩
theorem BG_cons {w : Cond} (h : w ∈ BG) : GoodIn BG (w :: BG) := fun x hx => (List.mem_cons.mp hx).elim (fun e => by rw [e]; exact BG_good w h) (BG_good x)
abbrev R_Cache : String := "SnoopingBus$Cache"
def T_Cache : u_T := fun k => match k with
  | 0 => ("SnoopingBus$Cache", "main", "LSnoopingBus$MainMemory;", true)
  | 1 => ("SnoopingBus$Cache", "ways", "I", true)
  | 2 => ("SnoopingBus$Cache", "states", "[I", true)
  | 3 => ("SnoopingBus$Cache", "usedAt", "[I", true)
  | 4 => ("SnoopingBus$Cache", "words", "[I", true)
  | _ => ("SnoopingBus$Cache", "uses", "I", false)
def ty_Cache : Nat → FieldType := fun k => match k with
  | 0 => .object "SnoopingBus$MainMemory"
  | 1 => .int
  | 2 => .array (.int)
  | 3 => .array (.int)
  | 4 => .array (.int)
  | _ => .int
theorem nm_Cache : ∀ a, a < 6 → ∀ b, b < 6 → a ≠ b → (T_Cache a).2.1 ≠ (T_Cache b).2.1 := by decide +kernel
theorem tyok_Cache : ∀ k, k < 6 → parseFieldDescriptor (T_Cache k).2.2.1 = some (ty_Cache k) := by decide +kernel
theorem iw_0 : (Cond.laysFinal "SnoopingBus$Cache" "SnoopingBus$Cache" "main" "LSnoopingBus$MainMemory;") ∈ BG := List.mem_filter.mpr ⟨List.mem_append_right _ (List.mem_append_left _ (List.mem_of_getElem? (l := tables_1_1) (i := 57) rfl)), rfl⟩
theorem iw_1 : (Cond.laysFinal "SnoopingBus$Cache" "SnoopingBus$Cache" "ways" "I") ∈ BG := List.mem_filter.mpr ⟨List.mem_append_right _ (List.mem_append_left _ (List.mem_of_getElem? (l := tables_1_1) (i := 59) rfl)), rfl⟩
theorem iw_2 : (Cond.laysFinal "SnoopingBus$Cache" "SnoopingBus$Cache" "states" "[I") ∈ BG := List.mem_filter.mpr ⟨List.mem_append_right _ (List.mem_append_left _ (List.mem_of_getElem? (l := tables_1_1) (i := 61) rfl)), rfl⟩
theorem iw_3 : (Cond.laysFinal "SnoopingBus$Cache" "SnoopingBus$Cache" "usedAt" "[I") ∈ BG := List.mem_filter.mpr ⟨List.mem_append_right _ (List.mem_append_left _ (List.mem_of_getElem? (l := tables_1_1) (i := 63) rfl)), rfl⟩
theorem iw_4 : (Cond.laysFinal "SnoopingBus$Cache" "SnoopingBus$Cache" "words" "[I") ∈ BG := List.mem_filter.mpr ⟨List.mem_append_right _ (List.mem_append_left _ (List.mem_of_getElem? (l := tables_1_1) (i := 65) rfl)), rfl⟩
theorem iw_5 : (Cond.lays "SnoopingBus$Cache" "SnoopingBus$Cache" "uses" "I") ∈ BG := List.mem_filter.mpr ⟨List.mem_append_right _ (List.mem_append_left _ (List.mem_of_getElem? (l := tables_1_1) (i := 67) rfl)), rfl⟩
theorem in_Cache : ∀ w ∈ u_ws R_Cache T_Cache 6, w ∈ BG := List.forall_mem_cons.mpr ⟨iw_0, List.forall_mem_cons.mpr ⟨iw_1, List.forall_mem_cons.mpr ⟨iw_2, List.forall_mem_cons.mpr ⟨iw_3, List.forall_mem_cons.mpr ⟨iw_4, List.forall_mem_cons.mpr ⟨iw_5, fun _ h => absurd h List.not_mem_nil⟩⟩⟩⟩⟩⟩
abbrev R_Core : String := "SnoopingBus$Core"
def T_Core : u_T := fun k => match k with
  | 0 => ("SnoopingBus$Core", "cache", "LSnoopingBus$Cache;", true)
  | 1 => ("SnoopingBus$Core", "storeAddresses", "[I", true)
  | 2 => ("SnoopingBus$Core", "storeWords", "[I", true)
  | 3 => ("SnoopingBus$Core", "stores", "I", false)
  | 4 => ("SnoopingBus$Core", "requestKind", "I", false)
  | 5 => ("SnoopingBus$Core", "requestAddress", "I", false)
  | 6 => ("SnoopingBus$Core", "requestWord", "I", false)
  | _ => ("SnoopingBus$Core", "lastWord", "I", false)
def ty_Core : Nat → FieldType := fun k => match k with
  | 0 => .object "SnoopingBus$Cache"
  | 1 => .array (.int)
  | 2 => .array (.int)
  | 3 => .int
  | 4 => .int
  | 5 => .int
  | 6 => .int
  | _ => .int
theorem nm_Core : ∀ a, a < 8 → ∀ b, b < 8 → a ≠ b → (T_Core a).2.1 ≠ (T_Core b).2.1 := by decide +kernel
theorem tyok_Core : ∀ k, k < 8 → parseFieldDescriptor (T_Core k).2.2.1 = some (ty_Core k) := by decide +kernel
theorem iw_6 : (Cond.laysFinal "SnoopingBus$Core" "SnoopingBus$Core" "cache" "LSnoopingBus$Cache;") ∈ BG := List.mem_filter.mpr ⟨List.mem_append_right _ (List.mem_append_left _ (List.mem_of_getElem? (l := tables_1_1) (i := 90) rfl)), rfl⟩
theorem iw_7 : (Cond.laysFinal "SnoopingBus$Core" "SnoopingBus$Core" "storeAddresses" "[I") ∈ BG := List.mem_filter.mpr ⟨List.mem_append_right _ (List.mem_append_left _ (List.mem_of_getElem? (l := tables_1_1) (i := 92) rfl)), rfl⟩
theorem iw_8 : (Cond.laysFinal "SnoopingBus$Core" "SnoopingBus$Core" "storeWords" "[I") ∈ BG := List.mem_filter.mpr ⟨List.mem_append_right _ (List.mem_append_left _ (List.mem_of_getElem? (l := tables_1_1) (i := 94) rfl)), rfl⟩
theorem iw_9 : (Cond.lays "SnoopingBus$Core" "SnoopingBus$Core" "stores" "I") ∈ BG := List.mem_filter.mpr ⟨List.mem_append_right _ (List.mem_append_left _ (List.mem_of_getElem? (l := tables_1_1) (i := 96) rfl)), rfl⟩
theorem iw_10 : (Cond.lays "SnoopingBus$Core" "SnoopingBus$Core" "requestKind" "I") ∈ BG := List.mem_filter.mpr ⟨List.mem_append_right _ (List.mem_append_left _ (List.mem_of_getElem? (l := tables_1_1) (i := 98) rfl)), rfl⟩
theorem iw_11 : (Cond.lays "SnoopingBus$Core" "SnoopingBus$Core" "requestAddress" "I") ∈ BG := List.mem_filter.mpr ⟨List.mem_append_right _ (List.mem_append_left _ (List.mem_of_getElem? (l := tables_1_1) (i := 100) rfl)), rfl⟩
theorem iw_12 : (Cond.lays "SnoopingBus$Core" "SnoopingBus$Core" "requestWord" "I") ∈ BG := List.mem_filter.mpr ⟨List.mem_append_right _ (List.mem_append_left _ (List.mem_of_getElem? (l := tables_1_1) (i := 102) rfl)), rfl⟩
theorem iw_13 : (Cond.lays "SnoopingBus$Core" "SnoopingBus$Core" "lastWord" "I") ∈ BG := List.mem_filter.mpr ⟨List.mem_append_right _ (List.mem_append_left _ (List.mem_of_getElem? (l := tables_1_1) (i := 104) rfl)), rfl⟩
theorem in_Core : ∀ w ∈ u_ws R_Core T_Core 8, w ∈ BG := List.forall_mem_cons.mpr ⟨iw_6, List.forall_mem_cons.mpr ⟨iw_7, List.forall_mem_cons.mpr ⟨iw_8, List.forall_mem_cons.mpr ⟨iw_9, List.forall_mem_cons.mpr ⟨iw_10, List.forall_mem_cons.mpr ⟨iw_11, List.forall_mem_cons.mpr ⟨iw_12, List.forall_mem_cons.mpr ⟨iw_13, fun _ h => absurd h List.not_mem_nil⟩⟩⟩⟩⟩⟩⟩⟩
abbrev R_Mem : String := "SnoopingBus$MainMemory"
def T_Mem : u_T := fun k => match k with
  | 0 => ("SnoopingBus$MainMemory", "words", "[I", true)
  | _ => ("SnoopingBus$MainMemory", "writeBacks", "I", false)
def ty_Mem : Nat → FieldType := fun k => match k with
  | 0 => .array (.int)
  | _ => .int
theorem nm_Mem : ∀ a, a < 2 → ∀ b, b < 2 → a ≠ b → (T_Mem a).2.1 ≠ (T_Mem b).2.1 := by decide +kernel
theorem tyok_Mem : ∀ k, k < 2 → parseFieldDescriptor (T_Mem k).2.2.1 = some (ty_Mem k) := by decide +kernel
theorem iw_14 : (Cond.laysFinal "SnoopingBus$MainMemory" "SnoopingBus$MainMemory" "words" "[I") ∈ BG := List.mem_filter.mpr ⟨List.mem_append_right _ (List.mem_append_left _ (List.mem_of_getElem? (l := tables_1_1) (i := 27) rfl)), rfl⟩
theorem iw_15 : (Cond.lays "SnoopingBus$MainMemory" "SnoopingBus$MainMemory" "writeBacks" "I") ∈ BG := List.mem_filter.mpr ⟨List.mem_append_right _ (List.mem_append_left _ (List.mem_of_getElem? (l := tables_1_1) (i := 29) rfl)), rfl⟩
theorem in_Mem : ∀ w ∈ u_ws R_Mem T_Mem 2, w ∈ BG := List.forall_mem_cons.mpr ⟨iw_14, List.forall_mem_cons.mpr ⟨iw_15, fun _ h => absurd h List.not_mem_nil⟩⟩
abbrev R_Bus : String := "SnoopingBus"
def T_Bus : u_T := fun k => match k with
  | 0 => ("SnoopingBus", "main", "LSnoopingBus$MainMemory;", true)
  | 1 => ("SnoopingBus", "cores", "[LSnoopingBus$Core;", true)
  | 2 => ("SnoopingBus", "servedLast", "I", false)
  | 3 => ("SnoopingBus", "served", "I", false)
  | 4 => ("SnoopingBus", "invalidations", "I", false)
  | _ => ("SnoopingBus", "upgrades", "I", false)
def ty_Bus : Nat → FieldType := fun k => match k with
  | 0 => .object "SnoopingBus$MainMemory"
  | 1 => .array (.object "SnoopingBus$Core")
  | 2 => .int
  | 3 => .int
  | 4 => .int
  | _ => .int
theorem nm_Bus : ∀ a, a < 6 → ∀ b, b < 6 → a ≠ b → (T_Bus a).2.1 ≠ (T_Bus b).2.1 := by decide +kernel
theorem tyok_Bus : ∀ k, k < 6 → parseFieldDescriptor (T_Bus k).2.2.1 = some (ty_Bus k) := by decide +kernel
theorem iw_16 : (Cond.laysFinal "SnoopingBus" "SnoopingBus" "main" "LSnoopingBus$MainMemory;") ∈ BG := List.mem_filter.mpr ⟨List.mem_append_right _ (List.mem_append_left _ (List.mem_of_getElem? (l := tables_1_1) (i := 113) rfl)), rfl⟩
theorem iw_17 : (Cond.laysFinal "SnoopingBus" "SnoopingBus" "cores" "[LSnoopingBus$Core;") ∈ BG := List.mem_filter.mpr ⟨List.mem_append_right _ (List.mem_append_left _ (List.mem_of_getElem? (l := tables_1_1) (i := 115) rfl)), rfl⟩
theorem iw_18 : (Cond.lays "SnoopingBus" "SnoopingBus" "servedLast" "I") ∈ BG := List.mem_filter.mpr ⟨List.mem_append_right _ (List.mem_append_left _ (List.mem_of_getElem? (l := tables_1_1) (i := 117) rfl)), rfl⟩
theorem iw_19 : (Cond.lays "SnoopingBus" "SnoopingBus" "served" "I") ∈ BG := List.mem_filter.mpr ⟨List.mem_append_right _ (List.mem_append_left _ (List.mem_of_getElem? (l := tables_1_1) (i := 119) rfl)), rfl⟩
theorem iw_20 : (Cond.lays "SnoopingBus" "SnoopingBus" "invalidations" "I") ∈ BG := List.mem_filter.mpr ⟨List.mem_append_right _ (List.mem_append_left _ (List.mem_of_getElem? (l := tables_1_1) (i := 121) rfl)), rfl⟩
theorem iw_21 : (Cond.lays "SnoopingBus" "SnoopingBus" "upgrades" "I") ∈ BG := List.mem_filter.mpr ⟨List.mem_append_right _ (List.mem_append_left _ (List.mem_of_getElem? (l := tables_1_1) (i := 123) rfl)), rfl⟩
theorem in_Bus : ∀ w ∈ u_ws R_Bus T_Bus 6, w ∈ BG := List.forall_mem_cons.mpr ⟨iw_16, List.forall_mem_cons.mpr ⟨iw_17, List.forall_mem_cons.mpr ⟨iw_18, List.forall_mem_cons.mpr ⟨iw_19, List.forall_mem_cons.mpr ⟨iw_20, List.forall_mem_cons.mpr ⟨iw_21, fun _ h => absurd h List.not_mem_nil⟩⟩⟩⟩⟩⟩
abbrev R_Model : String := "SnoopingBusModel"
def T_Model : u_T := fun k => match k with
  | 0 => ("SnoopingBusModel", "cores", "I", true)
  | 1 => ("SnoopingBusModel", "ways", "I", true)
  | 2 => ("SnoopingBusModel", "words", "[I", true)
  | 3 => ("SnoopingBusModel", "lines", "[I", true)
  | 4 => ("SnoopingBusModel", "states", "[I", true)
  | 5 => ("SnoopingBusModel", "used", "[I", true)
  | 6 => ("SnoopingBusModel", "copies", "[I", true)
  | 7 => ("SnoopingBusModel", "clock", "I", false)
  | 8 => ("SnoopingBusModel", "stores", "[I", true)
  | 9 => ("SnoopingBusModel", "addresses", "[I", true)
  | 10 => ("SnoopingBusModel", "values", "[I", true)
  | 11 => ("SnoopingBusModel", "lasts", "[I", true)
  | 12 => ("SnoopingBusModel", "kinds", "[I", true)
  | 13 => ("SnoopingBusModel", "wanted", "[I", true)
  | 14 => ("SnoopingBusModel", "operands", "[I", true)
  | 15 => ("SnoopingBusModel", "turn", "I", false)
  | _ => ("SnoopingBusModel", "counts", "[I", true)
def ty_Model : Nat → FieldType := fun k => match k with
  | 0 => .int
  | 1 => .int
  | 2 => .array (.int)
  | 3 => .array (.int)
  | 4 => .array (.int)
  | 5 => .array (.int)
  | 6 => .array (.int)
  | 7 => .int
  | 8 => .array (.int)
  | 9 => .array (.int)
  | 10 => .array (.int)
  | 11 => .array (.int)
  | 12 => .array (.int)
  | 13 => .array (.int)
  | 14 => .array (.int)
  | 15 => .int
  | _ => .array (.int)
theorem nm_Model : ∀ a, a < 17 → ∀ b, b < 17 → a ≠ b → (T_Model a).2.1 ≠ (T_Model b).2.1 := by decide +kernel
theorem tyok_Model : ∀ k, k < 17 → parseFieldDescriptor (T_Model k).2.2.1 = some (ty_Model k) := by decide +kernel
theorem iw_22 : (Cond.laysFinal "SnoopingBusModel" "SnoopingBusModel" "cores" "I") ∈ BG := List.mem_filter.mpr ⟨List.mem_append_right _ (List.mem_append_right _ (List.mem_append_left _ (List.mem_of_getElem? (l := tables_1_2) (i := 88) rfl))), rfl⟩
theorem iw_23 : (Cond.laysFinal "SnoopingBusModel" "SnoopingBusModel" "ways" "I") ∈ BG := List.mem_filter.mpr ⟨List.mem_append_right _ (List.mem_append_right _ (List.mem_append_left _ (List.mem_of_getElem? (l := tables_1_2) (i := 90) rfl))), rfl⟩
theorem iw_24 : (Cond.laysFinal "SnoopingBusModel" "SnoopingBusModel" "words" "[I") ∈ BG := List.mem_filter.mpr ⟨List.mem_append_right _ (List.mem_append_right _ (List.mem_append_left _ (List.mem_of_getElem? (l := tables_1_2) (i := 92) rfl))), rfl⟩
theorem iw_25 : (Cond.laysFinal "SnoopingBusModel" "SnoopingBusModel" "lines" "[I") ∈ BG := List.mem_filter.mpr ⟨List.mem_append_right _ (List.mem_append_right _ (List.mem_append_left _ (List.mem_of_getElem? (l := tables_1_2) (i := 94) rfl))), rfl⟩
theorem iw_26 : (Cond.laysFinal "SnoopingBusModel" "SnoopingBusModel" "states" "[I") ∈ BG := List.mem_filter.mpr ⟨List.mem_append_right _ (List.mem_append_right _ (List.mem_append_left _ (List.mem_of_getElem? (l := tables_1_2) (i := 96) rfl))), rfl⟩
theorem iw_27 : (Cond.laysFinal "SnoopingBusModel" "SnoopingBusModel" "used" "[I") ∈ BG := List.mem_filter.mpr ⟨List.mem_append_right _ (List.mem_append_right _ (List.mem_append_left _ (List.mem_of_getElem? (l := tables_1_2) (i := 98) rfl))), rfl⟩
theorem iw_28 : (Cond.laysFinal "SnoopingBusModel" "SnoopingBusModel" "copies" "[I") ∈ BG := List.mem_filter.mpr ⟨List.mem_append_right _ (List.mem_append_right _ (List.mem_append_left _ (List.mem_of_getElem? (l := tables_1_2) (i := 100) rfl))), rfl⟩
theorem iw_29 : (Cond.lays "SnoopingBusModel" "SnoopingBusModel" "clock" "I") ∈ BG := List.mem_filter.mpr ⟨List.mem_append_right _ (List.mem_append_right _ (List.mem_append_left _ (List.mem_of_getElem? (l := tables_1_2) (i := 102) rfl))), rfl⟩
theorem iw_30 : (Cond.laysFinal "SnoopingBusModel" "SnoopingBusModel" "stores" "[I") ∈ BG := List.mem_filter.mpr ⟨List.mem_append_right _ (List.mem_append_right _ (List.mem_append_left _ (List.mem_of_getElem? (l := tables_1_2) (i := 104) rfl))), rfl⟩
theorem iw_31 : (Cond.laysFinal "SnoopingBusModel" "SnoopingBusModel" "addresses" "[I") ∈ BG := List.mem_filter.mpr ⟨List.mem_append_right _ (List.mem_append_right _ (List.mem_append_left _ (List.mem_of_getElem? (l := tables_1_2) (i := 106) rfl))), rfl⟩
theorem iw_32 : (Cond.laysFinal "SnoopingBusModel" "SnoopingBusModel" "values" "[I") ∈ BG := List.mem_filter.mpr ⟨List.mem_append_right _ (List.mem_append_right _ (List.mem_append_left _ (List.mem_of_getElem? (l := tables_1_2) (i := 108) rfl))), rfl⟩
theorem iw_33 : (Cond.laysFinal "SnoopingBusModel" "SnoopingBusModel" "lasts" "[I") ∈ BG := List.mem_filter.mpr ⟨List.mem_append_right _ (List.mem_append_right _ (List.mem_append_left _ (List.mem_of_getElem? (l := tables_1_2) (i := 110) rfl))), rfl⟩
theorem iw_34 : (Cond.laysFinal "SnoopingBusModel" "SnoopingBusModel" "kinds" "[I") ∈ BG := List.mem_filter.mpr ⟨List.mem_append_right _ (List.mem_append_right _ (List.mem_append_left _ (List.mem_of_getElem? (l := tables_1_2) (i := 112) rfl))), rfl⟩
theorem iw_35 : (Cond.laysFinal "SnoopingBusModel" "SnoopingBusModel" "wanted" "[I") ∈ BG := List.mem_filter.mpr ⟨List.mem_append_right _ (List.mem_append_right _ (List.mem_append_left _ (List.mem_of_getElem? (l := tables_1_2) (i := 114) rfl))), rfl⟩
theorem iw_36 : (Cond.laysFinal "SnoopingBusModel" "SnoopingBusModel" "operands" "[I") ∈ BG := List.mem_filter.mpr ⟨List.mem_append_right _ (List.mem_append_right _ (List.mem_append_left _ (List.mem_of_getElem? (l := tables_1_2) (i := 116) rfl))), rfl⟩
theorem iw_37 : (Cond.lays "SnoopingBusModel" "SnoopingBusModel" "turn" "I") ∈ BG := List.mem_filter.mpr ⟨List.mem_append_right _ (List.mem_append_right _ (List.mem_append_left _ (List.mem_of_getElem? (l := tables_1_2) (i := 118) rfl))), rfl⟩
theorem iw_38 : (Cond.laysFinal "SnoopingBusModel" "SnoopingBusModel" "counts" "[I") ∈ BG := List.mem_filter.mpr ⟨List.mem_append_right _ (List.mem_append_right _ (List.mem_append_left _ (List.mem_of_getElem? (l := tables_1_2) (i := 120) rfl))), rfl⟩
theorem in_Model : ∀ w ∈ u_ws R_Model T_Model 17, w ∈ BG := List.forall_mem_cons.mpr ⟨iw_22, List.forall_mem_cons.mpr ⟨iw_23, List.forall_mem_cons.mpr ⟨iw_24, List.forall_mem_cons.mpr ⟨iw_25, List.forall_mem_cons.mpr ⟨iw_26, List.forall_mem_cons.mpr ⟨iw_27, List.forall_mem_cons.mpr ⟨iw_28, List.forall_mem_cons.mpr ⟨iw_29, List.forall_mem_cons.mpr ⟨iw_30, List.forall_mem_cons.mpr ⟨iw_31, List.forall_mem_cons.mpr ⟨iw_32, List.forall_mem_cons.mpr ⟨iw_33, List.forall_mem_cons.mpr ⟨iw_34, List.forall_mem_cons.mpr ⟨iw_35, List.forall_mem_cons.mpr ⟨iw_36, List.forall_mem_cons.mpr ⟨iw_37, List.forall_mem_cons.mpr ⟨iw_38, fun _ h => absurd h List.not_mem_nil⟩⟩⟩⟩⟩⟩⟩⟩⟩⟩⟩⟩⟩⟩⟩⟩⟩
abbrev vwCl : List vw_C := [(R_Cache, T_Cache, 6), (R_Core, T_Core, 8), (R_Mem, T_Mem, 2), (R_Bus, T_Bus, 6), (R_Model, T_Model, 17)]
def isNest : Cond → Bool
  | .fieldLinkNest .. => true
  | .methodLinkNest .. => true
  | _ => false
def NW : List Cond := tables_1.filter isNest
theorem iw_39 : (Cond.initialized "SnoopingBus") ∈ BG := List.mem_filter.mpr ⟨List.mem_append_right _ (List.mem_append_left _ (List.mem_of_getElem? (l := tables_1_1) (i := 1) rfl)), rfl⟩
theorem iw_40 : (Cond.initialized "SnoopingBus$Cache") ∈ BG := List.mem_filter.mpr ⟨List.mem_append_right _ (List.mem_append_left _ (List.mem_of_getElem? (l := tables_1_1) (i := 5) rfl)), rfl⟩
theorem iw_41 : (Cond.initialized "SnoopingBus$Core") ∈ BG := List.mem_filter.mpr ⟨List.mem_append_right _ (List.mem_append_left _ (List.mem_of_getElem? (l := tables_1_1) (i := 4) rfl)), rfl⟩
theorem iw_42 : (Cond.initialized "SnoopingBus$MainMemory") ∈ BG := List.mem_filter.mpr ⟨List.mem_append_right _ (List.mem_append_left _ (List.mem_of_getElem? (l := tables_1_1) (i := 2) rfl)), rfl⟩
theorem iw_43 : (Cond.initialized "SnoopingBusModel") ∈ BG := List.mem_filter.mpr ⟨List.mem_append_right _ (List.mem_append_left _ (List.mem_of_getElem? (l := tables_1_1) (i := 6) rfl)), rfl⟩
theorem iw_44 : (Cond.initialized "SnoopingBusLaw") ∈ BG := List.mem_filter.mpr ⟨List.mem_append_right _ (List.mem_append_left _ (List.mem_of_getElem? (l := tables_1_1) (i := 0) rfl)), rfl⟩
abbrev b_Bus_init : ByteArray := prog_1_method_1_code
abbrev y_Bus_init : MethodName := ⟨"SnoopingBus", "<init>", "(II)V"⟩
theorem iw_45 : (Cond.code ⟨"SnoopingBus", "<init>", "(II)V"⟩ prog_1_method_1_code 6 none) ∈ BG := List.mem_filter.mpr ⟨List.mem_append_right _ (List.mem_append_left _ (List.mem_of_getElem? (l := tables_1_1) (i := 12) rfl)), rfl⟩
abbrev w_Bus_init : List Cond := Cond.code y_Bus_init b_Bus_init 6 none :: BG
theorem g_Bus_init : GoodIn BG w_Bus_init := BG_cons iw_45
theorem iw_46 : (Cond.instanceMethod ⟨"SnoopingBus", "<init>", "(II)V"⟩) ∈ BG := List.mem_filter.mpr ⟨List.mem_append_right _ (List.mem_append_left _ (List.mem_of_getElem? (l := tables_1_1) (i := 11) rfl)), rfl⟩
theorem iw_47 : (Cond.methodLink "SnoopingBus" 1 ⟨"java/lang/Object", "<init>", "()V"⟩) ∈ BG := List.mem_filter.mpr ⟨List.mem_append_right _ (List.mem_append_left _ (List.mem_of_getElem? (l := tables_1_1) (i := 13) rfl)), rfl⟩
theorem iw_48 : (Cond.classLink "SnoopingBus" 7 "SnoopingBus$MainMemory") ∈ BG := List.mem_filter.mpr ⟨List.mem_append_right _ (List.mem_append_left _ (List.mem_of_getElem? (l := tables_1_1) (i := 16) rfl)), rfl⟩
theorem in_w0 : (Cond.methodLinkNest "SnoopingBus" 9 ⟨"SnoopingBus$MainMemory", "<init>", "()V"⟩ "SnoopingBus") ∈ NW := List.mem_filter.mpr ⟨List.mem_append_left _ (List.mem_of_getElem? (l := tables_1_1) (i := 18) rfl), rfl⟩
theorem iw_49 : (Cond.fieldLink "SnoopingBus" 10 "SnoopingBus" "main" "LSnoopingBus$MainMemory;") ∈ BG := List.mem_filter.mpr ⟨List.mem_append_right _ (List.mem_append_left _ (List.mem_of_getElem? (l := tables_1_1) (i := 107) rfl)), rfl⟩
theorem iw_50 : (Cond.methodLink "SnoopingBus" 16 ⟨"java/lang/Math", "min", "(II)I"⟩) ∈ BG := List.mem_filter.mpr ⟨List.mem_append_right _ (List.mem_append_left _ (List.mem_of_getElem? (l := tables_1_1) (i := 33) rfl)), rfl⟩
theorem iw_51 : (Cond.methodLink "SnoopingBus" 22 ⟨"java/lang/Math", "max", "(II)I"⟩) ∈ BG := List.mem_filter.mpr ⟨List.mem_append_right _ (List.mem_append_left _ (List.mem_of_getElem? (l := tables_1_1) (i := 36) rfl)), rfl⟩
theorem iw_52 : (Cond.classLink "SnoopingBus" 25 "SnoopingBus$Core") ∈ BG := List.mem_filter.mpr ⟨List.mem_append_right _ (List.mem_append_left _ (List.mem_of_getElem? (l := tables_1_1) (i := 39) rfl)), rfl⟩
theorem iw_53 : (Cond.fieldLink "SnoopingBus" 27 "SnoopingBus" "cores" "[LSnoopingBus$Core;") ∈ BG := List.mem_filter.mpr ⟨List.mem_append_right _ (List.mem_append_left _ (List.mem_of_getElem? (l := tables_1_1) (i := 108) rfl)), rfl⟩
theorem iw_54 : (Cond.classLink "SnoopingBus" 31 "SnoopingBus$Cache") ∈ BG := List.mem_filter.mpr ⟨List.mem_append_right _ (List.mem_append_left _ (List.mem_of_getElem? (l := tables_1_1) (i := 42) rfl)), rfl⟩
theorem in_w1 : (Cond.methodLinkNest "SnoopingBus" 33 ⟨"SnoopingBus$Cache", "<init>", "(LSnoopingBus$MainMemory;I)V"⟩ "SnoopingBus") ∈ NW := List.mem_filter.mpr ⟨List.mem_append_left _ (List.mem_of_getElem? (l := tables_1_1) (i := 44) rfl), rfl⟩
theorem in_w2 : (Cond.methodLinkNest "SnoopingBus" 36 ⟨"SnoopingBus$Core", "<init>", "(LSnoopingBus$Cache;)V"⟩ "SnoopingBus") ∈ NW := List.mem_filter.mpr ⟨List.mem_append_left _ (List.mem_of_getElem? (l := tables_1_1) (i := 70) rfl), rfl⟩
theorem iw_55 : (Cond.fieldLink "SnoopingBus" 39 "SnoopingBus" "servedLast" "I") ∈ BG := List.mem_filter.mpr ⟨List.mem_append_right _ (List.mem_append_left _ (List.mem_of_getElem? (l := tables_1_1) (i := 109) rfl)), rfl⟩
abbrev b_Mem_init : ByteArray := prog_4_method_1_code
abbrev y_Mem_init : MethodName := ⟨"SnoopingBus$MainMemory", "<init>", "()V"⟩
theorem iw_56 : (Cond.code ⟨"SnoopingBus$MainMemory", "<init>", "()V"⟩ prog_4_method_1_code 1 none) ∈ BG := List.mem_filter.mpr ⟨List.mem_append_right _ (List.mem_append_left _ (List.mem_of_getElem? (l := tables_1_1) (i := 20) rfl)), rfl⟩
abbrev w_Mem_init : List Cond := Cond.code y_Mem_init b_Mem_init 1 none :: BG
theorem g_Mem_init : GoodIn BG w_Mem_init := BG_cons iw_56
theorem iw_57 : (Cond.instanceMethod ⟨"SnoopingBus$MainMemory", "<init>", "()V"⟩) ∈ BG := List.mem_filter.mpr ⟨List.mem_append_right _ (List.mem_append_left _ (List.mem_of_getElem? (l := tables_1_1) (i := 19) rfl)), rfl⟩
theorem iw_58 : (Cond.methodLink "SnoopingBus$MainMemory" 3 ⟨"java/lang/Object", "<init>", "()V"⟩) ∈ BG := List.mem_filter.mpr ⟨List.mem_append_right _ (List.mem_append_left _ (List.mem_of_getElem? (l := tables_1_1) (i := 21) rfl)), rfl⟩
theorem iw_59 : (Cond.fieldLink "SnoopingBus$MainMemory" 9 "SnoopingBus$MainMemory" "words" "[I") ∈ BG := List.mem_filter.mpr ⟨List.mem_append_right _ (List.mem_append_left _ (List.mem_of_getElem? (l := tables_1_1) (i := 22) rfl)), rfl⟩
abbrev b_Cache_init : ByteArray := prog_2_method_1_code
abbrev y_Cache_init : MethodName := ⟨"SnoopingBus$Cache", "<init>", "(LSnoopingBus$MainMemory;I)V"⟩
theorem iw_60 : (Cond.code ⟨"SnoopingBus$Cache", "<init>", "(LSnoopingBus$MainMemory;I)V"⟩ prog_2_method_1_code 3 none) ∈ BG := List.mem_filter.mpr ⟨List.mem_append_right _ (List.mem_append_left _ (List.mem_of_getElem? (l := tables_1_1) (i := 46) rfl)), rfl⟩
abbrev w_Cache_init : List Cond := Cond.code y_Cache_init b_Cache_init 3 none :: BG
theorem g_Cache_init : GoodIn BG w_Cache_init := BG_cons iw_60
theorem iw_61 : (Cond.instanceMethod ⟨"SnoopingBus$Cache", "<init>", "(LSnoopingBus$MainMemory;I)V"⟩) ∈ BG := List.mem_filter.mpr ⟨List.mem_append_right _ (List.mem_append_left _ (List.mem_of_getElem? (l := tables_1_1) (i := 45) rfl)), rfl⟩
theorem iw_62 : (Cond.methodLink "SnoopingBus$Cache" 3 ⟨"java/lang/Object", "<init>", "()V"⟩) ∈ BG := List.mem_filter.mpr ⟨List.mem_append_right _ (List.mem_append_left _ (List.mem_of_getElem? (l := tables_1_1) (i := 47) rfl)), rfl⟩
theorem iw_63 : (Cond.fieldLink "SnoopingBus$Cache" 9 "SnoopingBus$Cache" "states" "[I") ∈ BG := List.mem_filter.mpr ⟨List.mem_append_right _ (List.mem_append_left _ (List.mem_of_getElem? (l := tables_1_1) (i := 50) rfl)), rfl⟩
theorem iw_64 : (Cond.fieldLink "SnoopingBus$Cache" 15 "SnoopingBus$Cache" "usedAt" "[I") ∈ BG := List.mem_filter.mpr ⟨List.mem_append_right _ (List.mem_append_left _ (List.mem_of_getElem? (l := tables_1_1) (i := 52) rfl)), rfl⟩
theorem iw_65 : (Cond.fieldLink "SnoopingBus$Cache" 18 "SnoopingBus$Cache" "words" "[I") ∈ BG := List.mem_filter.mpr ⟨List.mem_append_right _ (List.mem_append_left _ (List.mem_of_getElem? (l := tables_1_1) (i := 53) rfl)), rfl⟩
theorem iw_66 : (Cond.fieldLink "SnoopingBus$Cache" 21 "SnoopingBus$Cache" "main" "LSnoopingBus$MainMemory;") ∈ BG := List.mem_filter.mpr ⟨List.mem_append_right _ (List.mem_append_left _ (List.mem_of_getElem? (l := tables_1_1) (i := 48) rfl)), rfl⟩
theorem iw_67 : (Cond.fieldLink "SnoopingBus$Cache" 25 "SnoopingBus$Cache" "ways" "I") ∈ BG := List.mem_filter.mpr ⟨List.mem_append_right _ (List.mem_append_left _ (List.mem_of_getElem? (l := tables_1_1) (i := 49) rfl)), rfl⟩
abbrev b_Core_init : ByteArray := prog_3_method_1_code
abbrev y_Core_init : MethodName := ⟨"SnoopingBus$Core", "<init>", "(LSnoopingBus$Cache;)V"⟩
theorem iw_68 : (Cond.code ⟨"SnoopingBus$Core", "<init>", "(LSnoopingBus$Cache;)V"⟩ prog_3_method_1_code 2 none) ∈ BG := List.mem_filter.mpr ⟨List.mem_append_right _ (List.mem_append_left _ (List.mem_of_getElem? (l := tables_1_1) (i := 72) rfl)), rfl⟩
abbrev w_Core_init : List Cond := Cond.code y_Core_init b_Core_init 2 none :: BG
theorem g_Core_init : GoodIn BG w_Core_init := BG_cons iw_68
theorem iw_69 : (Cond.instanceMethod ⟨"SnoopingBus$Core", "<init>", "(LSnoopingBus$Cache;)V"⟩) ∈ BG := List.mem_filter.mpr ⟨List.mem_append_right _ (List.mem_append_left _ (List.mem_of_getElem? (l := tables_1_1) (i := 71) rfl)), rfl⟩
theorem iw_70 : (Cond.methodLink "SnoopingBus$Core" 3 ⟨"java/lang/Object", "<init>", "()V"⟩) ∈ BG := List.mem_filter.mpr ⟨List.mem_append_right _ (List.mem_append_left _ (List.mem_of_getElem? (l := tables_1_1) (i := 73) rfl)), rfl⟩
theorem iw_71 : (Cond.fieldLink "SnoopingBus$Core" 9 "SnoopingBus$Core" "storeAddresses" "[I") ∈ BG := List.mem_filter.mpr ⟨List.mem_append_right _ (List.mem_append_left _ (List.mem_of_getElem? (l := tables_1_1) (i := 76) rfl)), rfl⟩
theorem iw_72 : (Cond.fieldLink "SnoopingBus$Core" 15 "SnoopingBus$Core" "storeWords" "[I") ∈ BG := List.mem_filter.mpr ⟨List.mem_append_right _ (List.mem_append_left _ (List.mem_of_getElem? (l := tables_1_1) (i := 78) rfl)), rfl⟩
theorem iw_73 : (Cond.fieldLink "SnoopingBus$Core" 18 "SnoopingBus$Core" "requestKind" "I") ∈ BG := List.mem_filter.mpr ⟨List.mem_append_right _ (List.mem_append_left _ (List.mem_of_getElem? (l := tables_1_1) (i := 82) rfl)), rfl⟩
theorem iw_74 : (Cond.fieldLink "SnoopingBus$Core" 22 "SnoopingBus$Core" "cache" "LSnoopingBus$Cache;") ∈ BG := List.mem_filter.mpr ⟨List.mem_append_right _ (List.mem_append_left _ (List.mem_of_getElem? (l := tables_1_1) (i := 74) rfl)), rfl⟩
abbrev b_Bus_load : ByteArray := prog_1_method_2_code
abbrev y_Bus_load : MethodName := ⟨"SnoopingBus", "load", "(II)I"⟩
theorem iw_75 : (Cond.code ⟨"SnoopingBus", "load", "(II)I"⟩ prog_1_method_2_code 5 (some FieldType.int)) ∈ BG := List.mem_filter.mpr ⟨List.mem_append_right _ (List.mem_append_left _ (List.mem_of_getElem? (l := tables_1_1) (i := 129) rfl)), rfl⟩
abbrev w_Bus_load : List Cond := Cond.code y_Bus_load b_Bus_load 5 (some FieldType.int) :: BG
theorem g_Bus_load : GoodIn BG w_Bus_load := BG_cons iw_75
theorem iw_76 : (Cond.instanceMethod ⟨"SnoopingBus", "load", "(II)I"⟩) ∈ BG := List.mem_filter.mpr ⟨List.mem_append_right _ (List.mem_append_left _ (List.mem_of_getElem? (l := tables_1_1) (i := 127) rfl)), rfl⟩
theorem iw_77 : (Cond.selects "SnoopingBus" ⟨"SnoopingBus", "load", "(II)I"⟩ ⟨"SnoopingBus", "load", "(II)I"⟩) ∈ BG := List.mem_filter.mpr ⟨List.mem_append_right _ (List.mem_append_left _ (List.mem_of_getElem? (l := tables_1_1) (i := 128) rfl)), rfl⟩
theorem iw_78 : (Cond.methodLink "SnoopingBus" 43 ⟨"SnoopingBus", "isCore", "(I)Z"⟩) ∈ BG := List.mem_filter.mpr ⟨List.mem_append_right _ (List.mem_append_left _ (List.mem_of_getElem? (l := tables_1_1) (i := 130) rfl)), rfl⟩
theorem iw_79 : (Cond.methodLink "SnoopingBus" 47 ⟨"SnoopingBus", "isAddress", "(I)Z"⟩) ∈ BG := List.mem_filter.mpr ⟨List.mem_append_right _ (List.mem_append_left _ (List.mem_of_getElem? (l := tables_1_1) (i := 134) rfl)), rfl⟩
theorem in_w3 : (Cond.methodLinkNest "SnoopingBus" 50 ⟨"SnoopingBus$Core", "waits", "()Z"⟩ "SnoopingBus") ∈ NW := List.mem_filter.mpr ⟨List.mem_append_left _ (List.mem_of_getElem? (l := tables_1_1) (i := 137) rfl), rfl⟩
theorem in_w4 : (Cond.methodLinkNest "SnoopingBus" 54 ⟨"SnoopingBus$Core", "newestStoreTo", "(I)I"⟩ "SnoopingBus") ∈ NW := List.mem_filter.mpr ⟨List.mem_append_left _ (List.mem_of_getElem? (l := tables_1_1) (i := 141) rfl), rfl⟩
theorem in_w5 : (Cond.fieldLinkNest "SnoopingBus" 58 "SnoopingBus$Core" "storeWords" "[I" "SnoopingBus") ∈ NW := List.mem_filter.mpr ⟨List.mem_append_left _ (List.mem_of_getElem? (l := tables_1_1) (i := 79) rfl), rfl⟩
theorem in_w6 : (Cond.fieldLinkNest "SnoopingBus" 62 "SnoopingBus$Core" "lastWord" "I" "SnoopingBus") ∈ NW := List.mem_filter.mpr ⟨List.mem_append_left _ (List.mem_of_getElem? (l := tables_1_1) (i := 88) rfl), rfl⟩
theorem in_w7 : (Cond.fieldLinkNest "SnoopingBus" 65 "SnoopingBus$Core" "cache" "LSnoopingBus$Cache;" "SnoopingBus") ∈ NW := List.mem_filter.mpr ⟨List.mem_append_left _ (List.mem_of_getElem? (l := tables_1_1) (i := 75) rfl), rfl⟩
theorem iw_80 : (Cond.methodLink "SnoopingBus" 69 ⟨"SnoopingBus", "lineOf", "(I)I"⟩) ∈ BG := List.mem_filter.mpr ⟨List.mem_append_right _ (List.mem_append_left _ (List.mem_of_getElem? (l := tables_1_1) (i := 145) rfl)), rfl⟩
theorem in_w8 : (Cond.methodLinkNest "SnoopingBus" 72 ⟨"SnoopingBus$Cache", "holds", "(I)Z"⟩ "SnoopingBus") ∈ NW := List.mem_filter.mpr ⟨List.mem_append_left _ (List.mem_of_getElem? (l := tables_1_1) (i := 148) rfl), rfl⟩
theorem in_w9 : (Cond.fieldLinkNest "SnoopingBus" 75 "SnoopingBus$Cache" "words" "[I" "SnoopingBus") ∈ NW := List.mem_filter.mpr ⟨List.mem_append_left _ (List.mem_of_getElem? (l := tables_1_1) (i := 54) rfl), rfl⟩
theorem in_w10 : (Cond.methodLinkNest "SnoopingBus" 78 ⟨"SnoopingBus$Cache", "use", "(I)V"⟩ "SnoopingBus") ∈ NW := List.mem_filter.mpr ⟨List.mem_append_left _ (List.mem_of_getElem? (l := tables_1_1) (i := 152) rfl), rfl⟩
theorem in_w11 : (Cond.methodLinkNest "SnoopingBus" 82 ⟨"SnoopingBus$Core", "ask", "(III)V"⟩ "SnoopingBus") ∈ NW := List.mem_filter.mpr ⟨List.mem_append_left _ (List.mem_of_getElem? (l := tables_1_1) (i := 156) rfl), rfl⟩
abbrev b_Bus_isCore : ByteArray := prog_1_method_18_code
abbrev y_Bus_isCore : MethodName := ⟨"SnoopingBus", "isCore", "(I)Z"⟩
theorem iw_81 : (Cond.code ⟨"SnoopingBus", "isCore", "(I)Z"⟩ prog_1_method_18_code 2 (some FieldType.boolean)) ∈ BG := List.mem_filter.mpr ⟨List.mem_append_right _ (List.mem_append_left _ (List.mem_of_getElem? (l := tables_1_1) (i := 133) rfl)), rfl⟩
abbrev w_Bus_isCore : List Cond := Cond.code y_Bus_isCore b_Bus_isCore 2 (some FieldType.boolean) :: BG
theorem g_Bus_isCore : GoodIn BG w_Bus_isCore := BG_cons iw_81
theorem iw_82 : (Cond.instanceMethod ⟨"SnoopingBus", "isCore", "(I)Z"⟩) ∈ BG := List.mem_filter.mpr ⟨List.mem_append_right _ (List.mem_append_left _ (List.mem_of_getElem? (l := tables_1_1) (i := 132) rfl)), rfl⟩
theorem iw_83 : (Cond.selects "SnoopingBus" ⟨"SnoopingBus", "isCore", "(I)Z"⟩ ⟨"SnoopingBus", "isCore", "(I)Z"⟩) ∈ BG := List.mem_filter.mpr ⟨List.mem_append_left _ (List.mem_of_getElem? (l := k2_sels lw_privs) (i := 0) rfl), rfl⟩
abbrev b_Bus_isAddress : ByteArray := prog_1_method_19_code
abbrev y_Bus_isAddress : MethodName := ⟨"SnoopingBus", "isAddress", "(I)Z"⟩
theorem iw_84 : (Cond.code ⟨"SnoopingBus", "isAddress", "(I)Z"⟩ prog_1_method_19_code 1 (some FieldType.boolean)) ∈ BG := List.mem_filter.mpr ⟨List.mem_append_right _ (List.mem_append_left _ (List.mem_of_getElem? (l := tables_1_1) (i := 136) rfl)), rfl⟩
abbrev w_Bus_isAddress : List Cond := Cond.code y_Bus_isAddress b_Bus_isAddress 1 (some FieldType.boolean) :: BG
theorem g_Bus_isAddress : GoodIn BG w_Bus_isAddress := BG_cons iw_84
theorem iw_85 : (Cond.static ⟨"SnoopingBus", "isAddress", "(I)Z"⟩) ∈ BG := List.mem_filter.mpr ⟨List.mem_append_right _ (List.mem_append_left _ (List.mem_of_getElem? (l := tables_1_1) (i := 135) rfl)), rfl⟩
abbrev b_Core_waits : ByteArray := prog_3_method_2_code
abbrev y_Core_waits : MethodName := ⟨"SnoopingBus$Core", "waits", "()Z"⟩
theorem iw_86 : (Cond.code ⟨"SnoopingBus$Core", "waits", "()Z"⟩ prog_3_method_2_code 1 (some FieldType.boolean)) ∈ BG := List.mem_filter.mpr ⟨List.mem_append_right _ (List.mem_append_left _ (List.mem_of_getElem? (l := tables_1_1) (i := 140) rfl)), rfl⟩
abbrev w_Core_waits : List Cond := Cond.code y_Core_waits b_Core_waits 1 (some FieldType.boolean) :: BG
theorem g_Core_waits : GoodIn BG w_Core_waits := BG_cons iw_86
theorem iw_87 : (Cond.instanceMethod ⟨"SnoopingBus$Core", "waits", "()Z"⟩) ∈ BG := List.mem_filter.mpr ⟨List.mem_append_right _ (List.mem_append_left _ (List.mem_of_getElem? (l := tables_1_1) (i := 139) rfl)), rfl⟩
theorem iw_88 : (Cond.selects "SnoopingBus$Core" ⟨"SnoopingBus$Core", "waits", "()Z"⟩ ⟨"SnoopingBus$Core", "waits", "()Z"⟩) ∈ BG := List.mem_filter.mpr ⟨List.mem_append_left _ (List.mem_of_getElem? (l := k2_sels lw_privs) (i := 1) rfl), rfl⟩
abbrev b_Core_newestStoreTo : ByteArray := prog_3_method_4_code
abbrev y_Core_newestStoreTo : MethodName := ⟨"SnoopingBus$Core", "newestStoreTo", "(I)I"⟩
theorem iw_89 : (Cond.code ⟨"SnoopingBus$Core", "newestStoreTo", "(I)I"⟩ prog_3_method_4_code 3 (some FieldType.int)) ∈ BG := List.mem_filter.mpr ⟨List.mem_append_right _ (List.mem_append_left _ (List.mem_of_getElem? (l := tables_1_1) (i := 144) rfl)), rfl⟩
abbrev w_Core_newestStoreTo : List Cond := Cond.code y_Core_newestStoreTo b_Core_newestStoreTo 3 (some FieldType.int) :: BG
theorem g_Core_newestStoreTo : GoodIn BG w_Core_newestStoreTo := BG_cons iw_89
theorem iw_90 : (Cond.instanceMethod ⟨"SnoopingBus$Core", "newestStoreTo", "(I)I"⟩) ∈ BG := List.mem_filter.mpr ⟨List.mem_append_right _ (List.mem_append_left _ (List.mem_of_getElem? (l := tables_1_1) (i := 143) rfl)), rfl⟩
theorem iw_91 : (Cond.selects "SnoopingBus$Core" ⟨"SnoopingBus$Core", "newestStoreTo", "(I)I"⟩ ⟨"SnoopingBus$Core", "newestStoreTo", "(I)I"⟩) ∈ BG := List.mem_filter.mpr ⟨List.mem_append_left _ (List.mem_of_getElem? (l := k2_sels lw_privs) (i := 2) rfl), rfl⟩
theorem iw_92 : (Cond.fieldLink "SnoopingBus$Core" 32 "SnoopingBus$Core" "stores" "I") ∈ BG := List.mem_filter.mpr ⟨List.mem_append_right _ (List.mem_append_left _ (List.mem_of_getElem? (l := tables_1_1) (i := 81) rfl)), rfl⟩
abbrev b_Bus_lineOf : ByteArray := prog_1_method_21_code
abbrev y_Bus_lineOf : MethodName := ⟨"SnoopingBus", "lineOf", "(I)I"⟩
theorem iw_93 : (Cond.code ⟨"SnoopingBus", "lineOf", "(I)I"⟩ prog_1_method_21_code 1 (some FieldType.int)) ∈ BG := List.mem_filter.mpr ⟨List.mem_append_right _ (List.mem_append_left _ (List.mem_of_getElem? (l := tables_1_1) (i := 147) rfl)), rfl⟩
abbrev w_Bus_lineOf : List Cond := Cond.code y_Bus_lineOf b_Bus_lineOf 1 (some FieldType.int) :: BG
theorem g_Bus_lineOf : GoodIn BG w_Bus_lineOf := BG_cons iw_93
theorem iw_94 : (Cond.static ⟨"SnoopingBus", "lineOf", "(I)I"⟩) ∈ BG := List.mem_filter.mpr ⟨List.mem_append_right _ (List.mem_append_left _ (List.mem_of_getElem? (l := tables_1_1) (i := 146) rfl)), rfl⟩
abbrev b_Cache_holds : ByteArray := prog_2_method_2_code
abbrev y_Cache_holds : MethodName := ⟨"SnoopingBus$Cache", "holds", "(I)Z"⟩
theorem iw_95 : (Cond.code ⟨"SnoopingBus$Cache", "holds", "(I)Z"⟩ prog_2_method_2_code 2 (some FieldType.boolean)) ∈ BG := List.mem_filter.mpr ⟨List.mem_append_right _ (List.mem_append_left _ (List.mem_of_getElem? (l := tables_1_1) (i := 151) rfl)), rfl⟩
abbrev w_Cache_holds : List Cond := Cond.code y_Cache_holds b_Cache_holds 2 (some FieldType.boolean) :: BG
theorem g_Cache_holds : GoodIn BG w_Cache_holds := BG_cons iw_95
theorem iw_96 : (Cond.instanceMethod ⟨"SnoopingBus$Cache", "holds", "(I)Z"⟩) ∈ BG := List.mem_filter.mpr ⟨List.mem_append_right _ (List.mem_append_left _ (List.mem_of_getElem? (l := tables_1_1) (i := 150) rfl)), rfl⟩
theorem iw_97 : (Cond.selects "SnoopingBus$Cache" ⟨"SnoopingBus$Cache", "holds", "(I)Z"⟩ ⟨"SnoopingBus$Cache", "holds", "(I)Z"⟩) ∈ BG := List.mem_filter.mpr ⟨List.mem_append_left _ (List.mem_of_getElem? (l := k2_sels lw_privs) (i := 3) rfl), rfl⟩
abbrev b_Cache_use : ByteArray := prog_2_method_4_code
abbrev y_Cache_use : MethodName := ⟨"SnoopingBus$Cache", "use", "(I)V"⟩
theorem iw_98 : (Cond.code ⟨"SnoopingBus$Cache", "use", "(I)V"⟩ prog_2_method_4_code 2 none) ∈ BG := List.mem_filter.mpr ⟨List.mem_append_right _ (List.mem_append_left _ (List.mem_of_getElem? (l := tables_1_1) (i := 155) rfl)), rfl⟩
abbrev w_Cache_use : List Cond := Cond.code y_Cache_use b_Cache_use 2 none :: BG
theorem g_Cache_use : GoodIn BG w_Cache_use := BG_cons iw_98
theorem iw_99 : (Cond.instanceMethod ⟨"SnoopingBus$Cache", "use", "(I)V"⟩) ∈ BG := List.mem_filter.mpr ⟨List.mem_append_right _ (List.mem_append_left _ (List.mem_of_getElem? (l := tables_1_1) (i := 154) rfl)), rfl⟩
theorem iw_100 : (Cond.selects "SnoopingBus$Cache" ⟨"SnoopingBus$Cache", "use", "(I)V"⟩ ⟨"SnoopingBus$Cache", "use", "(I)V"⟩) ∈ BG := List.mem_filter.mpr ⟨List.mem_append_left _ (List.mem_of_getElem? (l := k2_sels lw_privs) (i := 4) rfl), rfl⟩
theorem iw_101 : (Cond.fieldLink "SnoopingBus$Cache" 29 "SnoopingBus$Cache" "uses" "I") ∈ BG := List.mem_filter.mpr ⟨List.mem_append_right _ (List.mem_append_left _ (List.mem_of_getElem? (l := tables_1_1) (i := 56) rfl)), rfl⟩
abbrev b_Core_ask : ByteArray := prog_3_method_3_code
abbrev y_Core_ask : MethodName := ⟨"SnoopingBus$Core", "ask", "(III)V"⟩
theorem iw_102 : (Cond.code ⟨"SnoopingBus$Core", "ask", "(III)V"⟩ prog_3_method_3_code 4 none) ∈ BG := List.mem_filter.mpr ⟨List.mem_append_right _ (List.mem_append_left _ (List.mem_of_getElem? (l := tables_1_1) (i := 159) rfl)), rfl⟩
abbrev w_Core_ask : List Cond := Cond.code y_Core_ask b_Core_ask 4 none :: BG
theorem g_Core_ask : GoodIn BG w_Core_ask := BG_cons iw_102
theorem iw_103 : (Cond.instanceMethod ⟨"SnoopingBus$Core", "ask", "(III)V"⟩) ∈ BG := List.mem_filter.mpr ⟨List.mem_append_right _ (List.mem_append_left _ (List.mem_of_getElem? (l := tables_1_1) (i := 158) rfl)), rfl⟩
theorem iw_104 : (Cond.selects "SnoopingBus$Core" ⟨"SnoopingBus$Core", "ask", "(III)V"⟩ ⟨"SnoopingBus$Core", "ask", "(III)V"⟩) ∈ BG := List.mem_filter.mpr ⟨List.mem_append_left _ (List.mem_of_getElem? (l := k2_sels lw_privs) (i := 5) rfl), rfl⟩
theorem iw_105 : (Cond.fieldLink "SnoopingBus$Core" 26 "SnoopingBus$Core" "requestAddress" "I") ∈ BG := List.mem_filter.mpr ⟨List.mem_append_right _ (List.mem_append_left _ (List.mem_of_getElem? (l := tables_1_1) (i := 84) rfl)), rfl⟩
theorem iw_106 : (Cond.fieldLink "SnoopingBus$Core" 29 "SnoopingBus$Core" "requestWord" "I") ∈ BG := List.mem_filter.mpr ⟨List.mem_append_right _ (List.mem_append_left _ (List.mem_of_getElem? (l := tables_1_1) (i := 86) rfl)), rfl⟩
abbrev b_Bus_store : ByteArray := prog_1_method_3_code
abbrev y_Bus_store : MethodName := ⟨"SnoopingBus", "store", "(III)I"⟩
theorem iw_107 : (Cond.code ⟨"SnoopingBus", "store", "(III)I"⟩ prog_1_method_3_code 5 (some FieldType.int)) ∈ BG := List.mem_filter.mpr ⟨List.mem_append_right _ (List.mem_append_left _ (List.mem_of_getElem? (l := tables_1_1) (i := 163) rfl)), rfl⟩
abbrev w_Bus_store : List Cond := Cond.code y_Bus_store b_Bus_store 5 (some FieldType.int) :: BG
theorem g_Bus_store : GoodIn BG w_Bus_store := BG_cons iw_107
theorem iw_108 : (Cond.instanceMethod ⟨"SnoopingBus", "store", "(III)I"⟩) ∈ BG := List.mem_filter.mpr ⟨List.mem_append_right _ (List.mem_append_left _ (List.mem_of_getElem? (l := tables_1_1) (i := 161) rfl)), rfl⟩
theorem iw_109 : (Cond.selects "SnoopingBus" ⟨"SnoopingBus", "store", "(III)I"⟩ ⟨"SnoopingBus", "store", "(III)I"⟩) ∈ BG := List.mem_filter.mpr ⟨List.mem_append_right _ (List.mem_append_left _ (List.mem_of_getElem? (l := tables_1_1) (i := 162) rfl)), rfl⟩
theorem in_w12 : (Cond.fieldLinkNest "SnoopingBus" 86 "SnoopingBus$Core" "stores" "I" "SnoopingBus") ∈ NW := List.mem_filter.mpr ⟨List.mem_append_left _ (List.mem_of_getElem? (l := tables_1_1) (i := 80) rfl), rfl⟩
theorem in_w13 : (Cond.methodLinkNest "SnoopingBus" 89 ⟨"SnoopingBus$Core", "appendStore", "(II)V"⟩ "SnoopingBus") ∈ NW := List.mem_filter.mpr ⟨List.mem_append_left _ (List.mem_of_getElem? (l := tables_1_1) (i := 164) rfl), rfl⟩
abbrev b_Core_appendStore : ByteArray := prog_3_method_5_code
abbrev y_Core_appendStore : MethodName := ⟨"SnoopingBus$Core", "appendStore", "(II)V"⟩
theorem iw_110 : (Cond.code ⟨"SnoopingBus$Core", "appendStore", "(II)V"⟩ prog_3_method_5_code 3 none) ∈ BG := List.mem_filter.mpr ⟨List.mem_append_right _ (List.mem_append_left _ (List.mem_of_getElem? (l := tables_1_1) (i := 167) rfl)), rfl⟩
abbrev w_Core_appendStore : List Cond := Cond.code y_Core_appendStore b_Core_appendStore 3 none :: BG
theorem g_Core_appendStore : GoodIn BG w_Core_appendStore := BG_cons iw_110
theorem iw_111 : (Cond.instanceMethod ⟨"SnoopingBus$Core", "appendStore", "(II)V"⟩) ∈ BG := List.mem_filter.mpr ⟨List.mem_append_right _ (List.mem_append_left _ (List.mem_of_getElem? (l := tables_1_1) (i := 166) rfl)), rfl⟩
theorem iw_112 : (Cond.selects "SnoopingBus$Core" ⟨"SnoopingBus$Core", "appendStore", "(II)V"⟩ ⟨"SnoopingBus$Core", "appendStore", "(II)V"⟩) ∈ BG := List.mem_filter.mpr ⟨List.mem_append_left _ (List.mem_of_getElem? (l := k2_sels lw_privs) (i := 6) rfl), rfl⟩
abbrev b_Bus_drain : ByteArray := prog_1_method_4_code
abbrev y_Bus_drain : MethodName := ⟨"SnoopingBus", "drain", "(I)I"⟩
theorem iw_113 : (Cond.code ⟨"SnoopingBus", "drain", "(I)I"⟩ prog_1_method_4_code 3 (some FieldType.int)) ∈ BG := List.mem_filter.mpr ⟨List.mem_append_right _ (List.mem_append_left _ (List.mem_of_getElem? (l := tables_1_1) (i := 171) rfl)), rfl⟩
abbrev w_Bus_drain : List Cond := Cond.code y_Bus_drain b_Bus_drain 3 (some FieldType.int) :: BG
theorem g_Bus_drain : GoodIn BG w_Bus_drain := BG_cons iw_113
theorem iw_114 : (Cond.instanceMethod ⟨"SnoopingBus", "drain", "(I)I"⟩) ∈ BG := List.mem_filter.mpr ⟨List.mem_append_right _ (List.mem_append_left _ (List.mem_of_getElem? (l := tables_1_1) (i := 169) rfl)), rfl⟩
theorem iw_115 : (Cond.selects "SnoopingBus" ⟨"SnoopingBus", "drain", "(I)I"⟩ ⟨"SnoopingBus", "drain", "(I)I"⟩) ∈ BG := List.mem_filter.mpr ⟨List.mem_append_right _ (List.mem_append_left _ (List.mem_of_getElem? (l := tables_1_1) (i := 170) rfl)), rfl⟩
theorem in_w14 : (Cond.fieldLinkNest "SnoopingBus" 93 "SnoopingBus$Core" "storeAddresses" "[I" "SnoopingBus") ∈ NW := List.mem_filter.mpr ⟨List.mem_append_left _ (List.mem_of_getElem? (l := tables_1_1) (i := 77) rfl), rfl⟩
theorem in_w15 : (Cond.methodLinkNest "SnoopingBus" 96 ⟨"SnoopingBus$Core", "changeOrAsk", "(III)I"⟩ "SnoopingBus") ∈ NW := List.mem_filter.mpr ⟨List.mem_append_left _ (List.mem_of_getElem? (l := tables_1_1) (i := 172) rfl), rfl⟩
abbrev b_Core_changeOrAsk : ByteArray := prog_3_method_7_code
abbrev y_Core_changeOrAsk : MethodName := ⟨"SnoopingBus$Core", "changeOrAsk", "(III)I"⟩
theorem iw_116 : (Cond.code ⟨"SnoopingBus$Core", "changeOrAsk", "(III)I"⟩ prog_3_method_7_code 4 (some FieldType.int)) ∈ BG := List.mem_filter.mpr ⟨List.mem_append_right _ (List.mem_append_left _ (List.mem_of_getElem? (l := tables_1_1) (i := 175) rfl)), rfl⟩
abbrev w_Core_changeOrAsk : List Cond := Cond.code y_Core_changeOrAsk b_Core_changeOrAsk 4 (some FieldType.int) :: BG
theorem g_Core_changeOrAsk : GoodIn BG w_Core_changeOrAsk := BG_cons iw_116
theorem iw_117 : (Cond.instanceMethod ⟨"SnoopingBus$Core", "changeOrAsk", "(III)I"⟩) ∈ BG := List.mem_filter.mpr ⟨List.mem_append_right _ (List.mem_append_left _ (List.mem_of_getElem? (l := tables_1_1) (i := 174) rfl)), rfl⟩
theorem iw_118 : (Cond.selects "SnoopingBus$Core" ⟨"SnoopingBus$Core", "changeOrAsk", "(III)I"⟩ ⟨"SnoopingBus$Core", "changeOrAsk", "(III)I"⟩) ∈ BG := List.mem_filter.mpr ⟨List.mem_append_left _ (List.mem_of_getElem? (l := k2_sels lw_privs) (i := 7) rfl), rfl⟩
theorem in_w16 : (Cond.methodLinkNest "SnoopingBus$Core" 35 ⟨"SnoopingBus", "lineOf", "(I)I"⟩ "SnoopingBus") ∈ NW := List.mem_filter.mpr ⟨List.mem_append_left _ (List.mem_of_getElem? (l := tables_1_1) (i := 176) rfl), rfl⟩
theorem in_w17 : (Cond.methodLinkNest "SnoopingBus$Core" 39 ⟨"SnoopingBus$Cache", "owns", "(I)Z"⟩ "SnoopingBus") ∈ NW := List.mem_filter.mpr ⟨List.mem_append_left _ (List.mem_of_getElem? (l := tables_1_1) (i := 177) rfl), rfl⟩
theorem iw_119 : (Cond.methodLink "SnoopingBus$Core" 45 ⟨"SnoopingBus$Core", "change", "(III)V"⟩) ∈ BG := List.mem_filter.mpr ⟨List.mem_append_right _ (List.mem_append_left _ (List.mem_of_getElem? (l := tables_1_1) (i := 181) rfl)), rfl⟩
theorem iw_120 : (Cond.methodLink "SnoopingBus$Core" 49 ⟨"SnoopingBus$Core", "ask", "(III)V"⟩) ∈ BG := List.mem_filter.mpr ⟨List.mem_append_right _ (List.mem_append_left _ (List.mem_of_getElem? (l := tables_1_1) (i := 195) rfl)), rfl⟩
abbrev b_Cache_owns : ByteArray := prog_2_method_3_code
abbrev y_Cache_owns : MethodName := ⟨"SnoopingBus$Cache", "owns", "(I)Z"⟩
theorem iw_121 : (Cond.code ⟨"SnoopingBus$Cache", "owns", "(I)Z"⟩ prog_2_method_3_code 2 (some FieldType.boolean)) ∈ BG := List.mem_filter.mpr ⟨List.mem_append_right _ (List.mem_append_left _ (List.mem_of_getElem? (l := tables_1_1) (i := 180) rfl)), rfl⟩
abbrev w_Cache_owns : List Cond := Cond.code y_Cache_owns b_Cache_owns 2 (some FieldType.boolean) :: BG
theorem g_Cache_owns : GoodIn BG w_Cache_owns := BG_cons iw_121
theorem iw_122 : (Cond.instanceMethod ⟨"SnoopingBus$Cache", "owns", "(I)Z"⟩) ∈ BG := List.mem_filter.mpr ⟨List.mem_append_right _ (List.mem_append_left _ (List.mem_of_getElem? (l := tables_1_1) (i := 179) rfl)), rfl⟩
theorem iw_123 : (Cond.selects "SnoopingBus$Cache" ⟨"SnoopingBus$Cache", "owns", "(I)Z"⟩ ⟨"SnoopingBus$Cache", "owns", "(I)Z"⟩) ∈ BG := List.mem_filter.mpr ⟨List.mem_append_left _ (List.mem_of_getElem? (l := k2_sels lw_privs) (i := 8) rfl), rfl⟩
abbrev b_Core_change : ByteArray := prog_3_method_8_code
abbrev y_Core_change : MethodName := ⟨"SnoopingBus$Core", "change", "(III)V"⟩
theorem iw_124 : (Cond.code ⟨"SnoopingBus$Core", "change", "(III)V"⟩ prog_3_method_8_code 5 none) ∈ BG := List.mem_filter.mpr ⟨List.mem_append_right _ (List.mem_append_left _ (List.mem_of_getElem? (l := tables_1_1) (i := 184) rfl)), rfl⟩
abbrev w_Core_change : List Cond := Cond.code y_Core_change b_Core_change 5 none :: BG
theorem g_Core_change : GoodIn BG w_Core_change := BG_cons iw_124
theorem iw_125 : (Cond.instanceMethod ⟨"SnoopingBus$Core", "change", "(III)V"⟩) ∈ BG := List.mem_filter.mpr ⟨List.mem_append_right _ (List.mem_append_left _ (List.mem_of_getElem? (l := tables_1_1) (i := 183) rfl)), rfl⟩
theorem iw_126 : (Cond.selects "SnoopingBus$Core" ⟨"SnoopingBus$Core", "change", "(III)V"⟩ ⟨"SnoopingBus$Core", "change", "(III)V"⟩) ∈ BG := List.mem_filter.mpr ⟨List.mem_append_left _ (List.mem_of_getElem? (l := k2_sels lw_privs) (i := 9) rfl), rfl⟩
theorem in_w18 : (Cond.methodLinkNest "SnoopingBus$Core" 52 ⟨"SnoopingBus$Cache", "put", "(II)V"⟩ "SnoopingBus") ∈ NW := List.mem_filter.mpr ⟨List.mem_append_left _ (List.mem_of_getElem? (l := tables_1_1) (i := 185) rfl), rfl⟩
theorem iw_127 : (Cond.methodLink "SnoopingBus$Core" 56 ⟨"SnoopingBus$Core", "removeOldestStore", "()V"⟩) ∈ BG := List.mem_filter.mpr ⟨List.mem_append_right _ (List.mem_append_left _ (List.mem_of_getElem? (l := tables_1_1) (i := 191) rfl)), rfl⟩
theorem in_w19 : (Cond.fieldLinkNest "SnoopingBus$Core" 59 "SnoopingBus$Cache" "words" "[I" "SnoopingBus") ∈ NW := List.mem_filter.mpr ⟨List.mem_append_left _ (List.mem_of_getElem? (l := tables_1_1) (i := 55) rfl), rfl⟩
theorem iw_128 : (Cond.fieldLink "SnoopingBus$Core" 62 "SnoopingBus$Core" "lastWord" "I") ∈ BG := List.mem_filter.mpr ⟨List.mem_append_right _ (List.mem_append_left _ (List.mem_of_getElem? (l := tables_1_1) (i := 89) rfl)), rfl⟩
abbrev b_Cache_put : ByteArray := prog_2_method_5_code
abbrev y_Cache_put : MethodName := ⟨"SnoopingBus$Cache", "put", "(II)V"⟩
theorem iw_129 : (Cond.code ⟨"SnoopingBus$Cache", "put", "(II)V"⟩ prog_2_method_5_code 4 none) ∈ BG := List.mem_filter.mpr ⟨List.mem_append_right _ (List.mem_append_left _ (List.mem_of_getElem? (l := tables_1_1) (i := 188) rfl)), rfl⟩
abbrev w_Cache_put : List Cond := Cond.code y_Cache_put b_Cache_put 4 none :: BG
theorem g_Cache_put : GoodIn BG w_Cache_put := BG_cons iw_129
theorem iw_130 : (Cond.instanceMethod ⟨"SnoopingBus$Cache", "put", "(II)V"⟩) ∈ BG := List.mem_filter.mpr ⟨List.mem_append_right _ (List.mem_append_left _ (List.mem_of_getElem? (l := tables_1_1) (i := 187) rfl)), rfl⟩
theorem iw_131 : (Cond.selects "SnoopingBus$Cache" ⟨"SnoopingBus$Cache", "put", "(II)V"⟩ ⟨"SnoopingBus$Cache", "put", "(II)V"⟩) ∈ BG := List.mem_filter.mpr ⟨List.mem_append_left _ (List.mem_of_getElem? (l := k2_sels lw_privs) (i := 10) rfl), rfl⟩
theorem in_w20 : (Cond.methodLinkNest "SnoopingBus$Cache" 32 ⟨"SnoopingBus", "lineOf", "(I)I"⟩ "SnoopingBus") ∈ NW := List.mem_filter.mpr ⟨List.mem_append_left _ (List.mem_of_getElem? (l := tables_1_1) (i := 189) rfl), rfl⟩
theorem iw_132 : (Cond.methodLink "SnoopingBus$Cache" 36 ⟨"SnoopingBus$Cache", "use", "(I)V"⟩) ∈ BG := List.mem_filter.mpr ⟨List.mem_append_right _ (List.mem_append_left _ (List.mem_of_getElem? (l := tables_1_1) (i := 190) rfl)), rfl⟩
abbrev b_Core_removeOldestStore : ByteArray := prog_3_method_6_code
abbrev y_Core_removeOldestStore : MethodName := ⟨"SnoopingBus$Core", "removeOldestStore", "()V"⟩
theorem iw_133 : (Cond.code ⟨"SnoopingBus$Core", "removeOldestStore", "()V"⟩ prog_3_method_6_code 2 none) ∈ BG := List.mem_filter.mpr ⟨List.mem_append_right _ (List.mem_append_left _ (List.mem_of_getElem? (l := tables_1_1) (i := 194) rfl)), rfl⟩
abbrev w_Core_removeOldestStore : List Cond := Cond.code y_Core_removeOldestStore b_Core_removeOldestStore 2 none :: BG
theorem g_Core_removeOldestStore : GoodIn BG w_Core_removeOldestStore := BG_cons iw_133
theorem iw_134 : (Cond.instanceMethod ⟨"SnoopingBus$Core", "removeOldestStore", "()V"⟩) ∈ BG := List.mem_filter.mpr ⟨List.mem_append_right _ (List.mem_append_left _ (List.mem_of_getElem? (l := tables_1_1) (i := 193) rfl)), rfl⟩
theorem iw_135 : (Cond.selects "SnoopingBus$Core" ⟨"SnoopingBus$Core", "removeOldestStore", "()V"⟩ ⟨"SnoopingBus$Core", "removeOldestStore", "()V"⟩) ∈ BG := List.mem_filter.mpr ⟨List.mem_append_left _ (List.mem_of_getElem? (l := k2_sels lw_privs) (i := 11) rfl), rfl⟩
abbrev b_Bus_swap : ByteArray := prog_1_method_5_code
abbrev y_Bus_swap : MethodName := ⟨"SnoopingBus", "swap", "(III)I"⟩
theorem iw_136 : (Cond.code ⟨"SnoopingBus", "swap", "(III)I"⟩ prog_1_method_5_code 4 (some FieldType.int)) ∈ BG := List.mem_filter.mpr ⟨List.mem_append_right _ (List.mem_append_left _ (List.mem_of_getElem? (l := tables_1_1) (i := 199) rfl)), rfl⟩
abbrev w_Bus_swap : List Cond := Cond.code y_Bus_swap b_Bus_swap 4 (some FieldType.int) :: BG
theorem g_Bus_swap : GoodIn BG w_Bus_swap := BG_cons iw_136
theorem iw_137 : (Cond.instanceMethod ⟨"SnoopingBus", "swap", "(III)I"⟩) ∈ BG := List.mem_filter.mpr ⟨List.mem_append_right _ (List.mem_append_left _ (List.mem_of_getElem? (l := tables_1_1) (i := 197) rfl)), rfl⟩
theorem iw_138 : (Cond.selects "SnoopingBus" ⟨"SnoopingBus", "swap", "(III)I"⟩ ⟨"SnoopingBus", "swap", "(III)I"⟩) ∈ BG := List.mem_filter.mpr ⟨List.mem_append_right _ (List.mem_append_left _ (List.mem_of_getElem? (l := tables_1_1) (i := 198) rfl)), rfl⟩
theorem iw_139 : (Cond.methodLink "SnoopingBus" 100 ⟨"SnoopingBus", "changeAtOnce", "(IIII)I"⟩) ∈ BG := List.mem_filter.mpr ⟨List.mem_append_right _ (List.mem_append_left _ (List.mem_of_getElem? (l := tables_1_1) (i := 200) rfl)), rfl⟩
abbrev b_Bus_changeAtOnce : ByteArray := prog_1_method_22_code
abbrev y_Bus_changeAtOnce : MethodName := ⟨"SnoopingBus", "changeAtOnce", "(IIII)I"⟩
theorem iw_140 : (Cond.code ⟨"SnoopingBus", "changeAtOnce", "(IIII)I"⟩ prog_1_method_22_code 6 (some FieldType.int)) ∈ BG := List.mem_filter.mpr ⟨List.mem_append_right _ (List.mem_append_left _ (List.mem_of_getElem? (l := tables_1_1) (i := 203) rfl)), rfl⟩
abbrev w_Bus_changeAtOnce : List Cond := Cond.code y_Bus_changeAtOnce b_Bus_changeAtOnce 6 (some FieldType.int) :: BG
theorem g_Bus_changeAtOnce : GoodIn BG w_Bus_changeAtOnce := BG_cons iw_140
theorem iw_141 : (Cond.instanceMethod ⟨"SnoopingBus", "changeAtOnce", "(IIII)I"⟩) ∈ BG := List.mem_filter.mpr ⟨List.mem_append_right _ (List.mem_append_left _ (List.mem_of_getElem? (l := tables_1_1) (i := 202) rfl)), rfl⟩
theorem iw_142 : (Cond.selects "SnoopingBus" ⟨"SnoopingBus", "changeAtOnce", "(IIII)I"⟩ ⟨"SnoopingBus", "changeAtOnce", "(IIII)I"⟩) ∈ BG := List.mem_filter.mpr ⟨List.mem_append_left _ (List.mem_of_getElem? (l := k2_sels lw_privs) (i := 12) rfl), rfl⟩
abbrev b_Bus_add : ByteArray := prog_1_method_6_code
abbrev y_Bus_add : MethodName := ⟨"SnoopingBus", "add", "(III)I"⟩
theorem iw_143 : (Cond.code ⟨"SnoopingBus", "add", "(III)I"⟩ prog_1_method_6_code 4 (some FieldType.int)) ∈ BG := List.mem_filter.mpr ⟨List.mem_append_right _ (List.mem_append_left _ (List.mem_of_getElem? (l := tables_1_1) (i := 207) rfl)), rfl⟩
abbrev w_Bus_add : List Cond := Cond.code y_Bus_add b_Bus_add 4 (some FieldType.int) :: BG
theorem g_Bus_add : GoodIn BG w_Bus_add := BG_cons iw_143
theorem iw_144 : (Cond.instanceMethod ⟨"SnoopingBus", "add", "(III)I"⟩) ∈ BG := List.mem_filter.mpr ⟨List.mem_append_right _ (List.mem_append_left _ (List.mem_of_getElem? (l := tables_1_1) (i := 205) rfl)), rfl⟩
theorem iw_145 : (Cond.selects "SnoopingBus" ⟨"SnoopingBus", "add", "(III)I"⟩ ⟨"SnoopingBus", "add", "(III)I"⟩) ∈ BG := List.mem_filter.mpr ⟨List.mem_append_right _ (List.mem_append_left _ (List.mem_of_getElem? (l := tables_1_1) (i := 206) rfl)), rfl⟩
abbrev b_Bus_bus : ByteArray := prog_1_method_7_code
abbrev y_Bus_bus : MethodName := ⟨"SnoopingBus", "bus", "()I"⟩
theorem iw_146 : (Cond.code ⟨"SnoopingBus", "bus", "()I"⟩ prog_1_method_7_code 3 (some FieldType.int)) ∈ BG := List.mem_filter.mpr ⟨List.mem_append_right _ (List.mem_append_left _ (List.mem_of_getElem? (l := tables_1_1) (i := 211) rfl)), rfl⟩
abbrev w_Bus_bus : List Cond := Cond.code y_Bus_bus b_Bus_bus 3 (some FieldType.int) :: BG
theorem g_Bus_bus : GoodIn BG w_Bus_bus := BG_cons iw_146
theorem iw_147 : (Cond.instanceMethod ⟨"SnoopingBus", "bus", "()I"⟩) ∈ BG := List.mem_filter.mpr ⟨List.mem_append_right _ (List.mem_append_left _ (List.mem_of_getElem? (l := tables_1_1) (i := 209) rfl)), rfl⟩
theorem iw_148 : (Cond.selects "SnoopingBus" ⟨"SnoopingBus", "bus", "()I"⟩ ⟨"SnoopingBus", "bus", "()I"⟩) ∈ BG := List.mem_filter.mpr ⟨List.mem_append_right _ (List.mem_append_left _ (List.mem_of_getElem? (l := tables_1_1) (i := 210) rfl)), rfl⟩
theorem iw_149 : (Cond.methodLink "SnoopingBus" 104 ⟨"SnoopingBus", "serve", "(I)V"⟩) ∈ BG := List.mem_filter.mpr ⟨List.mem_append_right _ (List.mem_append_left _ (List.mem_of_getElem? (l := tables_1_1) (i := 212) rfl)), rfl⟩
abbrev b_Bus_serve : ByteArray := prog_1_method_23_code
abbrev y_Bus_serve : MethodName := ⟨"SnoopingBus", "serve", "(I)V"⟩
theorem iw_150 : (Cond.code ⟨"SnoopingBus", "serve", "(I)V"⟩ prog_1_method_23_code 3 none) ∈ BG := List.mem_filter.mpr ⟨List.mem_append_right _ (List.mem_append_left _ (List.mem_of_getElem? (l := tables_1_1) (i := 215) rfl)), rfl⟩
abbrev w_Bus_serve : List Cond := Cond.code y_Bus_serve b_Bus_serve 3 none :: BG
theorem g_Bus_serve : GoodIn BG w_Bus_serve := BG_cons iw_150
theorem iw_151 : (Cond.instanceMethod ⟨"SnoopingBus", "serve", "(I)V"⟩) ∈ BG := List.mem_filter.mpr ⟨List.mem_append_right _ (List.mem_append_left _ (List.mem_of_getElem? (l := tables_1_1) (i := 214) rfl)), rfl⟩
theorem iw_152 : (Cond.selects "SnoopingBus" ⟨"SnoopingBus", "serve", "(I)V"⟩ ⟨"SnoopingBus", "serve", "(I)V"⟩) ∈ BG := List.mem_filter.mpr ⟨List.mem_append_left _ (List.mem_of_getElem? (l := k2_sels lw_privs) (i := 13) rfl), rfl⟩
theorem in_w21 : (Cond.fieldLinkNest "SnoopingBus" 116 "SnoopingBus$Core" "requestKind" "I" "SnoopingBus") ∈ NW := List.mem_filter.mpr ⟨List.mem_append_left _ (List.mem_of_getElem? (l := tables_1_1) (i := 83) rfl), rfl⟩
theorem in_w22 : (Cond.fieldLinkNest "SnoopingBus" 119 "SnoopingBus$Core" "requestAddress" "I" "SnoopingBus") ∈ NW := List.mem_filter.mpr ⟨List.mem_append_left _ (List.mem_of_getElem? (l := tables_1_1) (i := 85) rfl), rfl⟩
theorem iw_153 : (Cond.methodLink "SnoopingBus" 138 ⟨"SnoopingBus", "serveRead", "(II)V"⟩) ∈ BG := List.mem_filter.mpr ⟨List.mem_append_right _ (List.mem_append_left _ (List.mem_of_getElem? (l := tables_1_1) (i := 216) rfl)), rfl⟩
theorem iw_154 : (Cond.methodLink "SnoopingBus" 141 ⟨"SnoopingBus", "takeLine", "(II)V"⟩) ∈ BG := List.mem_filter.mpr ⟨List.mem_append_right _ (List.mem_append_right _ (List.mem_append_left _ (List.mem_of_getElem? (l := tables_1_2) (i := 8) rfl))), rfl⟩
theorem in_w23 : (Cond.fieldLinkNest "SnoopingBus" 144 "SnoopingBus$Core" "requestWord" "I" "SnoopingBus") ∈ NW := List.mem_filter.mpr ⟨List.mem_append_left _ (List.mem_of_getElem? (l := tables_1_1) (i := 87) rfl), rfl⟩
theorem in_w24 : (Cond.methodLinkNest "SnoopingBus" 147 ⟨"SnoopingBus$Core", "change", "(III)V"⟩ "SnoopingBus") ∈ NW := List.mem_filter.mpr ⟨List.mem_append_right _ (List.mem_append_left _ (List.mem_of_getElem? (l := tables_1_2) (i := 17) rfl)), rfl⟩
theorem iw_155 : (Cond.fieldLink "SnoopingBus" 123 "SnoopingBus" "served" "I") ∈ BG := List.mem_filter.mpr ⟨List.mem_append_right _ (List.mem_append_left _ (List.mem_of_getElem? (l := tables_1_1) (i := 110) rfl)), rfl⟩
abbrev b_Bus_serveRead : ByteArray := prog_1_method_24_code
abbrev y_Bus_serveRead : MethodName := ⟨"SnoopingBus", "serveRead", "(II)V"⟩
theorem iw_156 : (Cond.code ⟨"SnoopingBus", "serveRead", "(II)V"⟩ prog_1_method_24_code 6 none) ∈ BG := List.mem_filter.mpr ⟨List.mem_append_right _ (List.mem_append_left _ (List.mem_of_getElem? (l := tables_1_1) (i := 219) rfl)), rfl⟩
abbrev w_Bus_serveRead : List Cond := Cond.code y_Bus_serveRead b_Bus_serveRead 6 none :: BG
theorem g_Bus_serveRead : GoodIn BG w_Bus_serveRead := BG_cons iw_156
theorem iw_157 : (Cond.instanceMethod ⟨"SnoopingBus", "serveRead", "(II)V"⟩) ∈ BG := List.mem_filter.mpr ⟨List.mem_append_right _ (List.mem_append_left _ (List.mem_of_getElem? (l := tables_1_1) (i := 218) rfl)), rfl⟩
theorem iw_158 : (Cond.selects "SnoopingBus" ⟨"SnoopingBus", "serveRead", "(II)V"⟩ ⟨"SnoopingBus", "serveRead", "(II)V"⟩) ∈ BG := List.mem_filter.mpr ⟨List.mem_append_left _ (List.mem_of_getElem? (l := k2_sels lw_privs) (i := 14) rfl), rfl⟩
theorem iw_159 : (Cond.methodLink "SnoopingBus" 150 ⟨"SnoopingBus", "shareElsewhere", "(II)Z"⟩) ∈ BG := List.mem_filter.mpr ⟨List.mem_append_right _ (List.mem_append_left _ (List.mem_of_getElem? (l := tables_1_1) (i := 220) rfl)), rfl⟩
theorem in_w25 : (Cond.methodLinkNest "SnoopingBus" 154 ⟨"SnoopingBus$Cache", "fill", "(II)V"⟩ "SnoopingBus") ∈ NW := List.mem_filter.mpr ⟨List.mem_append_left _ (List.mem_of_getElem? (l := tables_1_1) (i := 235) rfl), rfl⟩
abbrev b_Bus_shareElsewhere : ByteArray := prog_1_method_25_code
abbrev y_Bus_shareElsewhere : MethodName := ⟨"SnoopingBus", "shareElsewhere", "(II)Z"⟩
theorem iw_160 : (Cond.code ⟨"SnoopingBus", "shareElsewhere", "(II)Z"⟩ prog_1_method_25_code 5 (some FieldType.boolean)) ∈ BG := List.mem_filter.mpr ⟨List.mem_append_right _ (List.mem_append_left _ (List.mem_of_getElem? (l := tables_1_1) (i := 223) rfl)), rfl⟩
abbrev w_Bus_shareElsewhere : List Cond := Cond.code y_Bus_shareElsewhere b_Bus_shareElsewhere 5 (some FieldType.boolean) :: BG
theorem g_Bus_shareElsewhere : GoodIn BG w_Bus_shareElsewhere := BG_cons iw_160
theorem iw_161 : (Cond.instanceMethod ⟨"SnoopingBus", "shareElsewhere", "(II)Z"⟩) ∈ BG := List.mem_filter.mpr ⟨List.mem_append_right _ (List.mem_append_left _ (List.mem_of_getElem? (l := tables_1_1) (i := 222) rfl)), rfl⟩
theorem iw_162 : (Cond.selects "SnoopingBus" ⟨"SnoopingBus", "shareElsewhere", "(II)Z"⟩ ⟨"SnoopingBus", "shareElsewhere", "(II)Z"⟩) ∈ BG := List.mem_filter.mpr ⟨List.mem_append_left _ (List.mem_of_getElem? (l := k2_sels lw_privs) (i := 15) rfl), rfl⟩
theorem in_w26 : (Cond.methodLinkNest "SnoopingBus" 157 ⟨"SnoopingBus$Cache", "share", "(I)V"⟩ "SnoopingBus") ∈ NW := List.mem_filter.mpr ⟨List.mem_append_left _ (List.mem_of_getElem? (l := tables_1_1) (i := 224) rfl), rfl⟩
abbrev b_Cache_share : ByteArray := prog_2_method_8_code
abbrev y_Cache_share : MethodName := ⟨"SnoopingBus$Cache", "share", "(I)V"⟩
theorem iw_163 : (Cond.code ⟨"SnoopingBus$Cache", "share", "(I)V"⟩ prog_2_method_8_code 2 none) ∈ BG := List.mem_filter.mpr ⟨List.mem_append_right _ (List.mem_append_left _ (List.mem_of_getElem? (l := tables_1_1) (i := 227) rfl)), rfl⟩
abbrev w_Cache_share : List Cond := Cond.code y_Cache_share b_Cache_share 2 none :: BG
theorem g_Cache_share : GoodIn BG w_Cache_share := BG_cons iw_163
theorem iw_164 : (Cond.instanceMethod ⟨"SnoopingBus$Cache", "share", "(I)V"⟩) ∈ BG := List.mem_filter.mpr ⟨List.mem_append_right _ (List.mem_append_left _ (List.mem_of_getElem? (l := tables_1_1) (i := 226) rfl)), rfl⟩
theorem iw_165 : (Cond.selects "SnoopingBus$Cache" ⟨"SnoopingBus$Cache", "share", "(I)V"⟩ ⟨"SnoopingBus$Cache", "share", "(I)V"⟩) ∈ BG := List.mem_filter.mpr ⟨List.mem_append_left _ (List.mem_of_getElem? (l := k2_sels lw_privs) (i := 16) rfl), rfl⟩
theorem iw_166 : (Cond.methodLink "SnoopingBus$Cache" 59 ⟨"SnoopingBus$Cache", "writeBackIfModified", "(I)V"⟩) ∈ BG := List.mem_filter.mpr ⟨List.mem_append_right _ (List.mem_append_left _ (List.mem_of_getElem? (l := tables_1_1) (i := 228) rfl)), rfl⟩
abbrev b_Cache_writeBackIfModified : ByteArray := prog_2_method_10_code
abbrev y_Cache_writeBackIfModified : MethodName := ⟨"SnoopingBus$Cache", "writeBackIfModified", "(I)V"⟩
theorem iw_167 : (Cond.code ⟨"SnoopingBus$Cache", "writeBackIfModified", "(I)V"⟩ prog_2_method_10_code 3 none) ∈ BG := List.mem_filter.mpr ⟨List.mem_append_right _ (List.mem_append_left _ (List.mem_of_getElem? (l := tables_1_1) (i := 231) rfl)), rfl⟩
abbrev w_Cache_writeBackIfModified : List Cond := Cond.code y_Cache_writeBackIfModified b_Cache_writeBackIfModified 3 none :: BG
theorem g_Cache_writeBackIfModified : GoodIn BG w_Cache_writeBackIfModified := BG_cons iw_167
theorem iw_168 : (Cond.instanceMethod ⟨"SnoopingBus$Cache", "writeBackIfModified", "(I)V"⟩) ∈ BG := List.mem_filter.mpr ⟨List.mem_append_right _ (List.mem_append_left _ (List.mem_of_getElem? (l := tables_1_1) (i := 230) rfl)), rfl⟩
theorem iw_169 : (Cond.selects "SnoopingBus$Cache" ⟨"SnoopingBus$Cache", "writeBackIfModified", "(I)V"⟩ ⟨"SnoopingBus$Cache", "writeBackIfModified", "(I)V"⟩) ∈ BG := List.mem_filter.mpr ⟨List.mem_append_left _ (List.mem_of_getElem? (l := k2_sels lw_privs) (i := 17) rfl), rfl⟩
theorem in_w27 : (Cond.fieldLinkNest "SnoopingBus$Cache" 46 "SnoopingBus$MainMemory" "words" "[I" "SnoopingBus") ∈ NW := List.mem_filter.mpr ⟨List.mem_append_left _ (List.mem_of_getElem? (l := tables_1_1) (i := 23) rfl), rfl⟩
theorem iw_170 : (Cond.methodLink "SnoopingBus$Cache" 49 ⟨"java/lang/System", "arraycopy", "(Ljava/lang/Object;ILjava/lang/Object;II)V"⟩) ∈ BG := List.mem_filter.mpr ⟨List.mem_append_right _ (List.mem_append_left _ (List.mem_of_getElem? (l := tables_1_1) (i := 232) rfl)), rfl⟩
theorem in_w28 : (Cond.fieldLinkNest "SnoopingBus$Cache" 62 "SnoopingBus$MainMemory" "writeBacks" "I" "SnoopingBus") ∈ NW := List.mem_filter.mpr ⟨List.mem_append_left _ (List.mem_of_getElem? (l := tables_1_1) (i := 25) rfl), rfl⟩
abbrev b_Cache_fill : ByteArray := prog_2_method_6_code
abbrev y_Cache_fill : MethodName := ⟨"SnoopingBus$Cache", "fill", "(II)V"⟩
theorem iw_171 : (Cond.code ⟨"SnoopingBus$Cache", "fill", "(II)V"⟩ prog_2_method_6_code 5 none) ∈ BG := List.mem_filter.mpr ⟨List.mem_append_right _ (List.mem_append_left _ (List.mem_of_getElem? (l := tables_1_1) (i := 238) rfl)), rfl⟩
abbrev w_Cache_fill : List Cond := Cond.code y_Cache_fill b_Cache_fill 5 none :: BG
theorem g_Cache_fill : GoodIn BG w_Cache_fill := BG_cons iw_171
theorem iw_172 : (Cond.instanceMethod ⟨"SnoopingBus$Cache", "fill", "(II)V"⟩) ∈ BG := List.mem_filter.mpr ⟨List.mem_append_right _ (List.mem_append_left _ (List.mem_of_getElem? (l := tables_1_1) (i := 237) rfl)), rfl⟩
theorem iw_173 : (Cond.selects "SnoopingBus$Cache" ⟨"SnoopingBus$Cache", "fill", "(II)V"⟩ ⟨"SnoopingBus$Cache", "fill", "(II)V"⟩) ∈ BG := List.mem_filter.mpr ⟨List.mem_append_left _ (List.mem_of_getElem? (l := k2_sels lw_privs) (i := 18) rfl), rfl⟩
theorem iw_174 : (Cond.methodLink "SnoopingBus$Cache" 40 ⟨"SnoopingBus$Cache", "lineToLeave", "(I)I"⟩) ∈ BG := List.mem_filter.mpr ⟨List.mem_append_right _ (List.mem_append_left _ (List.mem_of_getElem? (l := tables_1_1) (i := 239) rfl)), rfl⟩
theorem iw_175 : (Cond.methodLink "SnoopingBus$Cache" 43 ⟨"SnoopingBus$Cache", "drop", "(I)V"⟩) ∈ BG := List.mem_filter.mpr ⟨List.mem_append_right _ (List.mem_append_right _ (List.mem_append_left _ (List.mem_of_getElem? (l := tables_1_2) (i := 4) rfl))), rfl⟩
abbrev b_Cache_lineToLeave : ByteArray := prog_2_method_7_code
abbrev y_Cache_lineToLeave : MethodName := ⟨"SnoopingBus$Cache", "lineToLeave", "(I)I"⟩
theorem iw_176 : (Cond.code ⟨"SnoopingBus$Cache", "lineToLeave", "(I)I"⟩ prog_2_method_7_code 5 (some FieldType.int)) ∈ BG := List.mem_filter.mpr ⟨List.mem_append_right _ (List.mem_append_right _ (List.mem_append_left _ (List.mem_of_getElem? (l := tables_1_2) (i := 2) rfl))), rfl⟩
abbrev w_Cache_lineToLeave : List Cond := Cond.code y_Cache_lineToLeave b_Cache_lineToLeave 5 (some FieldType.int) :: BG
theorem g_Cache_lineToLeave : GoodIn BG w_Cache_lineToLeave := BG_cons iw_176
theorem iw_177 : (Cond.instanceMethod ⟨"SnoopingBus$Cache", "lineToLeave", "(I)I"⟩) ∈ BG := List.mem_filter.mpr ⟨List.mem_append_right _ (List.mem_append_right _ (List.mem_append_left _ (List.mem_of_getElem? (l := tables_1_2) (i := 1) rfl))), rfl⟩
theorem iw_178 : (Cond.selects "SnoopingBus$Cache" ⟨"SnoopingBus$Cache", "lineToLeave", "(I)I"⟩ ⟨"SnoopingBus$Cache", "lineToLeave", "(I)I"⟩) ∈ BG := List.mem_filter.mpr ⟨List.mem_append_left _ (List.mem_of_getElem? (l := k2_sels lw_privs) (i := 19) rfl), rfl⟩
theorem iw_179 : (Cond.methodLink "SnoopingBus$Cache" 55 ⟨"SnoopingBus$Cache", "holds", "(I)Z"⟩) ∈ BG := List.mem_filter.mpr ⟨List.mem_append_right _ (List.mem_append_right _ (List.mem_append_left _ (List.mem_of_getElem? (l := tables_1_2) (i := 3) rfl))), rfl⟩
abbrev b_Cache_drop : ByteArray := prog_2_method_9_code
abbrev y_Cache_drop : MethodName := ⟨"SnoopingBus$Cache", "drop", "(I)V"⟩
theorem iw_180 : (Cond.code ⟨"SnoopingBus$Cache", "drop", "(I)V"⟩ prog_2_method_9_code 2 none) ∈ BG := List.mem_filter.mpr ⟨List.mem_append_right _ (List.mem_append_right _ (List.mem_append_left _ (List.mem_of_getElem? (l := tables_1_2) (i := 7) rfl))), rfl⟩
abbrev w_Cache_drop : List Cond := Cond.code y_Cache_drop b_Cache_drop 2 none :: BG
theorem g_Cache_drop : GoodIn BG w_Cache_drop := BG_cons iw_180
theorem iw_181 : (Cond.instanceMethod ⟨"SnoopingBus$Cache", "drop", "(I)V"⟩) ∈ BG := List.mem_filter.mpr ⟨List.mem_append_right _ (List.mem_append_right _ (List.mem_append_left _ (List.mem_of_getElem? (l := tables_1_2) (i := 6) rfl))), rfl⟩
theorem iw_182 : (Cond.selects "SnoopingBus$Cache" ⟨"SnoopingBus$Cache", "drop", "(I)V"⟩ ⟨"SnoopingBus$Cache", "drop", "(I)V"⟩) ∈ BG := List.mem_filter.mpr ⟨List.mem_append_left _ (List.mem_of_getElem? (l := k2_sels lw_privs) (i := 20) rfl), rfl⟩
abbrev b_Bus_takeLine : ByteArray := prog_1_method_26_code
abbrev y_Bus_takeLine : MethodName := ⟨"SnoopingBus", "takeLine", "(II)V"⟩
theorem iw_183 : (Cond.code ⟨"SnoopingBus", "takeLine", "(II)V"⟩ prog_1_method_26_code 4 none) ∈ BG := List.mem_filter.mpr ⟨List.mem_append_right _ (List.mem_append_right _ (List.mem_append_left _ (List.mem_of_getElem? (l := tables_1_2) (i := 11) rfl))), rfl⟩
abbrev w_Bus_takeLine : List Cond := Cond.code y_Bus_takeLine b_Bus_takeLine 4 none :: BG
theorem g_Bus_takeLine : GoodIn BG w_Bus_takeLine := BG_cons iw_183
theorem iw_184 : (Cond.instanceMethod ⟨"SnoopingBus", "takeLine", "(II)V"⟩) ∈ BG := List.mem_filter.mpr ⟨List.mem_append_right _ (List.mem_append_right _ (List.mem_append_left _ (List.mem_of_getElem? (l := tables_1_2) (i := 10) rfl))), rfl⟩
theorem iw_185 : (Cond.selects "SnoopingBus" ⟨"SnoopingBus", "takeLine", "(II)V"⟩ ⟨"SnoopingBus", "takeLine", "(II)V"⟩) ∈ BG := List.mem_filter.mpr ⟨List.mem_append_left _ (List.mem_of_getElem? (l := k2_sels lw_privs) (i := 21) rfl), rfl⟩
theorem iw_186 : (Cond.methodLink "SnoopingBus" 160 ⟨"SnoopingBus", "invalidateElsewhere", "(II)V"⟩) ∈ BG := List.mem_filter.mpr ⟨List.mem_append_right _ (List.mem_append_right _ (List.mem_append_left _ (List.mem_of_getElem? (l := tables_1_2) (i := 12) rfl))), rfl⟩
theorem in_w29 : (Cond.fieldLinkNest "SnoopingBus" 110 "SnoopingBus$Cache" "states" "[I" "SnoopingBus") ∈ NW := List.mem_filter.mpr ⟨List.mem_append_left _ (List.mem_of_getElem? (l := tables_1_1) (i := 51) rfl), rfl⟩
theorem iw_187 : (Cond.fieldLink "SnoopingBus" 132 "SnoopingBus" "upgrades" "I") ∈ BG := List.mem_filter.mpr ⟨List.mem_append_right _ (List.mem_append_left _ (List.mem_of_getElem? (l := tables_1_1) (i := 112) rfl)), rfl⟩
abbrev b_Bus_invalidateElsewhere : ByteArray := prog_1_method_27_code
abbrev y_Bus_invalidateElsewhere : MethodName := ⟨"SnoopingBus", "invalidateElsewhere", "(II)V"⟩
theorem iw_188 : (Cond.code ⟨"SnoopingBus", "invalidateElsewhere", "(II)V"⟩ prog_1_method_27_code 4 none) ∈ BG := List.mem_filter.mpr ⟨List.mem_append_right _ (List.mem_append_right _ (List.mem_append_left _ (List.mem_of_getElem? (l := tables_1_2) (i := 15) rfl))), rfl⟩
abbrev w_Bus_invalidateElsewhere : List Cond := Cond.code y_Bus_invalidateElsewhere b_Bus_invalidateElsewhere 4 none :: BG
theorem g_Bus_invalidateElsewhere : GoodIn BG w_Bus_invalidateElsewhere := BG_cons iw_188
theorem iw_189 : (Cond.instanceMethod ⟨"SnoopingBus", "invalidateElsewhere", "(II)V"⟩) ∈ BG := List.mem_filter.mpr ⟨List.mem_append_right _ (List.mem_append_right _ (List.mem_append_left _ (List.mem_of_getElem? (l := tables_1_2) (i := 14) rfl))), rfl⟩
theorem iw_190 : (Cond.selects "SnoopingBus" ⟨"SnoopingBus", "invalidateElsewhere", "(II)V"⟩ ⟨"SnoopingBus", "invalidateElsewhere", "(II)V"⟩) ∈ BG := List.mem_filter.mpr ⟨List.mem_append_left _ (List.mem_of_getElem? (l := k2_sels lw_privs) (i := 22) rfl), rfl⟩
theorem in_w30 : (Cond.methodLinkNest "SnoopingBus" 113 ⟨"SnoopingBus$Cache", "drop", "(I)V"⟩ "SnoopingBus") ∈ NW := List.mem_filter.mpr ⟨List.mem_append_right _ (List.mem_append_left _ (List.mem_of_getElem? (l := tables_1_2) (i := 16) rfl)), rfl⟩
theorem iw_191 : (Cond.fieldLink "SnoopingBus" 129 "SnoopingBus" "invalidations" "I") ∈ BG := List.mem_filter.mpr ⟨List.mem_append_right _ (List.mem_append_left _ (List.mem_of_getElem? (l := tables_1_1) (i := 111) rfl)), rfl⟩
abbrev b_Bus_evict : ByteArray := prog_1_method_8_code
abbrev y_Bus_evict : MethodName := ⟨"SnoopingBus", "evict", "(II)I"⟩
theorem iw_192 : (Cond.code ⟨"SnoopingBus", "evict", "(II)I"⟩ prog_1_method_8_code 5 (some FieldType.int)) ∈ BG := List.mem_filter.mpr ⟨List.mem_append_right _ (List.mem_append_right _ (List.mem_append_left _ (List.mem_of_getElem? (l := tables_1_2) (i := 21) rfl))), rfl⟩
abbrev w_Bus_evict : List Cond := Cond.code y_Bus_evict b_Bus_evict 5 (some FieldType.int) :: BG
theorem g_Bus_evict : GoodIn BG w_Bus_evict := BG_cons iw_192
theorem iw_193 : (Cond.instanceMethod ⟨"SnoopingBus", "evict", "(II)I"⟩) ∈ BG := List.mem_filter.mpr ⟨List.mem_append_right _ (List.mem_append_right _ (List.mem_append_left _ (List.mem_of_getElem? (l := tables_1_2) (i := 19) rfl))), rfl⟩
theorem iw_194 : (Cond.selects "SnoopingBus" ⟨"SnoopingBus", "evict", "(II)I"⟩ ⟨"SnoopingBus", "evict", "(II)I"⟩) ∈ BG := List.mem_filter.mpr ⟨List.mem_append_right _ (List.mem_append_right _ (List.mem_append_left _ (List.mem_of_getElem? (l := tables_1_2) (i := 20) rfl))), rfl⟩
theorem iw_195 : (Cond.methodLink "SnoopingBus" 107 ⟨"SnoopingBus", "isLine", "(I)Z"⟩) ∈ BG := List.mem_filter.mpr ⟨List.mem_append_right _ (List.mem_append_right _ (List.mem_append_left _ (List.mem_of_getElem? (l := tables_1_2) (i := 22) rfl))), rfl⟩
abbrev b_Bus_isLine : ByteArray := prog_1_method_20_code
abbrev y_Bus_isLine : MethodName := ⟨"SnoopingBus", "isLine", "(I)Z"⟩
theorem iw_196 : (Cond.code ⟨"SnoopingBus", "isLine", "(I)Z"⟩ prog_1_method_20_code 1 (some FieldType.boolean)) ∈ BG := List.mem_filter.mpr ⟨List.mem_append_right _ (List.mem_append_right _ (List.mem_append_left _ (List.mem_of_getElem? (l := tables_1_2) (i := 24) rfl))), rfl⟩
abbrev w_Bus_isLine : List Cond := Cond.code y_Bus_isLine b_Bus_isLine 1 (some FieldType.boolean) :: BG
theorem g_Bus_isLine : GoodIn BG w_Bus_isLine := BG_cons iw_196
theorem iw_197 : (Cond.static ⟨"SnoopingBus", "isLine", "(I)Z"⟩) ∈ BG := List.mem_filter.mpr ⟨List.mem_append_right _ (List.mem_append_right _ (List.mem_append_left _ (List.mem_of_getElem? (l := tables_1_2) (i := 23) rfl))), rfl⟩
abbrev b_Bus_last : ByteArray := prog_1_method_9_code
abbrev y_Bus_last : MethodName := ⟨"SnoopingBus", "last", "(I)I"⟩
theorem iw_198 : (Cond.code ⟨"SnoopingBus", "last", "(I)I"⟩ prog_1_method_9_code 2 (some FieldType.int)) ∈ BG := List.mem_filter.mpr ⟨List.mem_append_right _ (List.mem_append_right _ (List.mem_append_left _ (List.mem_of_getElem? (l := tables_1_2) (i := 28) rfl))), rfl⟩
abbrev w_Bus_last : List Cond := Cond.code y_Bus_last b_Bus_last 2 (some FieldType.int) :: BG
theorem g_Bus_last : GoodIn BG w_Bus_last := BG_cons iw_198
theorem iw_199 : (Cond.instanceMethod ⟨"SnoopingBus", "last", "(I)I"⟩) ∈ BG := List.mem_filter.mpr ⟨List.mem_append_right _ (List.mem_append_right _ (List.mem_append_left _ (List.mem_of_getElem? (l := tables_1_2) (i := 26) rfl))), rfl⟩
theorem iw_200 : (Cond.selects "SnoopingBus" ⟨"SnoopingBus", "last", "(I)I"⟩ ⟨"SnoopingBus", "last", "(I)I"⟩) ∈ BG := List.mem_filter.mpr ⟨List.mem_append_right _ (List.mem_append_right _ (List.mem_append_left _ (List.mem_of_getElem? (l := tables_1_2) (i := 27) rfl))), rfl⟩
abbrev b_Bus_request : ByteArray := prog_1_method_10_code
abbrev y_Bus_request : MethodName := ⟨"SnoopingBus", "request", "(I)I"⟩
theorem iw_201 : (Cond.code ⟨"SnoopingBus", "request", "(I)I"⟩ prog_1_method_10_code 3 (some FieldType.int)) ∈ BG := List.mem_filter.mpr ⟨List.mem_append_right _ (List.mem_append_right _ (List.mem_append_left _ (List.mem_of_getElem? (l := tables_1_2) (i := 32) rfl))), rfl⟩
abbrev w_Bus_request : List Cond := Cond.code y_Bus_request b_Bus_request 3 (some FieldType.int) :: BG
theorem g_Bus_request : GoodIn BG w_Bus_request := BG_cons iw_201
theorem iw_202 : (Cond.instanceMethod ⟨"SnoopingBus", "request", "(I)I"⟩) ∈ BG := List.mem_filter.mpr ⟨List.mem_append_right _ (List.mem_append_right _ (List.mem_append_left _ (List.mem_of_getElem? (l := tables_1_2) (i := 30) rfl))), rfl⟩
theorem iw_203 : (Cond.selects "SnoopingBus" ⟨"SnoopingBus", "request", "(I)I"⟩ ⟨"SnoopingBus", "request", "(I)I"⟩) ∈ BG := List.mem_filter.mpr ⟨List.mem_append_right _ (List.mem_append_right _ (List.mem_append_left _ (List.mem_of_getElem? (l := tables_1_2) (i := 31) rfl))), rfl⟩
abbrev b_Bus_buffered : ByteArray := prog_1_method_11_code
abbrev y_Bus_buffered : MethodName := ⟨"SnoopingBus", "buffered", "(I)I"⟩
theorem iw_204 : (Cond.code ⟨"SnoopingBus", "buffered", "(I)I"⟩ prog_1_method_11_code 2 (some FieldType.int)) ∈ BG := List.mem_filter.mpr ⟨List.mem_append_right _ (List.mem_append_right _ (List.mem_append_left _ (List.mem_of_getElem? (l := tables_1_2) (i := 36) rfl))), rfl⟩
abbrev w_Bus_buffered : List Cond := Cond.code y_Bus_buffered b_Bus_buffered 2 (some FieldType.int) :: BG
theorem g_Bus_buffered : GoodIn BG w_Bus_buffered := BG_cons iw_204
theorem iw_205 : (Cond.instanceMethod ⟨"SnoopingBus", "buffered", "(I)I"⟩) ∈ BG := List.mem_filter.mpr ⟨List.mem_append_right _ (List.mem_append_right _ (List.mem_append_left _ (List.mem_of_getElem? (l := tables_1_2) (i := 34) rfl))), rfl⟩
theorem iw_206 : (Cond.selects "SnoopingBus" ⟨"SnoopingBus", "buffered", "(I)I"⟩ ⟨"SnoopingBus", "buffered", "(I)I"⟩) ∈ BG := List.mem_filter.mpr ⟨List.mem_append_right _ (List.mem_append_right _ (List.mem_append_left _ (List.mem_of_getElem? (l := tables_1_2) (i := 35) rfl))), rfl⟩
abbrev b_Bus_state : ByteArray := prog_1_method_12_code
abbrev y_Bus_state : MethodName := ⟨"SnoopingBus", "state", "(II)I"⟩
theorem iw_207 : (Cond.code ⟨"SnoopingBus", "state", "(II)I"⟩ prog_1_method_12_code 3 (some FieldType.int)) ∈ BG := List.mem_filter.mpr ⟨List.mem_append_right _ (List.mem_append_right _ (List.mem_append_left _ (List.mem_of_getElem? (l := tables_1_2) (i := 40) rfl))), rfl⟩
abbrev w_Bus_state : List Cond := Cond.code y_Bus_state b_Bus_state 3 (some FieldType.int) :: BG
theorem g_Bus_state : GoodIn BG w_Bus_state := BG_cons iw_207
theorem iw_208 : (Cond.instanceMethod ⟨"SnoopingBus", "state", "(II)I"⟩) ∈ BG := List.mem_filter.mpr ⟨List.mem_append_right _ (List.mem_append_right _ (List.mem_append_left _ (List.mem_of_getElem? (l := tables_1_2) (i := 38) rfl))), rfl⟩
theorem iw_209 : (Cond.selects "SnoopingBus" ⟨"SnoopingBus", "state", "(II)I"⟩ ⟨"SnoopingBus", "state", "(II)I"⟩) ∈ BG := List.mem_filter.mpr ⟨List.mem_append_right _ (List.mem_append_right _ (List.mem_append_left _ (List.mem_of_getElem? (l := tables_1_2) (i := 39) rfl))), rfl⟩
abbrev b_Bus_copy : ByteArray := prog_1_method_13_code
abbrev y_Bus_copy : MethodName := ⟨"SnoopingBus", "copy", "(II)I"⟩
theorem iw_210 : (Cond.code ⟨"SnoopingBus", "copy", "(II)I"⟩ prog_1_method_13_code 4 (some FieldType.int)) ∈ BG := List.mem_filter.mpr ⟨List.mem_append_right _ (List.mem_append_right _ (List.mem_append_left _ (List.mem_of_getElem? (l := tables_1_2) (i := 44) rfl))), rfl⟩
abbrev w_Bus_copy : List Cond := Cond.code y_Bus_copy b_Bus_copy 4 (some FieldType.int) :: BG
theorem g_Bus_copy : GoodIn BG w_Bus_copy := BG_cons iw_210
theorem iw_211 : (Cond.instanceMethod ⟨"SnoopingBus", "copy", "(II)I"⟩) ∈ BG := List.mem_filter.mpr ⟨List.mem_append_right _ (List.mem_append_right _ (List.mem_append_left _ (List.mem_of_getElem? (l := tables_1_2) (i := 42) rfl))), rfl⟩
theorem iw_212 : (Cond.selects "SnoopingBus" ⟨"SnoopingBus", "copy", "(II)I"⟩ ⟨"SnoopingBus", "copy", "(II)I"⟩) ∈ BG := List.mem_filter.mpr ⟨List.mem_append_right _ (List.mem_append_right _ (List.mem_append_left _ (List.mem_of_getElem? (l := tables_1_2) (i := 43) rfl))), rfl⟩
abbrev b_Bus_memory : ByteArray := prog_1_method_14_code
abbrev y_Bus_memory : MethodName := ⟨"SnoopingBus", "memory", "(I)I"⟩
theorem iw_213 : (Cond.code ⟨"SnoopingBus", "memory", "(I)I"⟩ prog_1_method_14_code 2 (some FieldType.int)) ∈ BG := List.mem_filter.mpr ⟨List.mem_append_right _ (List.mem_append_right _ (List.mem_append_left _ (List.mem_of_getElem? (l := tables_1_2) (i := 48) rfl))), rfl⟩
abbrev w_Bus_memory : List Cond := Cond.code y_Bus_memory b_Bus_memory 2 (some FieldType.int) :: BG
theorem g_Bus_memory : GoodIn BG w_Bus_memory := BG_cons iw_213
theorem iw_214 : (Cond.instanceMethod ⟨"SnoopingBus", "memory", "(I)I"⟩) ∈ BG := List.mem_filter.mpr ⟨List.mem_append_right _ (List.mem_append_right _ (List.mem_append_left _ (List.mem_of_getElem? (l := tables_1_2) (i := 46) rfl))), rfl⟩
theorem iw_215 : (Cond.selects "SnoopingBus" ⟨"SnoopingBus", "memory", "(I)I"⟩ ⟨"SnoopingBus", "memory", "(I)I"⟩) ∈ BG := List.mem_filter.mpr ⟨List.mem_append_right _ (List.mem_append_right _ (List.mem_append_left _ (List.mem_of_getElem? (l := tables_1_2) (i := 47) rfl))), rfl⟩
theorem in_w31 : (Cond.fieldLinkNest "SnoopingBus" 122 "SnoopingBus$MainMemory" "words" "[I" "SnoopingBus") ∈ NW := List.mem_filter.mpr ⟨List.mem_append_left _ (List.mem_of_getElem? (l := tables_1_1) (i := 24) rfl), rfl⟩
abbrev b_Bus_seen : ByteArray := prog_1_method_15_code
abbrev y_Bus_seen : MethodName := ⟨"SnoopingBus", "seen", "(I)I"⟩
theorem iw_216 : (Cond.code ⟨"SnoopingBus", "seen", "(I)I"⟩ prog_1_method_15_code 4 (some FieldType.int)) ∈ BG := List.mem_filter.mpr ⟨List.mem_append_right _ (List.mem_append_right _ (List.mem_append_left _ (List.mem_of_getElem? (l := tables_1_2) (i := 52) rfl))), rfl⟩
abbrev w_Bus_seen : List Cond := Cond.code y_Bus_seen b_Bus_seen 4 (some FieldType.int) :: BG
theorem g_Bus_seen : GoodIn BG w_Bus_seen := BG_cons iw_216
theorem iw_217 : (Cond.instanceMethod ⟨"SnoopingBus", "seen", "(I)I"⟩) ∈ BG := List.mem_filter.mpr ⟨List.mem_append_right _ (List.mem_append_right _ (List.mem_append_left _ (List.mem_of_getElem? (l := tables_1_2) (i := 50) rfl))), rfl⟩
theorem iw_218 : (Cond.selects "SnoopingBus" ⟨"SnoopingBus", "seen", "(I)I"⟩ ⟨"SnoopingBus", "seen", "(I)I"⟩) ∈ BG := List.mem_filter.mpr ⟨List.mem_append_right _ (List.mem_append_right _ (List.mem_append_left _ (List.mem_of_getElem? (l := tables_1_2) (i := 51) rfl))), rfl⟩
abbrev b_Bus_count : ByteArray := prog_1_method_16_code
abbrev y_Bus_count : MethodName := ⟨"SnoopingBus", "count", "(I)I"⟩
theorem iw_219 : (Cond.code ⟨"SnoopingBus", "count", "(I)I"⟩ prog_1_method_16_code 2 (some FieldType.int)) ∈ BG := List.mem_filter.mpr ⟨List.mem_append_right _ (List.mem_append_right _ (List.mem_append_left _ (List.mem_of_getElem? (l := tables_1_2) (i := 56) rfl))), rfl⟩
abbrev w_Bus_count : List Cond := Cond.code y_Bus_count b_Bus_count 2 (some FieldType.int) :: BG
theorem g_Bus_count : GoodIn BG w_Bus_count := BG_cons iw_219
theorem iw_220 : (Cond.instanceMethod ⟨"SnoopingBus", "count", "(I)I"⟩) ∈ BG := List.mem_filter.mpr ⟨List.mem_append_right _ (List.mem_append_right _ (List.mem_append_left _ (List.mem_of_getElem? (l := tables_1_2) (i := 54) rfl))), rfl⟩
theorem iw_221 : (Cond.selects "SnoopingBus" ⟨"SnoopingBus", "count", "(I)I"⟩ ⟨"SnoopingBus", "count", "(I)I"⟩) ∈ BG := List.mem_filter.mpr ⟨List.mem_append_right _ (List.mem_append_right _ (List.mem_append_left _ (List.mem_of_getElem? (l := tables_1_2) (i := 55) rfl))), rfl⟩
theorem in_w32 : (Cond.fieldLinkNest "SnoopingBus" 126 "SnoopingBus$MainMemory" "writeBacks" "I" "SnoopingBus") ∈ NW := List.mem_filter.mpr ⟨List.mem_append_left _ (List.mem_of_getElem? (l := tables_1_1) (i := 26) rfl), rfl⟩
abbrev b_Bus_victim : ByteArray := prog_1_method_17_code
abbrev y_Bus_victim : MethodName := ⟨"SnoopingBus", "victim", "(II)I"⟩
theorem iw_222 : (Cond.code ⟨"SnoopingBus", "victim", "(II)I"⟩ prog_1_method_17_code 4 (some FieldType.int)) ∈ BG := List.mem_filter.mpr ⟨List.mem_append_right _ (List.mem_append_right _ (List.mem_append_left _ (List.mem_of_getElem? (l := tables_1_2) (i := 60) rfl))), rfl⟩
abbrev w_Bus_victim : List Cond := Cond.code y_Bus_victim b_Bus_victim 4 (some FieldType.int) :: BG
theorem g_Bus_victim : GoodIn BG w_Bus_victim := BG_cons iw_222
theorem iw_223 : (Cond.instanceMethod ⟨"SnoopingBus", "victim", "(II)I"⟩) ∈ BG := List.mem_filter.mpr ⟨List.mem_append_right _ (List.mem_append_right _ (List.mem_append_left _ (List.mem_of_getElem? (l := tables_1_2) (i := 58) rfl))), rfl⟩
theorem iw_224 : (Cond.selects "SnoopingBus" ⟨"SnoopingBus", "victim", "(II)I"⟩ ⟨"SnoopingBus", "victim", "(II)I"⟩) ∈ BG := List.mem_filter.mpr ⟨List.mem_append_right _ (List.mem_append_right _ (List.mem_append_left _ (List.mem_of_getElem? (l := tables_1_2) (i := 59) rfl))), rfl⟩
theorem in_w33 : (Cond.methodLinkNest "SnoopingBus" 135 ⟨"SnoopingBus$Cache", "lineToLeave", "(I)I"⟩ "SnoopingBus") ∈ NW := List.mem_filter.mpr ⟨List.mem_append_right _ (List.mem_append_left _ (List.mem_of_getElem? (l := tables_1_2) (i := 61) rfl)), rfl⟩
abbrev b_Law_cell : ByteArray := method_2_code
abbrev y_Law_cell : MethodName := ⟨"SnoopingBusLaw", "cell", "([II)I"⟩
theorem iw_225 : (Cond.code ⟨"SnoopingBusLaw", "cell", "([II)I"⟩ method_2_code 2 (some FieldType.int)) ∈ BG := List.mem_filter.mpr ⟨List.mem_append_right _ (List.mem_append_right _ (List.mem_append_left _ (List.mem_of_getElem? (l := tables_1_2) (i := 64) rfl))), rfl⟩
abbrev w_Law_cell : List Cond := Cond.code y_Law_cell b_Law_cell 2 (some FieldType.int) :: BG
theorem g_Law_cell : GoodIn BG w_Law_cell := BG_cons iw_225
theorem iw_226 : (Cond.static ⟨"SnoopingBusLaw", "cell", "([II)I"⟩) ∈ BG := List.mem_filter.mpr ⟨List.mem_append_right _ (List.mem_append_right _ (List.mem_append_left _ (List.mem_of_getElem? (l := tables_1_2) (i := 63) rfl))), rfl⟩
abbrev b_Model_init : ByteArray := prog_6_method_1_code
abbrev y_Model_init : MethodName := ⟨"SnoopingBusModel", "<init>", "(II)V"⟩
theorem iw_227 : (Cond.code ⟨"SnoopingBusModel", "<init>", "(II)V"⟩ prog_6_method_1_code 3 none) ∈ BG := List.mem_filter.mpr ⟨List.mem_append_right _ (List.mem_append_right _ (List.mem_append_left _ (List.mem_of_getElem? (l := tables_1_2) (i := 69) rfl))), rfl⟩
abbrev w_Model_init : List Cond := Cond.code y_Model_init b_Model_init 3 none :: BG
theorem g_Model_init : GoodIn BG w_Model_init := BG_cons iw_227
theorem iw_228 : (Cond.instanceMethod ⟨"SnoopingBusModel", "<init>", "(II)V"⟩) ∈ BG := List.mem_filter.mpr ⟨List.mem_append_right _ (List.mem_append_right _ (List.mem_append_left _ (List.mem_of_getElem? (l := tables_1_2) (i := 68) rfl))), rfl⟩
theorem iw_229 : (Cond.methodLink "SnoopingBusModel" 1 ⟨"java/lang/Object", "<init>", "()V"⟩) ∈ BG := List.mem_filter.mpr ⟨List.mem_append_right _ (List.mem_append_right _ (List.mem_append_left _ (List.mem_of_getElem? (l := tables_1_2) (i := 70) rfl))), rfl⟩
theorem iw_230 : (Cond.fieldLink "SnoopingBusModel" 7 "SnoopingBusModel" "words" "[I") ∈ BG := List.mem_filter.mpr ⟨List.mem_append_right _ (List.mem_append_right _ (List.mem_append_left _ (List.mem_of_getElem? (l := tables_1_2) (i := 73) rfl))), rfl⟩
theorem iw_231 : (Cond.fieldLink "SnoopingBusModel" 13 "SnoopingBusModel" "lines" "[I") ∈ BG := List.mem_filter.mpr ⟨List.mem_append_right _ (List.mem_append_right _ (List.mem_append_left _ (List.mem_of_getElem? (l := tables_1_2) (i := 74) rfl))), rfl⟩
theorem iw_232 : (Cond.fieldLink "SnoopingBusModel" 16 "SnoopingBusModel" "states" "[I") ∈ BG := List.mem_filter.mpr ⟨List.mem_append_right _ (List.mem_append_right _ (List.mem_append_left _ (List.mem_of_getElem? (l := tables_1_2) (i := 75) rfl))), rfl⟩
theorem iw_233 : (Cond.fieldLink "SnoopingBusModel" 19 "SnoopingBusModel" "used" "[I") ∈ BG := List.mem_filter.mpr ⟨List.mem_append_right _ (List.mem_append_right _ (List.mem_append_left _ (List.mem_of_getElem? (l := tables_1_2) (i := 76) rfl))), rfl⟩
theorem iw_234 : (Cond.fieldLink "SnoopingBusModel" 22 "SnoopingBusModel" "copies" "[I") ∈ BG := List.mem_filter.mpr ⟨List.mem_append_right _ (List.mem_append_right _ (List.mem_append_left _ (List.mem_of_getElem? (l := tables_1_2) (i := 77) rfl))), rfl⟩
theorem iw_235 : (Cond.fieldLink "SnoopingBusModel" 25 "SnoopingBusModel" "stores" "[I") ∈ BG := List.mem_filter.mpr ⟨List.mem_append_right _ (List.mem_append_right _ (List.mem_append_left _ (List.mem_of_getElem? (l := tables_1_2) (i := 79) rfl))), rfl⟩
theorem iw_236 : (Cond.fieldLink "SnoopingBusModel" 28 "SnoopingBusModel" "addresses" "[I") ∈ BG := List.mem_filter.mpr ⟨List.mem_append_right _ (List.mem_append_right _ (List.mem_append_left _ (List.mem_of_getElem? (l := tables_1_2) (i := 80) rfl))), rfl⟩
theorem iw_237 : (Cond.fieldLink "SnoopingBusModel" 31 "SnoopingBusModel" "values" "[I") ∈ BG := List.mem_filter.mpr ⟨List.mem_append_right _ (List.mem_append_right _ (List.mem_append_left _ (List.mem_of_getElem? (l := tables_1_2) (i := 81) rfl))), rfl⟩
theorem iw_238 : (Cond.fieldLink "SnoopingBusModel" 34 "SnoopingBusModel" "lasts" "[I") ∈ BG := List.mem_filter.mpr ⟨List.mem_append_right _ (List.mem_append_right _ (List.mem_append_left _ (List.mem_of_getElem? (l := tables_1_2) (i := 82) rfl))), rfl⟩
theorem iw_239 : (Cond.fieldLink "SnoopingBusModel" 37 "SnoopingBusModel" "kinds" "[I") ∈ BG := List.mem_filter.mpr ⟨List.mem_append_right _ (List.mem_append_right _ (List.mem_append_left _ (List.mem_of_getElem? (l := tables_1_2) (i := 83) rfl))), rfl⟩
theorem iw_240 : (Cond.fieldLink "SnoopingBusModel" 40 "SnoopingBusModel" "wanted" "[I") ∈ BG := List.mem_filter.mpr ⟨List.mem_append_right _ (List.mem_append_right _ (List.mem_append_left _ (List.mem_of_getElem? (l := tables_1_2) (i := 84) rfl))), rfl⟩
theorem iw_241 : (Cond.fieldLink "SnoopingBusModel" 43 "SnoopingBusModel" "operands" "[I") ∈ BG := List.mem_filter.mpr ⟨List.mem_append_right _ (List.mem_append_right _ (List.mem_append_left _ (List.mem_of_getElem? (l := tables_1_2) (i := 85) rfl))), rfl⟩
theorem iw_242 : (Cond.fieldLink "SnoopingBusModel" 46 "SnoopingBusModel" "counts" "[I") ∈ BG := List.mem_filter.mpr ⟨List.mem_append_right _ (List.mem_append_right _ (List.mem_append_left _ (List.mem_of_getElem? (l := tables_1_2) (i := 87) rfl))), rfl⟩
theorem iw_243 : (Cond.fieldLink "SnoopingBusModel" 49 "SnoopingBusModel" "cores" "I") ∈ BG := List.mem_filter.mpr ⟨List.mem_append_right _ (List.mem_append_right _ (List.mem_append_left _ (List.mem_of_getElem? (l := tables_1_2) (i := 71) rfl))), rfl⟩
theorem iw_244 : (Cond.fieldLink "SnoopingBusModel" 53 "SnoopingBusModel" "ways" "I") ∈ BG := List.mem_filter.mpr ⟨List.mem_append_right _ (List.mem_append_right _ (List.mem_append_left _ (List.mem_of_getElem? (l := tables_1_2) (i := 72) rfl))), rfl⟩
abbrev b_Model_load : ByteArray := prog_6_method_14_code
abbrev y_Model_load : MethodName := ⟨"SnoopingBusModel", "load", "(II)I"⟩
theorem iw_245 : (Cond.code ⟨"SnoopingBusModel", "load", "(II)I"⟩ prog_6_method_14_code 5 (some FieldType.int)) ∈ BG := List.mem_filter.mpr ⟨List.mem_append_right _ (List.mem_append_right _ (List.mem_append_left _ (List.mem_of_getElem? (l := tables_1_2) (i := 126) rfl))), rfl⟩
abbrev w_Model_load : List Cond := Cond.code y_Model_load b_Model_load 5 (some FieldType.int) :: BG
theorem g_Model_load : GoodIn BG w_Model_load := BG_cons iw_245
theorem iw_246 : (Cond.instanceMethod ⟨"SnoopingBusModel", "load", "(II)I"⟩) ∈ BG := List.mem_filter.mpr ⟨List.mem_append_right _ (List.mem_append_right _ (List.mem_append_left _ (List.mem_of_getElem? (l := tables_1_2) (i := 124) rfl))), rfl⟩
theorem iw_247 : (Cond.selects "SnoopingBusModel" ⟨"SnoopingBusModel", "load", "(II)I"⟩ ⟨"SnoopingBusModel", "load", "(II)I"⟩) ∈ BG := List.mem_filter.mpr ⟨List.mem_append_right _ (List.mem_append_right _ (List.mem_append_left _ (List.mem_of_getElem? (l := tables_1_2) (i := 125) rfl))), rfl⟩
theorem iw_248 : (Cond.methodLink "SnoopingBusModel" 77 ⟨"SnoopingBusModel", "bars", "(II)I"⟩) ∈ BG := List.mem_filter.mpr ⟨List.mem_append_right _ (List.mem_append_right _ (List.mem_append_left _ (List.mem_of_getElem? (l := tables_1_2) (i := 127) rfl))), rfl⟩
theorem iw_249 : (Cond.methodLink "SnoopingBusModel" 80 ⟨"SnoopingBusModel", "find", "(II)I"⟩) ∈ BG := List.mem_filter.mpr ⟨List.mem_append_right _ (List.mem_append_right _ (List.mem_append_left _ (List.mem_of_getElem? (l := tables_1_2) (i := 138) rfl))), rfl⟩
theorem iw_250 : (Cond.methodLink "SnoopingBusModel" 83 ⟨"SnoopingBusModel", "ask", "(IIII)I"⟩) ∈ BG := List.mem_filter.mpr ⟨List.mem_append_right _ (List.mem_append_right _ (List.mem_append_left _ (List.mem_of_getElem? (l := tables_1_2) (i := 142) rfl))), rfl⟩
theorem iw_251 : (Cond.methodLink "SnoopingBusModel" 87 ⟨"SnoopingBusModel", "wordAt", "(II)I"⟩) ∈ BG := List.mem_filter.mpr ⟨List.mem_append_right _ (List.mem_append_right _ (List.mem_append_left _ (List.mem_of_getElem? (l := tables_1_2) (i := 146) rfl))), rfl⟩
theorem iw_252 : (Cond.methodLink "SnoopingBusModel" 74 ⟨"SnoopingBusModel", "use", "(I)V"⟩) ∈ BG := List.mem_filter.mpr ⟨List.mem_append_right _ (List.mem_append_right _ (List.mem_append_left _ (List.mem_of_getElem? (l := tables_1_2) (i := 150) rfl))), rfl⟩
abbrev b_Model_bars : ByteArray := prog_6_method_4_code
abbrev y_Model_bars : MethodName := ⟨"SnoopingBusModel", "bars", "(II)I"⟩
theorem iw_253 : (Cond.code ⟨"SnoopingBusModel", "bars", "(II)I"⟩ prog_6_method_4_code 3 (some FieldType.int)) ∈ BG := List.mem_filter.mpr ⟨List.mem_append_right _ (List.mem_append_right _ (List.mem_append_left _ (List.mem_of_getElem? (l := tables_1_2) (i := 130) rfl))), rfl⟩
abbrev w_Model_bars : List Cond := Cond.code y_Model_bars b_Model_bars 3 (some FieldType.int) :: BG
theorem g_Model_bars : GoodIn BG w_Model_bars := BG_cons iw_253
theorem iw_254 : (Cond.instanceMethod ⟨"SnoopingBusModel", "bars", "(II)I"⟩) ∈ BG := List.mem_filter.mpr ⟨List.mem_append_right _ (List.mem_append_right _ (List.mem_append_left _ (List.mem_of_getElem? (l := tables_1_2) (i := 129) rfl))), rfl⟩
theorem iw_255 : (Cond.selects "SnoopingBusModel" ⟨"SnoopingBusModel", "bars", "(II)I"⟩ ⟨"SnoopingBusModel", "bars", "(II)I"⟩) ∈ BG := List.mem_filter.mpr ⟨List.mem_append_left _ (List.mem_of_getElem? (l := k2_sels lw_privs) (i := 23) rfl), rfl⟩
theorem iw_256 : (Cond.methodLink "SnoopingBusModel" 56 ⟨"SnoopingBusModel", "isCore", "(I)Z"⟩) ∈ BG := List.mem_filter.mpr ⟨List.mem_append_right _ (List.mem_append_right _ (List.mem_append_left _ (List.mem_of_getElem? (l := tables_1_2) (i := 131) rfl))), rfl⟩
theorem iw_257 : (Cond.methodLink "SnoopingBusModel" 60 ⟨"SnoopingBusModel", "isAddress", "(I)Z"⟩) ∈ BG := List.mem_filter.mpr ⟨List.mem_append_right _ (List.mem_append_right _ (List.mem_append_left _ (List.mem_of_getElem? (l := tables_1_2) (i := 135) rfl))), rfl⟩
abbrev b_Model_isCore : ByteArray := prog_6_method_2_code
abbrev y_Model_isCore : MethodName := ⟨"SnoopingBusModel", "isCore", "(I)Z"⟩
theorem iw_258 : (Cond.code ⟨"SnoopingBusModel", "isCore", "(I)Z"⟩ prog_6_method_2_code 2 (some FieldType.boolean)) ∈ BG := List.mem_filter.mpr ⟨List.mem_append_right _ (List.mem_append_right _ (List.mem_append_left _ (List.mem_of_getElem? (l := tables_1_2) (i := 134) rfl))), rfl⟩
abbrev w_Model_isCore : List Cond := Cond.code y_Model_isCore b_Model_isCore 2 (some FieldType.boolean) :: BG
theorem g_Model_isCore : GoodIn BG w_Model_isCore := BG_cons iw_258
theorem iw_259 : (Cond.instanceMethod ⟨"SnoopingBusModel", "isCore", "(I)Z"⟩) ∈ BG := List.mem_filter.mpr ⟨List.mem_append_right _ (List.mem_append_right _ (List.mem_append_left _ (List.mem_of_getElem? (l := tables_1_2) (i := 133) rfl))), rfl⟩
theorem iw_260 : (Cond.selects "SnoopingBusModel" ⟨"SnoopingBusModel", "isCore", "(I)Z"⟩ ⟨"SnoopingBusModel", "isCore", "(I)Z"⟩) ∈ BG := List.mem_filter.mpr ⟨List.mem_append_left _ (List.mem_of_getElem? (l := k2_sels lw_privs) (i := 24) rfl), rfl⟩
abbrev b_Model_isAddress : ByteArray := prog_6_method_3_code
abbrev y_Model_isAddress : MethodName := ⟨"SnoopingBusModel", "isAddress", "(I)Z"⟩
theorem iw_261 : (Cond.code ⟨"SnoopingBusModel", "isAddress", "(I)Z"⟩ prog_6_method_3_code 1 (some FieldType.boolean)) ∈ BG := List.mem_filter.mpr ⟨List.mem_append_right _ (List.mem_append_right _ (List.mem_append_left _ (List.mem_of_getElem? (l := tables_1_2) (i := 137) rfl))), rfl⟩
abbrev w_Model_isAddress : List Cond := Cond.code y_Model_isAddress b_Model_isAddress 1 (some FieldType.boolean) :: BG
theorem g_Model_isAddress : GoodIn BG w_Model_isAddress := BG_cons iw_261
theorem iw_262 : (Cond.static ⟨"SnoopingBusModel", "isAddress", "(I)Z"⟩) ∈ BG := List.mem_filter.mpr ⟨List.mem_append_right _ (List.mem_append_right _ (List.mem_append_left _ (List.mem_of_getElem? (l := tables_1_2) (i := 136) rfl))), rfl⟩
abbrev b_Model_find : ByteArray := prog_6_method_5_code
abbrev y_Model_find : MethodName := ⟨"SnoopingBusModel", "find", "(II)I"⟩
theorem iw_263 : (Cond.code ⟨"SnoopingBusModel", "find", "(II)I"⟩ prog_6_method_5_code 5 (some FieldType.int)) ∈ BG := List.mem_filter.mpr ⟨List.mem_append_right _ (List.mem_append_right _ (List.mem_append_left _ (List.mem_of_getElem? (l := tables_1_2) (i := 141) rfl))), rfl⟩
abbrev w_Model_find : List Cond := Cond.code y_Model_find b_Model_find 5 (some FieldType.int) :: BG
theorem g_Model_find : GoodIn BG w_Model_find := BG_cons iw_263
theorem iw_264 : (Cond.instanceMethod ⟨"SnoopingBusModel", "find", "(II)I"⟩) ∈ BG := List.mem_filter.mpr ⟨List.mem_append_right _ (List.mem_append_right _ (List.mem_append_left _ (List.mem_of_getElem? (l := tables_1_2) (i := 140) rfl))), rfl⟩
theorem iw_265 : (Cond.selects "SnoopingBusModel" ⟨"SnoopingBusModel", "find", "(II)I"⟩ ⟨"SnoopingBusModel", "find", "(II)I"⟩) ∈ BG := List.mem_filter.mpr ⟨List.mem_append_left _ (List.mem_of_getElem? (l := k2_sels lw_privs) (i := 25) rfl), rfl⟩
abbrev b_Model_ask : ByteArray := prog_6_method_13_code
abbrev y_Model_ask : MethodName := ⟨"SnoopingBusModel", "ask", "(IIII)I"⟩
theorem iw_266 : (Cond.code ⟨"SnoopingBusModel", "ask", "(IIII)I"⟩ prog_6_method_13_code 5 (some FieldType.int)) ∈ BG := List.mem_filter.mpr ⟨List.mem_append_right _ (List.mem_append_right _ (List.mem_append_left _ (List.mem_of_getElem? (l := tables_1_2) (i := 145) rfl))), rfl⟩
abbrev w_Model_ask : List Cond := Cond.code y_Model_ask b_Model_ask 5 (some FieldType.int) :: BG
theorem g_Model_ask : GoodIn BG w_Model_ask := BG_cons iw_266
theorem iw_267 : (Cond.instanceMethod ⟨"SnoopingBusModel", "ask", "(IIII)I"⟩) ∈ BG := List.mem_filter.mpr ⟨List.mem_append_right _ (List.mem_append_right _ (List.mem_append_left _ (List.mem_of_getElem? (l := tables_1_2) (i := 144) rfl))), rfl⟩
theorem iw_268 : (Cond.selects "SnoopingBusModel" ⟨"SnoopingBusModel", "ask", "(IIII)I"⟩ ⟨"SnoopingBusModel", "ask", "(IIII)I"⟩) ∈ BG := List.mem_filter.mpr ⟨List.mem_append_left _ (List.mem_of_getElem? (l := k2_sels lw_privs) (i := 26) rfl), rfl⟩
abbrev b_Model_wordAt : ByteArray := prog_6_method_10_code
abbrev y_Model_wordAt : MethodName := ⟨"SnoopingBusModel", "wordAt", "(II)I"⟩
theorem iw_269 : (Cond.code ⟨"SnoopingBusModel", "wordAt", "(II)I"⟩ prog_6_method_10_code 3 (some FieldType.int)) ∈ BG := List.mem_filter.mpr ⟨List.mem_append_right _ (List.mem_append_right _ (List.mem_append_left _ (List.mem_of_getElem? (l := tables_1_2) (i := 149) rfl))), rfl⟩
abbrev w_Model_wordAt : List Cond := Cond.code y_Model_wordAt b_Model_wordAt 3 (some FieldType.int) :: BG
theorem g_Model_wordAt : GoodIn BG w_Model_wordAt := BG_cons iw_269
theorem iw_270 : (Cond.instanceMethod ⟨"SnoopingBusModel", "wordAt", "(II)I"⟩) ∈ BG := List.mem_filter.mpr ⟨List.mem_append_right _ (List.mem_append_right _ (List.mem_append_left _ (List.mem_of_getElem? (l := tables_1_2) (i := 148) rfl))), rfl⟩
theorem iw_271 : (Cond.selects "SnoopingBusModel" ⟨"SnoopingBusModel", "wordAt", "(II)I"⟩ ⟨"SnoopingBusModel", "wordAt", "(II)I"⟩) ∈ BG := List.mem_filter.mpr ⟨List.mem_append_left _ (List.mem_of_getElem? (l := k2_sels lw_privs) (i := 27) rfl), rfl⟩
abbrev b_Model_use : ByteArray := prog_6_method_6_code
abbrev y_Model_use : MethodName := ⟨"SnoopingBusModel", "use", "(I)V"⟩
theorem iw_272 : (Cond.code ⟨"SnoopingBusModel", "use", "(I)V"⟩ prog_6_method_6_code 2 none) ∈ BG := List.mem_filter.mpr ⟨List.mem_append_right _ (List.mem_append_right _ (List.mem_append_left _ (List.mem_of_getElem? (l := tables_1_2) (i := 153) rfl))), rfl⟩
abbrev w_Model_use : List Cond := Cond.code y_Model_use b_Model_use 2 none :: BG
theorem g_Model_use : GoodIn BG w_Model_use := BG_cons iw_272
theorem iw_273 : (Cond.instanceMethod ⟨"SnoopingBusModel", "use", "(I)V"⟩) ∈ BG := List.mem_filter.mpr ⟨List.mem_append_right _ (List.mem_append_right _ (List.mem_append_left _ (List.mem_of_getElem? (l := tables_1_2) (i := 152) rfl))), rfl⟩
theorem iw_274 : (Cond.selects "SnoopingBusModel" ⟨"SnoopingBusModel", "use", "(I)V"⟩ ⟨"SnoopingBusModel", "use", "(I)V"⟩) ∈ BG := List.mem_filter.mpr ⟨List.mem_append_left _ (List.mem_of_getElem? (l := k2_sels lw_privs) (i := 28) rfl), rfl⟩
theorem iw_275 : (Cond.fieldLink "SnoopingBusModel" 63 "SnoopingBusModel" "clock" "I") ∈ BG := List.mem_filter.mpr ⟨List.mem_append_right _ (List.mem_append_right _ (List.mem_append_left _ (List.mem_of_getElem? (l := tables_1_2) (i := 78) rfl))), rfl⟩
abbrev b_Model_store : ByteArray := prog_6_method_15_code
abbrev y_Model_store : MethodName := ⟨"SnoopingBusModel", "store", "(III)I"⟩
theorem iw_276 : (Cond.code ⟨"SnoopingBusModel", "store", "(III)I"⟩ prog_6_method_15_code 5 (some FieldType.int)) ∈ BG := List.mem_filter.mpr ⟨List.mem_append_right _ (List.mem_append_right _ (List.mem_append_left _ (List.mem_of_getElem? (l := tables_1_2) (i := 157) rfl))), rfl⟩
abbrev w_Model_store : List Cond := Cond.code y_Model_store b_Model_store 5 (some FieldType.int) :: BG
theorem g_Model_store : GoodIn BG w_Model_store := BG_cons iw_276
theorem iw_277 : (Cond.instanceMethod ⟨"SnoopingBusModel", "store", "(III)I"⟩) ∈ BG := List.mem_filter.mpr ⟨List.mem_append_right _ (List.mem_append_right _ (List.mem_append_left _ (List.mem_of_getElem? (l := tables_1_2) (i := 155) rfl))), rfl⟩
theorem iw_278 : (Cond.selects "SnoopingBusModel" ⟨"SnoopingBusModel", "store", "(III)I"⟩ ⟨"SnoopingBusModel", "store", "(III)I"⟩) ∈ BG := List.mem_filter.mpr ⟨List.mem_append_right _ (List.mem_append_right _ (List.mem_append_left _ (List.mem_of_getElem? (l := tables_1_2) (i := 156) rfl))), rfl⟩
abbrev b_Model_drain : ByteArray := prog_6_method_17_code
abbrev y_Model_drain : MethodName := ⟨"SnoopingBusModel", "drain", "(I)I"⟩
theorem iw_279 : (Cond.code ⟨"SnoopingBusModel", "drain", "(I)I"⟩ prog_6_method_17_code 4 (some FieldType.int)) ∈ BG := List.mem_filter.mpr ⟨List.mem_append_right _ (List.mem_append_right _ (List.mem_append_left _ (List.mem_of_getElem? (l := tables_1_2) (i := 161) rfl))), rfl⟩
abbrev w_Model_drain : List Cond := Cond.code y_Model_drain b_Model_drain 4 (some FieldType.int) :: BG
theorem g_Model_drain : GoodIn BG w_Model_drain := BG_cons iw_279
theorem iw_280 : (Cond.instanceMethod ⟨"SnoopingBusModel", "drain", "(I)I"⟩) ∈ BG := List.mem_filter.mpr ⟨List.mem_append_right _ (List.mem_append_right _ (List.mem_append_left _ (List.mem_of_getElem? (l := tables_1_2) (i := 159) rfl))), rfl⟩
theorem iw_281 : (Cond.selects "SnoopingBusModel" ⟨"SnoopingBusModel", "drain", "(I)I"⟩ ⟨"SnoopingBusModel", "drain", "(I)I"⟩) ∈ BG := List.mem_filter.mpr ⟨List.mem_append_right _ (List.mem_append_right _ (List.mem_append_left _ (List.mem_of_getElem? (l := tables_1_2) (i := 160) rfl))), rfl⟩
theorem iw_282 : (Cond.methodLink "SnoopingBusModel" 94 ⟨"SnoopingBusModel", "owns", "(I)Z"⟩) ∈ BG := List.mem_filter.mpr ⟨List.mem_append_right _ (List.mem_append_right _ (List.mem_append_left _ (List.mem_of_getElem? (l := tables_1_2) (i := 162) rfl))), rfl⟩
theorem iw_283 : (Cond.methodLink "SnoopingBusModel" 97 ⟨"SnoopingBusModel", "drainTo", "(II)V"⟩) ∈ BG := List.mem_filter.mpr ⟨List.mem_append_right _ (List.mem_append_right _ (List.mem_append_left _ (List.mem_of_getElem? (l := tables_1_2) (i := 166) rfl))), rfl⟩
abbrev b_Model_owns : ByteArray := prog_6_method_12_code
abbrev y_Model_owns : MethodName := ⟨"SnoopingBusModel", "owns", "(I)Z"⟩
theorem iw_284 : (Cond.code ⟨"SnoopingBusModel", "owns", "(I)Z"⟩ prog_6_method_12_code 2 (some FieldType.boolean)) ∈ BG := List.mem_filter.mpr ⟨List.mem_append_right _ (List.mem_append_right _ (List.mem_append_left _ (List.mem_of_getElem? (l := tables_1_2) (i := 165) rfl))), rfl⟩
abbrev w_Model_owns : List Cond := Cond.code y_Model_owns b_Model_owns 2 (some FieldType.boolean) :: BG
theorem g_Model_owns : GoodIn BG w_Model_owns := BG_cons iw_284
theorem iw_285 : (Cond.instanceMethod ⟨"SnoopingBusModel", "owns", "(I)Z"⟩) ∈ BG := List.mem_filter.mpr ⟨List.mem_append_right _ (List.mem_append_right _ (List.mem_append_left _ (List.mem_of_getElem? (l := tables_1_2) (i := 164) rfl))), rfl⟩
theorem iw_286 : (Cond.selects "SnoopingBusModel" ⟨"SnoopingBusModel", "owns", "(I)Z"⟩ ⟨"SnoopingBusModel", "owns", "(I)Z"⟩) ∈ BG := List.mem_filter.mpr ⟨List.mem_append_left _ (List.mem_of_getElem? (l := k2_sels lw_privs) (i := 29) rfl), rfl⟩
abbrev b_Model_drainTo : ByteArray := prog_6_method_16_code
abbrev y_Model_drainTo : MethodName := ⟨"SnoopingBusModel", "drainTo", "(II)V"⟩
theorem iw_287 : (Cond.code ⟨"SnoopingBusModel", "drainTo", "(II)V"⟩ prog_6_method_16_code 4 none) ∈ BG := List.mem_filter.mpr ⟨List.mem_append_right _ (List.mem_append_right _ (List.mem_append_left _ (List.mem_of_getElem? (l := tables_1_2) (i := 169) rfl))), rfl⟩
abbrev w_Model_drainTo : List Cond := Cond.code y_Model_drainTo b_Model_drainTo 4 none :: BG
theorem g_Model_drainTo : GoodIn BG w_Model_drainTo := BG_cons iw_287
theorem iw_288 : (Cond.instanceMethod ⟨"SnoopingBusModel", "drainTo", "(II)V"⟩) ∈ BG := List.mem_filter.mpr ⟨List.mem_append_right _ (List.mem_append_right _ (List.mem_append_left _ (List.mem_of_getElem? (l := tables_1_2) (i := 168) rfl))), rfl⟩
theorem iw_289 : (Cond.selects "SnoopingBusModel" ⟨"SnoopingBusModel", "drainTo", "(II)V"⟩ ⟨"SnoopingBusModel", "drainTo", "(II)V"⟩) ∈ BG := List.mem_filter.mpr ⟨List.mem_append_left _ (List.mem_of_getElem? (l := k2_sels lw_privs) (i := 30) rfl), rfl⟩
theorem iw_290 : (Cond.methodLink "SnoopingBusModel" 90 ⟨"SnoopingBusModel", "put", "(III)V"⟩) ∈ BG := List.mem_filter.mpr ⟨List.mem_append_right _ (List.mem_append_right _ (List.mem_append_left _ (List.mem_of_getElem? (l := tables_1_2) (i := 170) rfl))), rfl⟩
abbrev b_Model_put : ByteArray := prog_6_method_11_code
abbrev y_Model_put : MethodName := ⟨"SnoopingBusModel", "put", "(III)V"⟩
theorem iw_291 : (Cond.code ⟨"SnoopingBusModel", "put", "(III)V"⟩ prog_6_method_11_code 4 none) ∈ BG := List.mem_filter.mpr ⟨List.mem_append_right _ (List.mem_append_right _ (List.mem_append_left _ (List.mem_of_getElem? (l := tables_1_2) (i := 173) rfl))), rfl⟩
abbrev w_Model_put : List Cond := Cond.code y_Model_put b_Model_put 4 none :: BG
theorem g_Model_put : GoodIn BG w_Model_put := BG_cons iw_291
theorem iw_292 : (Cond.instanceMethod ⟨"SnoopingBusModel", "put", "(III)V"⟩) ∈ BG := List.mem_filter.mpr ⟨List.mem_append_right _ (List.mem_append_right _ (List.mem_append_left _ (List.mem_of_getElem? (l := tables_1_2) (i := 172) rfl))), rfl⟩
theorem iw_293 : (Cond.selects "SnoopingBusModel" ⟨"SnoopingBusModel", "put", "(III)V"⟩ ⟨"SnoopingBusModel", "put", "(III)V"⟩) ∈ BG := List.mem_filter.mpr ⟨List.mem_append_left _ (List.mem_of_getElem? (l := k2_sels lw_privs) (i := 31) rfl), rfl⟩
abbrev b_Model_swap : ByteArray := prog_6_method_20_code
abbrev y_Model_swap : MethodName := ⟨"SnoopingBusModel", "swap", "(III)I"⟩
theorem iw_294 : (Cond.code ⟨"SnoopingBusModel", "swap", "(III)I"⟩ prog_6_method_20_code 4 (some FieldType.int)) ∈ BG := List.mem_filter.mpr ⟨List.mem_append_right _ (List.mem_append_right _ (List.mem_append_left _ (List.mem_of_getElem? (l := tables_1_2) (i := 177) rfl))), rfl⟩
abbrev w_Model_swap : List Cond := Cond.code y_Model_swap b_Model_swap 4 (some FieldType.int) :: BG
theorem g_Model_swap : GoodIn BG w_Model_swap := BG_cons iw_294
theorem iw_295 : (Cond.instanceMethod ⟨"SnoopingBusModel", "swap", "(III)I"⟩) ∈ BG := List.mem_filter.mpr ⟨List.mem_append_right _ (List.mem_append_right _ (List.mem_append_left _ (List.mem_of_getElem? (l := tables_1_2) (i := 175) rfl))), rfl⟩
theorem iw_296 : (Cond.selects "SnoopingBusModel" ⟨"SnoopingBusModel", "swap", "(III)I"⟩ ⟨"SnoopingBusModel", "swap", "(III)I"⟩) ∈ BG := List.mem_filter.mpr ⟨List.mem_append_right _ (List.mem_append_right _ (List.mem_append_left _ (List.mem_of_getElem? (l := tables_1_2) (i := 176) rfl))), rfl⟩
theorem iw_297 : (Cond.methodLink "SnoopingBusModel" 105 ⟨"SnoopingBusModel", "change", "(IIIZ)I"⟩) ∈ BG := List.mem_filter.mpr ⟨List.mem_append_right _ (List.mem_append_right _ (List.mem_append_left _ (List.mem_of_getElem? (l := tables_1_2) (i := 178) rfl))), rfl⟩
abbrev b_Model_change : ByteArray := prog_6_method_19_code
abbrev y_Model_change : MethodName := ⟨"SnoopingBusModel", "change", "(IIIZ)I"⟩
theorem iw_298 : (Cond.code ⟨"SnoopingBusModel", "change", "(IIIZ)I"⟩ prog_6_method_19_code 7 (some FieldType.int)) ∈ BG := List.mem_filter.mpr ⟨List.mem_append_right _ (List.mem_append_right _ (List.mem_append_left _ (List.mem_of_getElem? (l := tables_1_2) (i := 181) rfl))), rfl⟩
abbrev w_Model_change : List Cond := Cond.code y_Model_change b_Model_change 7 (some FieldType.int) :: BG
theorem g_Model_change : GoodIn BG w_Model_change := BG_cons iw_298
theorem iw_299 : (Cond.instanceMethod ⟨"SnoopingBusModel", "change", "(IIIZ)I"⟩) ∈ BG := List.mem_filter.mpr ⟨List.mem_append_right _ (List.mem_append_right _ (List.mem_append_left _ (List.mem_of_getElem? (l := tables_1_2) (i := 180) rfl))), rfl⟩
theorem iw_300 : (Cond.selects "SnoopingBusModel" ⟨"SnoopingBusModel", "change", "(IIIZ)I"⟩ ⟨"SnoopingBusModel", "change", "(IIIZ)I"⟩) ∈ BG := List.mem_filter.mpr ⟨List.mem_append_left _ (List.mem_of_getElem? (l := k2_sels lw_privs) (i := 32) rfl), rfl⟩
theorem iw_301 : (Cond.methodLink "SnoopingBusModel" 101 ⟨"SnoopingBusModel", "tradeAt", "(IIIIZ)V"⟩) ∈ BG := List.mem_filter.mpr ⟨List.mem_append_right _ (List.mem_append_right _ (List.mem_append_left _ (List.mem_of_getElem? (l := tables_1_2) (i := 182) rfl))), rfl⟩
abbrev b_Model_tradeAt : ByteArray := prog_6_method_18_code
abbrev y_Model_tradeAt : MethodName := ⟨"SnoopingBusModel", "tradeAt", "(IIIIZ)V"⟩
theorem iw_302 : (Cond.code ⟨"SnoopingBusModel", "tradeAt", "(IIIIZ)V"⟩ prog_6_method_18_code 6 none) ∈ BG := List.mem_filter.mpr ⟨List.mem_append_right _ (List.mem_append_right _ (List.mem_append_left _ (List.mem_of_getElem? (l := tables_1_2) (i := 185) rfl))), rfl⟩
abbrev w_Model_tradeAt : List Cond := Cond.code y_Model_tradeAt b_Model_tradeAt 6 none :: BG
theorem g_Model_tradeAt : GoodIn BG w_Model_tradeAt := BG_cons iw_302
theorem iw_303 : (Cond.instanceMethod ⟨"SnoopingBusModel", "tradeAt", "(IIIIZ)V"⟩) ∈ BG := List.mem_filter.mpr ⟨List.mem_append_right _ (List.mem_append_right _ (List.mem_append_left _ (List.mem_of_getElem? (l := tables_1_2) (i := 184) rfl))), rfl⟩
theorem iw_304 : (Cond.selects "SnoopingBusModel" ⟨"SnoopingBusModel", "tradeAt", "(IIIIZ)V"⟩ ⟨"SnoopingBusModel", "tradeAt", "(IIIIZ)V"⟩) ∈ BG := List.mem_filter.mpr ⟨List.mem_append_left _ (List.mem_of_getElem? (l := k2_sels lw_privs) (i := 33) rfl), rfl⟩
abbrev b_Model_add : ByteArray := prog_6_method_21_code
abbrev y_Model_add : MethodName := ⟨"SnoopingBusModel", "add", "(III)I"⟩
theorem iw_305 : (Cond.code ⟨"SnoopingBusModel", "add", "(III)I"⟩ prog_6_method_21_code 4 (some FieldType.int)) ∈ BG := List.mem_filter.mpr ⟨List.mem_append_right _ (List.mem_append_right _ (List.mem_append_left _ (List.mem_of_getElem? (l := tables_1_2) (i := 189) rfl))), rfl⟩
abbrev w_Model_add : List Cond := Cond.code y_Model_add b_Model_add 4 (some FieldType.int) :: BG
theorem g_Model_add : GoodIn BG w_Model_add := BG_cons iw_305
theorem iw_306 : (Cond.instanceMethod ⟨"SnoopingBusModel", "add", "(III)I"⟩) ∈ BG := List.mem_filter.mpr ⟨List.mem_append_right _ (List.mem_append_right _ (List.mem_append_left _ (List.mem_of_getElem? (l := tables_1_2) (i := 187) rfl))), rfl⟩
theorem iw_307 : (Cond.selects "SnoopingBusModel" ⟨"SnoopingBusModel", "add", "(III)I"⟩ ⟨"SnoopingBusModel", "add", "(III)I"⟩) ∈ BG := List.mem_filter.mpr ⟨List.mem_append_right _ (List.mem_append_right _ (List.mem_append_left _ (List.mem_of_getElem? (l := tables_1_2) (i := 188) rfl))), rfl⟩
abbrev b_Model_bus : ByteArray := prog_6_method_25_code
abbrev y_Model_bus : MethodName := ⟨"SnoopingBusModel", "bus", "()I"⟩
theorem iw_308 : (Cond.code ⟨"SnoopingBusModel", "bus", "()I"⟩ prog_6_method_25_code 4 (some FieldType.int)) ∈ BG := List.mem_filter.mpr ⟨List.mem_append_right _ (List.mem_append_right _ (List.mem_append_left _ (List.mem_of_getElem? (l := tables_1_2) (i := 193) rfl))), rfl⟩
abbrev w_Model_bus : List Cond := Cond.code y_Model_bus b_Model_bus 4 (some FieldType.int) :: BG
theorem g_Model_bus : GoodIn BG w_Model_bus := BG_cons iw_308
theorem iw_309 : (Cond.instanceMethod ⟨"SnoopingBusModel", "bus", "()I"⟩) ∈ BG := List.mem_filter.mpr ⟨List.mem_append_right _ (List.mem_append_right _ (List.mem_append_left _ (List.mem_of_getElem? (l := tables_1_2) (i := 191) rfl))), rfl⟩
theorem iw_310 : (Cond.selects "SnoopingBusModel" ⟨"SnoopingBusModel", "bus", "()I"⟩ ⟨"SnoopingBusModel", "bus", "()I"⟩) ∈ BG := List.mem_filter.mpr ⟨List.mem_append_right _ (List.mem_append_right _ (List.mem_append_left _ (List.mem_of_getElem? (l := tables_1_2) (i := 192) rfl))), rfl⟩
theorem iw_311 : (Cond.fieldLink "SnoopingBusModel" 116 "SnoopingBusModel" "turn" "I") ∈ BG := List.mem_filter.mpr ⟨List.mem_append_right _ (List.mem_append_right _ (List.mem_append_left _ (List.mem_of_getElem? (l := tables_1_2) (i := 86) rfl))), rfl⟩
theorem iw_312 : (Cond.methodLink "SnoopingBusModel" 119 ⟨"SnoopingBusModel", "serveRead", "(II)V"⟩) ∈ BG := List.mem_filter.mpr ⟨List.mem_append_right _ (List.mem_append_right _ (List.mem_append_left _ (List.mem_of_getElem? (l := tables_1_2) (i := 194) rfl))), rfl⟩
theorem iw_313 : (Cond.methodLink "SnoopingBusModel" 122 ⟨"SnoopingBusModel", "serveOwn", "(III)V"⟩) ∈ BG := List.mem_filter.mpr ⟨List.mem_append_right _ (List.mem_append_right _ (List.mem_append_left _ (List.mem_of_getElem? (l := tables_1_2) (i := 214) rfl))), rfl⟩
abbrev b_Model_serveRead : ByteArray := prog_6_method_23_code
abbrev y_Model_serveRead : MethodName := ⟨"SnoopingBusModel", "serveRead", "(II)V"⟩
theorem iw_314 : (Cond.code ⟨"SnoopingBusModel", "serveRead", "(II)V"⟩ prog_6_method_23_code 5 none) ∈ BG := List.mem_filter.mpr ⟨List.mem_append_right _ (List.mem_append_right _ (List.mem_append_left _ (List.mem_of_getElem? (l := tables_1_2) (i := 197) rfl))), rfl⟩
abbrev w_Model_serveRead : List Cond := Cond.code y_Model_serveRead b_Model_serveRead 5 none :: BG
theorem g_Model_serveRead : GoodIn BG w_Model_serveRead := BG_cons iw_314
theorem iw_315 : (Cond.instanceMethod ⟨"SnoopingBusModel", "serveRead", "(II)V"⟩) ∈ BG := List.mem_filter.mpr ⟨List.mem_append_right _ (List.mem_append_right _ (List.mem_append_left _ (List.mem_of_getElem? (l := tables_1_2) (i := 196) rfl))), rfl⟩
theorem iw_316 : (Cond.selects "SnoopingBusModel" ⟨"SnoopingBusModel", "serveRead", "(II)V"⟩ ⟨"SnoopingBusModel", "serveRead", "(II)V"⟩) ∈ BG := List.mem_filter.mpr ⟨List.mem_append_left _ (List.mem_of_getElem? (l := k2_sels lw_privs) (i := 34) rfl), rfl⟩
theorem iw_317 : (Cond.methodLink "SnoopingBusModel" 109 ⟨"SnoopingBusModel", "snoop", "(IIZ)Z"⟩) ∈ BG := List.mem_filter.mpr ⟨List.mem_append_right _ (List.mem_append_right _ (List.mem_append_left _ (List.mem_of_getElem? (l := tables_1_2) (i := 198) rfl))), rfl⟩
theorem iw_318 : (Cond.methodLink "SnoopingBusModel" 113 ⟨"SnoopingBusModel", "fill", "(II)I"⟩) ∈ BG := List.mem_filter.mpr ⟨List.mem_append_right _ (List.mem_append_right _ (List.mem_append_left _ (List.mem_of_getElem? (l := tables_1_2) (i := 206) rfl))), rfl⟩
abbrev b_Model_snoop : ByteArray := prog_6_method_22_code
abbrev y_Model_snoop : MethodName := ⟨"SnoopingBusModel", "snoop", "(IIZ)Z"⟩
theorem iw_319 : (Cond.code ⟨"SnoopingBusModel", "snoop", "(IIZ)Z"⟩ prog_6_method_22_code 7 (some FieldType.boolean)) ∈ BG := List.mem_filter.mpr ⟨List.mem_append_right _ (List.mem_append_right _ (List.mem_append_left _ (List.mem_of_getElem? (l := tables_1_2) (i := 201) rfl))), rfl⟩
abbrev w_Model_snoop : List Cond := Cond.code y_Model_snoop b_Model_snoop 7 (some FieldType.boolean) :: BG
theorem g_Model_snoop : GoodIn BG w_Model_snoop := BG_cons iw_319
theorem iw_320 : (Cond.instanceMethod ⟨"SnoopingBusModel", "snoop", "(IIZ)Z"⟩) ∈ BG := List.mem_filter.mpr ⟨List.mem_append_right _ (List.mem_append_right _ (List.mem_append_left _ (List.mem_of_getElem? (l := tables_1_2) (i := 200) rfl))), rfl⟩
theorem iw_321 : (Cond.selects "SnoopingBusModel" ⟨"SnoopingBusModel", "snoop", "(IIZ)Z"⟩ ⟨"SnoopingBusModel", "snoop", "(IIZ)Z"⟩) ∈ BG := List.mem_filter.mpr ⟨List.mem_append_left _ (List.mem_of_getElem? (l := k2_sels lw_privs) (i := 35) rfl), rfl⟩
theorem iw_322 : (Cond.methodLink "SnoopingBusModel" 70 ⟨"SnoopingBusModel", "writeBack", "(I)V"⟩) ∈ BG := List.mem_filter.mpr ⟨List.mem_append_right _ (List.mem_append_right _ (List.mem_append_left _ (List.mem_of_getElem? (l := tables_1_2) (i := 202) rfl))), rfl⟩
abbrev b_Model_writeBack : ByteArray := prog_6_method_7_code
abbrev y_Model_writeBack : MethodName := ⟨"SnoopingBusModel", "writeBack", "(I)V"⟩
theorem iw_323 : (Cond.code ⟨"SnoopingBusModel", "writeBack", "(I)V"⟩ prog_6_method_7_code 3 none) ∈ BG := List.mem_filter.mpr ⟨List.mem_append_right _ (List.mem_append_right _ (List.mem_append_left _ (List.mem_of_getElem? (l := tables_1_2) (i := 205) rfl))), rfl⟩
abbrev w_Model_writeBack : List Cond := Cond.code y_Model_writeBack b_Model_writeBack 3 none :: BG
theorem g_Model_writeBack : GoodIn BG w_Model_writeBack := BG_cons iw_323
theorem iw_324 : (Cond.instanceMethod ⟨"SnoopingBusModel", "writeBack", "(I)V"⟩) ∈ BG := List.mem_filter.mpr ⟨List.mem_append_right _ (List.mem_append_right _ (List.mem_append_left _ (List.mem_of_getElem? (l := tables_1_2) (i := 204) rfl))), rfl⟩
theorem iw_325 : (Cond.selects "SnoopingBusModel" ⟨"SnoopingBusModel", "writeBack", "(I)V"⟩ ⟨"SnoopingBusModel", "writeBack", "(I)V"⟩) ∈ BG := List.mem_filter.mpr ⟨List.mem_append_left _ (List.mem_of_getElem? (l := k2_sels lw_privs) (i := 36) rfl), rfl⟩
abbrev b_Model_fill : ByteArray := prog_6_method_9_code
abbrev y_Model_fill : MethodName := ⟨"SnoopingBusModel", "fill", "(II)I"⟩
theorem iw_326 : (Cond.code ⟨"SnoopingBusModel", "fill", "(II)I"⟩ prog_6_method_9_code 5 (some FieldType.int)) ∈ BG := List.mem_filter.mpr ⟨List.mem_append_right _ (List.mem_append_right _ (List.mem_append_left _ (List.mem_of_getElem? (l := tables_1_2) (i := 209) rfl))), rfl⟩
abbrev w_Model_fill : List Cond := Cond.code y_Model_fill b_Model_fill 5 (some FieldType.int) :: BG
theorem g_Model_fill : GoodIn BG w_Model_fill := BG_cons iw_326
theorem iw_327 : (Cond.instanceMethod ⟨"SnoopingBusModel", "fill", "(II)I"⟩) ∈ BG := List.mem_filter.mpr ⟨List.mem_append_right _ (List.mem_append_right _ (List.mem_append_left _ (List.mem_of_getElem? (l := tables_1_2) (i := 208) rfl))), rfl⟩
theorem iw_328 : (Cond.selects "SnoopingBusModel" ⟨"SnoopingBusModel", "fill", "(II)I"⟩ ⟨"SnoopingBusModel", "fill", "(II)I"⟩) ∈ BG := List.mem_filter.mpr ⟨List.mem_append_left _ (List.mem_of_getElem? (l := k2_sels lw_privs) (i := 37) rfl), rfl⟩
theorem iw_329 : (Cond.methodLink "SnoopingBusModel" 66 ⟨"SnoopingBusModel", "roomIn", "(II)I"⟩) ∈ BG := List.mem_filter.mpr ⟨List.mem_append_right _ (List.mem_append_right _ (List.mem_append_left _ (List.mem_of_getElem? (l := tables_1_2) (i := 210) rfl))), rfl⟩
abbrev b_Model_roomIn : ByteArray := prog_6_method_8_code
abbrev y_Model_roomIn : MethodName := ⟨"SnoopingBusModel", "roomIn", "(II)I"⟩
theorem iw_330 : (Cond.code ⟨"SnoopingBusModel", "roomIn", "(II)I"⟩ prog_6_method_8_code 7 (some FieldType.int)) ∈ BG := List.mem_filter.mpr ⟨List.mem_append_right _ (List.mem_append_right _ (List.mem_append_left _ (List.mem_of_getElem? (l := tables_1_2) (i := 213) rfl))), rfl⟩
abbrev w_Model_roomIn : List Cond := Cond.code y_Model_roomIn b_Model_roomIn 7 (some FieldType.int) :: BG
theorem g_Model_roomIn : GoodIn BG w_Model_roomIn := BG_cons iw_330
theorem iw_331 : (Cond.instanceMethod ⟨"SnoopingBusModel", "roomIn", "(II)I"⟩) ∈ BG := List.mem_filter.mpr ⟨List.mem_append_right _ (List.mem_append_right _ (List.mem_append_left _ (List.mem_of_getElem? (l := tables_1_2) (i := 212) rfl))), rfl⟩
theorem iw_332 : (Cond.selects "SnoopingBusModel" ⟨"SnoopingBusModel", "roomIn", "(II)I"⟩ ⟨"SnoopingBusModel", "roomIn", "(II)I"⟩) ∈ BG := List.mem_filter.mpr ⟨List.mem_append_left _ (List.mem_of_getElem? (l := k2_sels lw_privs) (i := 38) rfl), rfl⟩
abbrev b_Model_serveOwn : ByteArray := prog_6_method_24_code
abbrev y_Model_serveOwn : MethodName := ⟨"SnoopingBusModel", "serveOwn", "(III)V"⟩
theorem iw_333 : (Cond.code ⟨"SnoopingBusModel", "serveOwn", "(III)V"⟩ prog_6_method_24_code 6 none) ∈ BG := List.mem_filter.mpr ⟨List.mem_append_right _ (List.mem_append_right _ (List.mem_append_left _ (List.mem_of_getElem? (l := tables_1_2) (i := 217) rfl))), rfl⟩
abbrev w_Model_serveOwn : List Cond := Cond.code y_Model_serveOwn b_Model_serveOwn 6 none :: BG
theorem g_Model_serveOwn : GoodIn BG w_Model_serveOwn := BG_cons iw_333
theorem iw_334 : (Cond.instanceMethod ⟨"SnoopingBusModel", "serveOwn", "(III)V"⟩) ∈ BG := List.mem_filter.mpr ⟨List.mem_append_right _ (List.mem_append_right _ (List.mem_append_left _ (List.mem_of_getElem? (l := tables_1_2) (i := 216) rfl))), rfl⟩
theorem iw_335 : (Cond.selects "SnoopingBusModel" ⟨"SnoopingBusModel", "serveOwn", "(III)V"⟩ ⟨"SnoopingBusModel", "serveOwn", "(III)V"⟩) ∈ BG := List.mem_filter.mpr ⟨List.mem_append_left _ (List.mem_of_getElem? (l := k2_sels lw_privs) (i := 39) rfl), rfl⟩
abbrev b_Model_evict : ByteArray := prog_6_method_26_code
abbrev y_Model_evict : MethodName := ⟨"SnoopingBusModel", "evict", "(II)I"⟩
theorem iw_336 : (Cond.code ⟨"SnoopingBusModel", "evict", "(II)I"⟩ prog_6_method_26_code 5 (some FieldType.int)) ∈ BG := List.mem_filter.mpr ⟨List.mem_append_right _ (List.mem_append_right _ (List.mem_append_left _ (List.mem_of_getElem? (l := tables_1_2) (i := 221) rfl))), rfl⟩
abbrev w_Model_evict : List Cond := Cond.code y_Model_evict b_Model_evict 5 (some FieldType.int) :: BG
theorem g_Model_evict : GoodIn BG w_Model_evict := BG_cons iw_336
theorem iw_337 : (Cond.instanceMethod ⟨"SnoopingBusModel", "evict", "(II)I"⟩) ∈ BG := List.mem_filter.mpr ⟨List.mem_append_right _ (List.mem_append_right _ (List.mem_append_left _ (List.mem_of_getElem? (l := tables_1_2) (i := 219) rfl))), rfl⟩
theorem iw_338 : (Cond.selects "SnoopingBusModel" ⟨"SnoopingBusModel", "evict", "(II)I"⟩ ⟨"SnoopingBusModel", "evict", "(II)I"⟩) ∈ BG := List.mem_filter.mpr ⟨List.mem_append_right _ (List.mem_append_right _ (List.mem_append_left _ (List.mem_of_getElem? (l := tables_1_2) (i := 220) rfl))), rfl⟩
abbrev b_Model_last : ByteArray := prog_6_method_27_code
abbrev y_Model_last : MethodName := ⟨"SnoopingBusModel", "last", "(I)I"⟩
theorem iw_339 : (Cond.code ⟨"SnoopingBusModel", "last", "(I)I"⟩ prog_6_method_27_code 2 (some FieldType.int)) ∈ BG := List.mem_filter.mpr ⟨List.mem_append_right _ (List.mem_append_right _ (List.mem_append_left _ (List.mem_of_getElem? (l := tables_1_2) (i := 225) rfl))), rfl⟩
abbrev w_Model_last : List Cond := Cond.code y_Model_last b_Model_last 2 (some FieldType.int) :: BG
theorem g_Model_last : GoodIn BG w_Model_last := BG_cons iw_339
theorem iw_340 : (Cond.instanceMethod ⟨"SnoopingBusModel", "last", "(I)I"⟩) ∈ BG := List.mem_filter.mpr ⟨List.mem_append_right _ (List.mem_append_right _ (List.mem_append_left _ (List.mem_of_getElem? (l := tables_1_2) (i := 223) rfl))), rfl⟩
theorem iw_341 : (Cond.selects "SnoopingBusModel" ⟨"SnoopingBusModel", "last", "(I)I"⟩ ⟨"SnoopingBusModel", "last", "(I)I"⟩) ∈ BG := List.mem_filter.mpr ⟨List.mem_append_right _ (List.mem_append_right _ (List.mem_append_left _ (List.mem_of_getElem? (l := tables_1_2) (i := 224) rfl))), rfl⟩
abbrev b_Model_request : ByteArray := prog_6_method_28_code
abbrev y_Model_request : MethodName := ⟨"SnoopingBusModel", "request", "(I)I"⟩
theorem iw_342 : (Cond.code ⟨"SnoopingBusModel", "request", "(I)I"⟩ prog_6_method_28_code 2 (some FieldType.int)) ∈ BG := List.mem_filter.mpr ⟨List.mem_append_right _ (List.mem_append_right _ (List.mem_append_left _ (List.mem_of_getElem? (l := tables_1_2) (i := 229) rfl))), rfl⟩
abbrev w_Model_request : List Cond := Cond.code y_Model_request b_Model_request 2 (some FieldType.int) :: BG
theorem g_Model_request : GoodIn BG w_Model_request := BG_cons iw_342
theorem iw_343 : (Cond.instanceMethod ⟨"SnoopingBusModel", "request", "(I)I"⟩) ∈ BG := List.mem_filter.mpr ⟨List.mem_append_right _ (List.mem_append_right _ (List.mem_append_left _ (List.mem_of_getElem? (l := tables_1_2) (i := 227) rfl))), rfl⟩
theorem iw_344 : (Cond.selects "SnoopingBusModel" ⟨"SnoopingBusModel", "request", "(I)I"⟩ ⟨"SnoopingBusModel", "request", "(I)I"⟩) ∈ BG := List.mem_filter.mpr ⟨List.mem_append_right _ (List.mem_append_right _ (List.mem_append_left _ (List.mem_of_getElem? (l := tables_1_2) (i := 228) rfl))), rfl⟩
abbrev b_Model_buffered : ByteArray := prog_6_method_29_code
abbrev y_Model_buffered : MethodName := ⟨"SnoopingBusModel", "buffered", "(I)I"⟩
theorem iw_345 : (Cond.code ⟨"SnoopingBusModel", "buffered", "(I)I"⟩ prog_6_method_29_code 2 (some FieldType.int)) ∈ BG := List.mem_filter.mpr ⟨List.mem_append_right _ (List.mem_append_right _ (List.mem_append_left _ (List.mem_of_getElem? (l := tables_1_2) (i := 233) rfl))), rfl⟩
abbrev w_Model_buffered : List Cond := Cond.code y_Model_buffered b_Model_buffered 2 (some FieldType.int) :: BG
theorem g_Model_buffered : GoodIn BG w_Model_buffered := BG_cons iw_345
theorem iw_346 : (Cond.instanceMethod ⟨"SnoopingBusModel", "buffered", "(I)I"⟩) ∈ BG := List.mem_filter.mpr ⟨List.mem_append_right _ (List.mem_append_right _ (List.mem_append_left _ (List.mem_of_getElem? (l := tables_1_2) (i := 231) rfl))), rfl⟩
theorem iw_347 : (Cond.selects "SnoopingBusModel" ⟨"SnoopingBusModel", "buffered", "(I)I"⟩ ⟨"SnoopingBusModel", "buffered", "(I)I"⟩) ∈ BG := List.mem_filter.mpr ⟨List.mem_append_right _ (List.mem_append_right _ (List.mem_append_left _ (List.mem_of_getElem? (l := tables_1_2) (i := 232) rfl))), rfl⟩
abbrev b_Model_state : ByteArray := prog_6_method_30_code
abbrev y_Model_state : MethodName := ⟨"SnoopingBusModel", "state", "(II)I"⟩
theorem iw_348 : (Cond.code ⟨"SnoopingBusModel", "state", "(II)I"⟩ prog_6_method_30_code 4 (some FieldType.int)) ∈ BG := List.mem_filter.mpr ⟨List.mem_append_right _ (List.mem_append_right _ (List.mem_append_left _ (List.mem_of_getElem? (l := tables_1_2) (i := 237) rfl))), rfl⟩
abbrev w_Model_state : List Cond := Cond.code y_Model_state b_Model_state 4 (some FieldType.int) :: BG
theorem g_Model_state : GoodIn BG w_Model_state := BG_cons iw_348
theorem iw_349 : (Cond.instanceMethod ⟨"SnoopingBusModel", "state", "(II)I"⟩) ∈ BG := List.mem_filter.mpr ⟨List.mem_append_right _ (List.mem_append_right _ (List.mem_append_left _ (List.mem_of_getElem? (l := tables_1_2) (i := 235) rfl))), rfl⟩
theorem iw_350 : (Cond.selects "SnoopingBusModel" ⟨"SnoopingBusModel", "state", "(II)I"⟩ ⟨"SnoopingBusModel", "state", "(II)I"⟩) ∈ BG := List.mem_filter.mpr ⟨List.mem_append_right _ (List.mem_append_right _ (List.mem_append_left _ (List.mem_of_getElem? (l := tables_1_2) (i := 236) rfl))), rfl⟩
abbrev b_Model_copy : ByteArray := prog_6_method_31_code
abbrev y_Model_copy : MethodName := ⟨"SnoopingBusModel", "copy", "(II)I"⟩
theorem iw_351 : (Cond.code ⟨"SnoopingBusModel", "copy", "(II)I"⟩ prog_6_method_31_code 4 (some FieldType.int)) ∈ BG := List.mem_filter.mpr ⟨List.mem_append_right _ (List.mem_append_right _ (List.mem_append_right _ (List.mem_of_getElem? (l := tables_1_3) (i := 1) rfl))), rfl⟩
abbrev w_Model_copy : List Cond := Cond.code y_Model_copy b_Model_copy 4 (some FieldType.int) :: BG
theorem g_Model_copy : GoodIn BG w_Model_copy := BG_cons iw_351
theorem iw_352 : (Cond.instanceMethod ⟨"SnoopingBusModel", "copy", "(II)I"⟩) ∈ BG := List.mem_filter.mpr ⟨List.mem_append_right _ (List.mem_append_right _ (List.mem_append_left _ (List.mem_of_getElem? (l := tables_1_2) (i := 239) rfl))), rfl⟩
theorem iw_353 : (Cond.selects "SnoopingBusModel" ⟨"SnoopingBusModel", "copy", "(II)I"⟩ ⟨"SnoopingBusModel", "copy", "(II)I"⟩) ∈ BG := List.mem_filter.mpr ⟨List.mem_append_right _ (List.mem_append_right _ (List.mem_append_right _ (List.mem_of_getElem? (l := tables_1_3) (i := 0) rfl))), rfl⟩
abbrev b_Model_memory : ByteArray := prog_6_method_32_code
abbrev y_Model_memory : MethodName := ⟨"SnoopingBusModel", "memory", "(I)I"⟩
theorem iw_354 : (Cond.code ⟨"SnoopingBusModel", "memory", "(I)I"⟩ prog_6_method_32_code 2 (some FieldType.int)) ∈ BG := List.mem_filter.mpr ⟨List.mem_append_right _ (List.mem_append_right _ (List.mem_append_right _ (List.mem_of_getElem? (l := tables_1_3) (i := 5) rfl))), rfl⟩
abbrev w_Model_memory : List Cond := Cond.code y_Model_memory b_Model_memory 2 (some FieldType.int) :: BG
theorem g_Model_memory : GoodIn BG w_Model_memory := BG_cons iw_354
theorem iw_355 : (Cond.instanceMethod ⟨"SnoopingBusModel", "memory", "(I)I"⟩) ∈ BG := List.mem_filter.mpr ⟨List.mem_append_right _ (List.mem_append_right _ (List.mem_append_right _ (List.mem_of_getElem? (l := tables_1_3) (i := 3) rfl))), rfl⟩
theorem iw_356 : (Cond.selects "SnoopingBusModel" ⟨"SnoopingBusModel", "memory", "(I)I"⟩ ⟨"SnoopingBusModel", "memory", "(I)I"⟩) ∈ BG := List.mem_filter.mpr ⟨List.mem_append_right _ (List.mem_append_right _ (List.mem_append_right _ (List.mem_of_getElem? (l := tables_1_3) (i := 4) rfl))), rfl⟩
abbrev b_Model_seen : ByteArray := prog_6_method_33_code
abbrev y_Model_seen : MethodName := ⟨"SnoopingBusModel", "seen", "(I)I"⟩
theorem iw_357 : (Cond.code ⟨"SnoopingBusModel", "seen", "(I)I"⟩ prog_6_method_33_code 5 (some FieldType.int)) ∈ BG := List.mem_filter.mpr ⟨List.mem_append_right _ (List.mem_append_right _ (List.mem_append_right _ (List.mem_of_getElem? (l := tables_1_3) (i := 9) rfl))), rfl⟩
abbrev w_Model_seen : List Cond := Cond.code y_Model_seen b_Model_seen 5 (some FieldType.int) :: BG
theorem g_Model_seen : GoodIn BG w_Model_seen := BG_cons iw_357
theorem iw_358 : (Cond.instanceMethod ⟨"SnoopingBusModel", "seen", "(I)I"⟩) ∈ BG := List.mem_filter.mpr ⟨List.mem_append_right _ (List.mem_append_right _ (List.mem_append_right _ (List.mem_of_getElem? (l := tables_1_3) (i := 7) rfl))), rfl⟩
theorem iw_359 : (Cond.selects "SnoopingBusModel" ⟨"SnoopingBusModel", "seen", "(I)I"⟩ ⟨"SnoopingBusModel", "seen", "(I)I"⟩) ∈ BG := List.mem_filter.mpr ⟨List.mem_append_right _ (List.mem_append_right _ (List.mem_append_right _ (List.mem_of_getElem? (l := tables_1_3) (i := 8) rfl))), rfl⟩
abbrev b_Model_count : ByteArray := prog_6_method_34_code
abbrev y_Model_count : MethodName := ⟨"SnoopingBusModel", "count", "(I)I"⟩
theorem iw_360 : (Cond.code ⟨"SnoopingBusModel", "count", "(I)I"⟩ prog_6_method_34_code 2 (some FieldType.int)) ∈ BG := List.mem_filter.mpr ⟨List.mem_append_right _ (List.mem_append_right _ (List.mem_append_right _ (List.mem_of_getElem? (l := tables_1_3) (i := 13) rfl))), rfl⟩
abbrev w_Model_count : List Cond := Cond.code y_Model_count b_Model_count 2 (some FieldType.int) :: BG
theorem g_Model_count : GoodIn BG w_Model_count := BG_cons iw_360
theorem iw_361 : (Cond.instanceMethod ⟨"SnoopingBusModel", "count", "(I)I"⟩) ∈ BG := List.mem_filter.mpr ⟨List.mem_append_right _ (List.mem_append_right _ (List.mem_append_right _ (List.mem_of_getElem? (l := tables_1_3) (i := 11) rfl))), rfl⟩
theorem iw_362 : (Cond.selects "SnoopingBusModel" ⟨"SnoopingBusModel", "count", "(I)I"⟩ ⟨"SnoopingBusModel", "count", "(I)I"⟩) ∈ BG := List.mem_filter.mpr ⟨List.mem_append_right _ (List.mem_append_right _ (List.mem_append_right _ (List.mem_of_getElem? (l := tables_1_3) (i := 12) rfl))), rfl⟩
abbrev b_Model_victim : ByteArray := prog_6_method_35_code
abbrev y_Model_victim : MethodName := ⟨"SnoopingBusModel", "victim", "(II)I"⟩
theorem iw_363 : (Cond.code ⟨"SnoopingBusModel", "victim", "(II)I"⟩ prog_6_method_35_code 4 (some FieldType.int)) ∈ BG := List.mem_filter.mpr ⟨List.mem_append_right _ (List.mem_append_right _ (List.mem_append_right _ (List.mem_of_getElem? (l := tables_1_3) (i := 17) rfl))), rfl⟩
abbrev w_Model_victim : List Cond := Cond.code y_Model_victim b_Model_victim 4 (some FieldType.int) :: BG
theorem g_Model_victim : GoodIn BG w_Model_victim := BG_cons iw_363
theorem iw_364 : (Cond.instanceMethod ⟨"SnoopingBusModel", "victim", "(II)I"⟩) ∈ BG := List.mem_filter.mpr ⟨List.mem_append_right _ (List.mem_append_right _ (List.mem_append_right _ (List.mem_of_getElem? (l := tables_1_3) (i := 15) rfl))), rfl⟩
theorem iw_365 : (Cond.selects "SnoopingBusModel" ⟨"SnoopingBusModel", "victim", "(II)I"⟩ ⟨"SnoopingBusModel", "victim", "(II)I"⟩) ∈ BG := List.mem_filter.mpr ⟨List.mem_append_right _ (List.mem_append_right _ (List.mem_append_right _ (List.mem_of_getElem? (l := tables_1_3) (i := 16) rfl))), rfl⟩
theorem iw_366 : (Cond.native ⟨"java/lang/System", "arraycopy", "(Ljava/lang/Object;ILjava/lang/Object;II)V"⟩) ∈ BG := List.mem_filter.mpr ⟨List.mem_append_right _ (List.mem_append_left _ (List.mem_of_getElem? (l := tables_1_1) (i := 234) rfl)), rfl⟩
theorem iw_367 : (Cond.static ⟨"java/lang/System", "arraycopy", "(Ljava/lang/Object;ILjava/lang/Object;II)V"⟩) ∈ BG := List.mem_filter.mpr ⟨List.mem_append_right _ (List.mem_append_left _ (List.mem_of_getElem? (l := tables_1_1) (i := 233) rfl)), rfl⟩
theorem iw_368 : (Cond.initialized "java/lang/System") ∈ BG := List.mem_filter.mpr ⟨List.mem_append_right _ (List.mem_append_left _ (List.mem_of_getElem? (l := tables_1_1) (i := 7) rfl)), rfl⟩
theorem iw_369 : (Cond.initialized "java/lang/Math") ∈ BG := List.mem_filter.mpr ⟨List.mem_append_right _ (List.mem_append_left _ (List.mem_of_getElem? (l := tables_1_1) (i := 3) rfl)), rfl⟩
theorem iw_370 : (Cond.arrayClass FieldType.int) ∈ BG := List.mem_filter.mpr ⟨List.mem_append_right _ (List.mem_append_left _ (List.mem_of_getElem? (l := tables_1_1) (i := 32) rfl)), rfl⟩
theorem iw_371 : (Cond.instantiable "SnoopingBus" 6) ∈ BG := List.mem_filter.mpr ⟨List.mem_append_right _ (List.mem_append_left _ (List.mem_of_getElem? (l := tables_1_1) (i := 9) rfl)), rfl⟩
theorem iw_372 : (Cond.instanceMethod ⟨"java/lang/Object", "<init>", "()V"⟩) ∈ BG := List.mem_filter.mpr ⟨List.mem_append_right _ (List.mem_append_left _ (List.mem_of_getElem? (l := tables_1_1) (i := 14) rfl)), rfl⟩
theorem iw_373 : (Cond.code ⟨"java/lang/Object", "<init>", "()V"⟩ object_method_1_code 1 none) ∈ BG := List.mem_filter.mpr ⟨List.mem_append_right _ (List.mem_append_left _ (List.mem_of_getElem? (l := tables_1_1) (i := 15) rfl)), rfl⟩
theorem iw_374 : (Cond.instantiable "SnoopingBus$MainMemory" 2) ∈ BG := List.mem_filter.mpr ⟨List.mem_append_right _ (List.mem_append_left _ (List.mem_of_getElem? (l := tables_1_1) (i := 17) rfl)), rfl⟩
theorem iw_375 : (Cond.static ⟨"java/lang/Math", "min", "(II)I"⟩) ∈ BG := List.mem_filter.mpr ⟨List.mem_append_right _ (List.mem_append_left _ (List.mem_of_getElem? (l := tables_1_1) (i := 34) rfl)), rfl⟩
theorem iw_376 : (Cond.code ⟨"java/lang/Math", "min", "(II)I"⟩ prog_7_method_69_code 2 (some FieldType.int)) ∈ BG := List.mem_filter.mpr ⟨List.mem_append_right _ (List.mem_append_left _ (List.mem_of_getElem? (l := tables_1_1) (i := 35) rfl)), rfl⟩
theorem iw_377 : (Cond.static ⟨"java/lang/Math", "max", "(II)I"⟩) ∈ BG := List.mem_filter.mpr ⟨List.mem_append_right _ (List.mem_append_left _ (List.mem_of_getElem? (l := tables_1_1) (i := 37) rfl)), rfl⟩
theorem iw_378 : (Cond.code ⟨"java/lang/Math", "max", "(II)I"⟩ prog_7_method_65_code 2 (some FieldType.int)) ∈ BG := List.mem_filter.mpr ⟨List.mem_append_right _ (List.mem_append_left _ (List.mem_of_getElem? (l := tables_1_1) (i := 38) rfl)), rfl⟩
theorem iw_379 : (Cond.instantiable "SnoopingBus$Core" 8) ∈ BG := List.mem_filter.mpr ⟨List.mem_append_right _ (List.mem_append_left _ (List.mem_of_getElem? (l := tables_1_1) (i := 41) rfl)), rfl⟩
theorem iw_380 : (Cond.instantiable "SnoopingBus$Cache" 6) ∈ BG := List.mem_filter.mpr ⟨List.mem_append_right _ (List.mem_append_left _ (List.mem_of_getElem? (l := tables_1_1) (i := 43) rfl)), rfl⟩
theorem iw_381 : (Cond.instantiable "SnoopingBusModel" 17) ∈ BG := List.mem_filter.mpr ⟨List.mem_append_right _ (List.mem_append_right _ (List.mem_append_left _ (List.mem_of_getElem? (l := tables_1_2) (i := 66) rfl))), rfl⟩
end
section
theorem d_Bus_init_0 : decode b_Bus_init 0 = .ok (.aload_n 0, 1) := by decide +kernel
theorem d_Bus_init_1 : decode b_Bus_init 1 = .ok (.invokespecial 1, 3) := by decide +kernel
theorem d_Bus_init_4 : decode b_Bus_init 4 = .ok (.aload_n 0, 1) := by decide +kernel
theorem d_Bus_init_5 : decode b_Bus_init 5 = .ok (.new 7, 3) := by decide +kernel
theorem d_Bus_init_8 : decode b_Bus_init 8 = .ok (.dup, 1) := by decide +kernel
theorem d_Bus_init_9 : decode b_Bus_init 9 = .ok (.invokespecial 9, 3) := by decide +kernel
theorem d_Bus_init_12 : decode b_Bus_init 12 = .ok (.putfield 10, 3) := by decide +kernel
theorem d_Bus_init_15 : decode b_Bus_init 15 = .ok (.iconst 2, 1) := by decide +kernel
theorem d_Bus_init_16 : decode b_Bus_init 16 = .ok (.iconst 4, 1) := by decide +kernel
theorem d_Bus_init_17 : decode b_Bus_init 17 = .ok (.iload_n 1, 1) := by decide +kernel
theorem d_Bus_init_18 : decode b_Bus_init 18 = .ok (.invokestatic 16, 3) := by decide +kernel
theorem d_Bus_init_21 : decode b_Bus_init 21 = .ok (.invokestatic 22, 3) := by decide +kernel
theorem d_Bus_init_24 : decode b_Bus_init 24 = .ok (.istore_n 3, 1) := by decide +kernel
theorem d_Bus_init_25 : decode b_Bus_init 25 = .ok (.iconst 1, 1) := by decide +kernel
theorem d_Bus_init_26 : decode b_Bus_init 26 = .ok (.iconst 3, 1) := by decide +kernel
theorem d_Bus_init_27 : decode b_Bus_init 27 = .ok (.iload_n 2, 1) := by decide +kernel
theorem d_Bus_init_28 : decode b_Bus_init 28 = .ok (.invokestatic 16, 3) := by decide +kernel
theorem d_Bus_init_31 : decode b_Bus_init 31 = .ok (.invokestatic 22, 3) := by decide +kernel
theorem d_Bus_init_34 : decode b_Bus_init 34 = .ok (.istore 4, 2) := by decide +kernel
theorem d_Bus_init_36 : decode b_Bus_init 36 = .ok (.aload_n 0, 1) := by decide +kernel
theorem d_Bus_init_37 : decode b_Bus_init 37 = .ok (.iload_n 3, 1) := by decide +kernel
theorem d_Bus_init_38 : decode b_Bus_init 38 = .ok (.anewarray 25, 3) := by decide +kernel
theorem d_Bus_init_41 : decode b_Bus_init 41 = .ok (.putfield 27, 3) := by decide +kernel
theorem d_Bus_init_44 : decode b_Bus_init 44 = .ok (.iconst 0, 1) := by decide +kernel
theorem d_Bus_init_45 : decode b_Bus_init 45 = .ok (.istore 5, 2) := by decide +kernel
theorem d_Bus_init_47 : decode b_Bus_init 47 = .ok (.iload 5, 2) := by decide +kernel
theorem d_Bus_init_49 : decode b_Bus_init 49 = .ok (.iload_n 3, 1) := by decide +kernel
theorem d_Bus_init_50 : decode b_Bus_init 50 = .ok (.if_icmp .ge 36, 3) := by decide +kernel
theorem d_Bus_init_53 : decode b_Bus_init 53 = .ok (.aload_n 0, 1) := by decide +kernel
theorem d_Bus_init_54 : decode b_Bus_init 54 = .ok (.getfield 27, 3) := by decide +kernel
theorem d_Bus_init_57 : decode b_Bus_init 57 = .ok (.iload 5, 2) := by decide +kernel
theorem d_Bus_init_59 : decode b_Bus_init 59 = .ok (.new 25, 3) := by decide +kernel
theorem d_Bus_init_62 : decode b_Bus_init 62 = .ok (.dup, 1) := by decide +kernel
theorem d_Bus_init_63 : decode b_Bus_init 63 = .ok (.new 31, 3) := by decide +kernel
theorem d_Bus_init_66 : decode b_Bus_init 66 = .ok (.dup, 1) := by decide +kernel
theorem d_Bus_init_67 : decode b_Bus_init 67 = .ok (.aload_n 0, 1) := by decide +kernel
theorem d_Bus_init_68 : decode b_Bus_init 68 = .ok (.getfield 10, 3) := by decide +kernel
theorem d_Bus_init_71 : decode b_Bus_init 71 = .ok (.iload 4, 2) := by decide +kernel
theorem d_Bus_init_73 : decode b_Bus_init 73 = .ok (.invokespecial 33, 3) := by decide +kernel
theorem d_Bus_init_76 : decode b_Bus_init 76 = .ok (.invokespecial 36, 3) := by decide +kernel
theorem d_Bus_init_79 : decode b_Bus_init 79 = .ok (.aastore, 1) := by decide +kernel
theorem d_Bus_init_80 : decode b_Bus_init 80 = .ok (.iinc 5 1, 3) := by decide +kernel
theorem d_Bus_init_83 : decode b_Bus_init 83 = .ok (.goto (-36), 3) := by decide +kernel
theorem d_Bus_init_86 : decode b_Bus_init 86 = .ok (.aload_n 0, 1) := by decide +kernel
theorem d_Bus_init_87 : decode b_Bus_init 87 = .ok (.iload_n 3, 1) := by decide +kernel
theorem d_Bus_init_88 : decode b_Bus_init 88 = .ok (.iconst 1, 1) := by decide +kernel
theorem d_Bus_init_89 : decode b_Bus_init 89 = .ok (.isub, 1) := by decide +kernel
theorem d_Bus_init_90 : decode b_Bus_init 90 = .ok (.putfield 39, 3) := by decide +kernel
theorem d_Bus_init_93 : decode b_Bus_init 93 = .ok (.return_, 1) := by decide +kernel
theorem d_Mem_init_0 : decode b_Mem_init 0 = .ok (.aload_n 0, 1) := by decide +kernel
theorem d_Mem_init_1 : decode b_Mem_init 1 = .ok (.invokespecial 3, 3) := by decide +kernel
theorem d_Mem_init_4 : decode b_Mem_init 4 = .ok (.aload_n 0, 1) := by decide +kernel
theorem d_Mem_init_5 : decode b_Mem_init 5 = .ok (.bipush 32, 2) := by decide +kernel
theorem d_Mem_init_7 : decode b_Mem_init 7 = .ok (.newarray .int, 2) := by decide +kernel
theorem d_Mem_init_9 : decode b_Mem_init 9 = .ok (.putfield 9, 3) := by decide +kernel
theorem d_Mem_init_12 : decode b_Mem_init 12 = .ok (.return_, 1) := by decide +kernel
theorem d_Cache_init_0 : decode b_Cache_init 0 = .ok (.aload_n 0, 1) := by decide +kernel
theorem d_Cache_init_1 : decode b_Cache_init 1 = .ok (.invokespecial 3, 3) := by decide +kernel
theorem d_Cache_init_4 : decode b_Cache_init 4 = .ok (.aload_n 0, 1) := by decide +kernel
theorem d_Cache_init_5 : decode b_Cache_init 5 = .ok (.bipush 8, 2) := by decide +kernel
theorem d_Cache_init_7 : decode b_Cache_init 7 = .ok (.newarray .int, 2) := by decide +kernel
theorem d_Cache_init_9 : decode b_Cache_init 9 = .ok (.putfield 9, 3) := by decide +kernel
theorem d_Cache_init_12 : decode b_Cache_init 12 = .ok (.aload_n 0, 1) := by decide +kernel
theorem d_Cache_init_13 : decode b_Cache_init 13 = .ok (.bipush 8, 2) := by decide +kernel
theorem d_Cache_init_15 : decode b_Cache_init 15 = .ok (.newarray .int, 2) := by decide +kernel
theorem d_Cache_init_17 : decode b_Cache_init 17 = .ok (.putfield 15, 3) := by decide +kernel
theorem d_Cache_init_20 : decode b_Cache_init 20 = .ok (.aload_n 0, 1) := by decide +kernel
theorem d_Cache_init_21 : decode b_Cache_init 21 = .ok (.bipush 32, 2) := by decide +kernel
theorem d_Cache_init_23 : decode b_Cache_init 23 = .ok (.newarray .int, 2) := by decide +kernel
theorem d_Cache_init_25 : decode b_Cache_init 25 = .ok (.putfield 18, 3) := by decide +kernel
theorem d_Cache_init_28 : decode b_Cache_init 28 = .ok (.aload_n 0, 1) := by decide +kernel
theorem d_Cache_init_29 : decode b_Cache_init 29 = .ok (.aload_n 1, 1) := by decide +kernel
theorem d_Cache_init_30 : decode b_Cache_init 30 = .ok (.putfield 21, 3) := by decide +kernel
theorem d_Cache_init_33 : decode b_Cache_init 33 = .ok (.aload_n 0, 1) := by decide +kernel
theorem d_Cache_init_34 : decode b_Cache_init 34 = .ok (.iload_n 2, 1) := by decide +kernel
theorem d_Cache_init_35 : decode b_Cache_init 35 = .ok (.putfield 25, 3) := by decide +kernel
theorem d_Cache_init_38 : decode b_Cache_init 38 = .ok (.return_, 1) := by decide +kernel
theorem d_Core_init_0 : decode b_Core_init 0 = .ok (.aload_n 0, 1) := by decide +kernel
theorem d_Core_init_1 : decode b_Core_init 1 = .ok (.invokespecial 3, 3) := by decide +kernel
theorem d_Core_init_4 : decode b_Core_init 4 = .ok (.aload_n 0, 1) := by decide +kernel
theorem d_Core_init_5 : decode b_Core_init 5 = .ok (.iconst 4, 1) := by decide +kernel
theorem d_Core_init_6 : decode b_Core_init 6 = .ok (.newarray .int, 2) := by decide +kernel
theorem d_Core_init_8 : decode b_Core_init 8 = .ok (.putfield 9, 3) := by decide +kernel
theorem d_Core_init_11 : decode b_Core_init 11 = .ok (.aload_n 0, 1) := by decide +kernel
theorem d_Core_init_12 : decode b_Core_init 12 = .ok (.iconst 4, 1) := by decide +kernel
theorem d_Core_init_13 : decode b_Core_init 13 = .ok (.newarray .int, 2) := by decide +kernel
theorem d_Core_init_15 : decode b_Core_init 15 = .ok (.putfield 15, 3) := by decide +kernel
theorem d_Core_init_18 : decode b_Core_init 18 = .ok (.aload_n 0, 1) := by decide +kernel
theorem d_Core_init_19 : decode b_Core_init 19 = .ok (.iconst 0, 1) := by decide +kernel
theorem d_Core_init_20 : decode b_Core_init 20 = .ok (.putfield 18, 3) := by decide +kernel
theorem d_Core_init_23 : decode b_Core_init 23 = .ok (.aload_n 0, 1) := by decide +kernel
theorem d_Core_init_24 : decode b_Core_init 24 = .ok (.aload_n 1, 1) := by decide +kernel
theorem d_Core_init_25 : decode b_Core_init 25 = .ok (.putfield 22, 3) := by decide +kernel
theorem d_Core_init_28 : decode b_Core_init 28 = .ok (.return_, 1) := by decide +kernel
theorem d_Bus_load_0 : decode b_Bus_load 0 = .ok (.aload_n 0, 1) := by decide +kernel
theorem d_Bus_load_1 : decode b_Bus_load 1 = .ok (.iload_n 1, 1) := by decide +kernel
theorem d_Bus_load_2 : decode b_Bus_load 2 = .ok (.invokevirtual 43, 3) := by decide +kernel
theorem d_Bus_load_5 : decode b_Bus_load 5 = .ok (.ifCond .eq 10, 3) := by decide +kernel
theorem d_Bus_load_8 : decode b_Bus_load 8 = .ok (.iload_n 2, 1) := by decide +kernel
theorem d_Bus_load_9 : decode b_Bus_load 9 = .ok (.invokestatic 47, 3) := by decide +kernel
theorem d_Bus_load_12 : decode b_Bus_load 12 = .ok (.ifCond .ne 5, 3) := by decide +kernel
theorem d_Bus_load_15 : decode b_Bus_load 15 = .ok (.iconst (-1), 1) := by decide +kernel
theorem d_Bus_load_16 : decode b_Bus_load 16 = .ok (.ireturn, 1) := by decide +kernel
theorem d_Bus_load_17 : decode b_Bus_load 17 = .ok (.aload_n 0, 1) := by decide +kernel
theorem d_Bus_load_18 : decode b_Bus_load 18 = .ok (.getfield 27, 3) := by decide +kernel
theorem d_Bus_load_21 : decode b_Bus_load 21 = .ok (.iload_n 1, 1) := by decide +kernel
theorem d_Bus_load_22 : decode b_Bus_load 22 = .ok (.aaload, 1) := by decide +kernel
theorem d_Bus_load_23 : decode b_Bus_load 23 = .ok (.astore_n 3, 1) := by decide +kernel
theorem d_Bus_load_24 : decode b_Bus_load 24 = .ok (.aload_n 3, 1) := by decide +kernel
theorem d_Bus_load_25 : decode b_Bus_load 25 = .ok (.invokevirtual 50, 3) := by decide +kernel
theorem d_Bus_load_28 : decode b_Bus_load 28 = .ok (.ifCond .eq 6, 3) := by decide +kernel
theorem d_Bus_load_31 : decode b_Bus_load 31 = .ok (.bipush (-2), 2) := by decide +kernel
theorem d_Bus_load_33 : decode b_Bus_load 33 = .ok (.ireturn, 1) := by decide +kernel
theorem d_Bus_load_34 : decode b_Bus_load 34 = .ok (.aload_n 3, 1) := by decide +kernel
theorem d_Bus_load_35 : decode b_Bus_load 35 = .ok (.iload_n 2, 1) := by decide +kernel
theorem d_Bus_load_36 : decode b_Bus_load 36 = .ok (.invokevirtual 54, 3) := by decide +kernel
theorem d_Bus_load_39 : decode b_Bus_load 39 = .ok (.istore 4, 2) := by decide +kernel
theorem d_Bus_load_41 : decode b_Bus_load 41 = .ok (.iload 4, 2) := by decide +kernel
theorem d_Bus_load_43 : decode b_Bus_load 43 = .ok (.iconst (-1), 1) := by decide +kernel
theorem d_Bus_load_44 : decode b_Bus_load 44 = .ok (.if_icmp .eq 16, 3) := by decide +kernel
theorem d_Bus_load_47 : decode b_Bus_load 47 = .ok (.aload_n 3, 1) := by decide +kernel
theorem d_Bus_load_48 : decode b_Bus_load 48 = .ok (.aload_n 3, 1) := by decide +kernel
theorem d_Bus_load_49 : decode b_Bus_load 49 = .ok (.getfield 58, 3) := by decide +kernel
theorem d_Bus_load_52 : decode b_Bus_load 52 = .ok (.iload 4, 2) := by decide +kernel
theorem d_Bus_load_54 : decode b_Bus_load 54 = .ok (.iaload, 1) := by decide +kernel
theorem d_Bus_load_55 : decode b_Bus_load 55 = .ok (.putfield 62, 3) := by decide +kernel
theorem d_Bus_load_58 : decode b_Bus_load 58 = .ok (.iconst 0, 1) := by decide +kernel
theorem d_Bus_load_59 : decode b_Bus_load 59 = .ok (.ireturn, 1) := by decide +kernel
theorem d_Bus_load_60 : decode b_Bus_load 60 = .ok (.aload_n 3, 1) := by decide +kernel
theorem d_Bus_load_61 : decode b_Bus_load 61 = .ok (.getfield 65, 3) := by decide +kernel
theorem d_Bus_load_64 : decode b_Bus_load 64 = .ok (.iload_n 2, 1) := by decide +kernel
theorem d_Bus_load_65 : decode b_Bus_load 65 = .ok (.invokestatic 69, 3) := by decide +kernel
theorem d_Bus_load_68 : decode b_Bus_load 68 = .ok (.invokevirtual 72, 3) := by decide +kernel
theorem d_Bus_load_71 : decode b_Bus_load 71 = .ok (.ifCond .eq 29, 3) := by decide +kernel
theorem d_Bus_load_74 : decode b_Bus_load 74 = .ok (.aload_n 3, 1) := by decide +kernel
theorem d_Bus_load_75 : decode b_Bus_load 75 = .ok (.aload_n 3, 1) := by decide +kernel
theorem d_Bus_load_76 : decode b_Bus_load 76 = .ok (.getfield 65, 3) := by decide +kernel
theorem d_Bus_load_79 : decode b_Bus_load 79 = .ok (.getfield 75, 3) := by decide +kernel
theorem d_Bus_load_82 : decode b_Bus_load 82 = .ok (.iload_n 2, 1) := by decide +kernel
theorem d_Bus_load_83 : decode b_Bus_load 83 = .ok (.iaload, 1) := by decide +kernel
theorem d_Bus_load_84 : decode b_Bus_load 84 = .ok (.putfield 62, 3) := by decide +kernel
theorem d_Bus_load_87 : decode b_Bus_load 87 = .ok (.aload_n 3, 1) := by decide +kernel
theorem d_Bus_load_88 : decode b_Bus_load 88 = .ok (.getfield 65, 3) := by decide +kernel
theorem d_Bus_load_91 : decode b_Bus_load 91 = .ok (.iload_n 2, 1) := by decide +kernel
theorem d_Bus_load_92 : decode b_Bus_load 92 = .ok (.invokestatic 69, 3) := by decide +kernel
theorem d_Bus_load_95 : decode b_Bus_load 95 = .ok (.invokevirtual 78, 3) := by decide +kernel
theorem d_Bus_load_98 : decode b_Bus_load 98 = .ok (.iconst 0, 1) := by decide +kernel
theorem d_Bus_load_99 : decode b_Bus_load 99 = .ok (.ireturn, 1) := by decide +kernel
theorem d_Bus_load_100 : decode b_Bus_load 100 = .ok (.aload_n 3, 1) := by decide +kernel
theorem d_Bus_load_101 : decode b_Bus_load 101 = .ok (.iconst 1, 1) := by decide +kernel
theorem d_Bus_load_102 : decode b_Bus_load 102 = .ok (.iload_n 2, 1) := by decide +kernel
theorem d_Bus_load_103 : decode b_Bus_load 103 = .ok (.iconst 0, 1) := by decide +kernel
theorem d_Bus_load_104 : decode b_Bus_load 104 = .ok (.invokevirtual 82, 3) := by decide +kernel
theorem d_Bus_load_107 : decode b_Bus_load 107 = .ok (.iconst 1, 1) := by decide +kernel
theorem d_Bus_load_108 : decode b_Bus_load 108 = .ok (.ireturn, 1) := by decide +kernel
theorem d_Bus_isCore_0 : decode b_Bus_isCore 0 = .ok (.iload_n 1, 1) := by decide +kernel
theorem d_Bus_isCore_1 : decode b_Bus_isCore 1 = .ok (.ifCond .lt 16, 3) := by decide +kernel
theorem d_Bus_isCore_4 : decode b_Bus_isCore 4 = .ok (.iload_n 1, 1) := by decide +kernel
theorem d_Bus_isCore_5 : decode b_Bus_isCore 5 = .ok (.aload_n 0, 1) := by decide +kernel
theorem d_Bus_isCore_6 : decode b_Bus_isCore 6 = .ok (.getfield 27, 3) := by decide +kernel
theorem d_Bus_isCore_9 : decode b_Bus_isCore 9 = .ok (.arraylength, 1) := by decide +kernel
theorem d_Bus_isCore_10 : decode b_Bus_isCore 10 = .ok (.if_icmp .ge 7, 3) := by decide +kernel
theorem d_Bus_isCore_13 : decode b_Bus_isCore 13 = .ok (.iconst 1, 1) := by decide +kernel
theorem d_Bus_isCore_14 : decode b_Bus_isCore 14 = .ok (.goto 4, 3) := by decide +kernel
theorem d_Bus_isCore_17 : decode b_Bus_isCore 17 = .ok (.iconst 0, 1) := by decide +kernel
theorem d_Bus_isCore_18 : decode b_Bus_isCore 18 = .ok (.ireturn, 1) := by decide +kernel
theorem d_Bus_isAddress_0 : decode b_Bus_isAddress 0 = .ok (.iload_n 0, 1) := by decide +kernel
theorem d_Bus_isAddress_1 : decode b_Bus_isAddress 1 = .ok (.ifCond .lt 13, 3) := by decide +kernel
theorem d_Bus_isAddress_4 : decode b_Bus_isAddress 4 = .ok (.iload_n 0, 1) := by decide +kernel
theorem d_Bus_isAddress_5 : decode b_Bus_isAddress 5 = .ok (.bipush 32, 2) := by decide +kernel
theorem d_Bus_isAddress_7 : decode b_Bus_isAddress 7 = .ok (.if_icmp .ge 7, 3) := by decide +kernel
theorem d_Bus_isAddress_10 : decode b_Bus_isAddress 10 = .ok (.iconst 1, 1) := by decide +kernel
theorem d_Bus_isAddress_11 : decode b_Bus_isAddress 11 = .ok (.goto 4, 3) := by decide +kernel
theorem d_Bus_isAddress_14 : decode b_Bus_isAddress 14 = .ok (.iconst 0, 1) := by decide +kernel
theorem d_Bus_isAddress_15 : decode b_Bus_isAddress 15 = .ok (.ireturn, 1) := by decide +kernel
theorem d_Core_waits_0 : decode b_Core_waits 0 = .ok (.aload_n 0, 1) := by decide +kernel
theorem d_Core_waits_1 : decode b_Core_waits 1 = .ok (.getfield 18, 3) := by decide +kernel
theorem d_Core_waits_4 : decode b_Core_waits 4 = .ok (.ifCond .eq 7, 3) := by decide +kernel
theorem d_Core_waits_7 : decode b_Core_waits 7 = .ok (.iconst 1, 1) := by decide +kernel
theorem d_Core_waits_8 : decode b_Core_waits 8 = .ok (.goto 4, 3) := by decide +kernel
theorem d_Core_waits_11 : decode b_Core_waits 11 = .ok (.iconst 0, 1) := by decide +kernel
theorem d_Core_waits_12 : decode b_Core_waits 12 = .ok (.ireturn, 1) := by decide +kernel
theorem d_Core_newestStoreTo_0 : decode b_Core_newestStoreTo 0 = .ok (.aload_n 0, 1) := by decide +kernel
theorem d_Core_newestStoreTo_1 : decode b_Core_newestStoreTo 1 = .ok (.getfield 32, 3) := by decide +kernel
theorem d_Core_newestStoreTo_4 : decode b_Core_newestStoreTo 4 = .ok (.iconst 1, 1) := by decide +kernel
theorem d_Core_newestStoreTo_5 : decode b_Core_newestStoreTo 5 = .ok (.isub, 1) := by decide +kernel
theorem d_Core_newestStoreTo_6 : decode b_Core_newestStoreTo 6 = .ok (.istore_n 2, 1) := by decide +kernel
theorem d_Core_newestStoreTo_7 : decode b_Core_newestStoreTo 7 = .ok (.iload_n 2, 1) := by decide +kernel
theorem d_Core_newestStoreTo_8 : decode b_Core_newestStoreTo 8 = .ok (.ifCond .lt 21, 3) := by decide +kernel
theorem d_Core_newestStoreTo_11 : decode b_Core_newestStoreTo 11 = .ok (.aload_n 0, 1) := by decide +kernel
theorem d_Core_newestStoreTo_12 : decode b_Core_newestStoreTo 12 = .ok (.getfield 9, 3) := by decide +kernel
theorem d_Core_newestStoreTo_15 : decode b_Core_newestStoreTo 15 = .ok (.iload_n 2, 1) := by decide +kernel
theorem d_Core_newestStoreTo_16 : decode b_Core_newestStoreTo 16 = .ok (.iaload, 1) := by decide +kernel
theorem d_Core_newestStoreTo_17 : decode b_Core_newestStoreTo 17 = .ok (.iload_n 1, 1) := by decide +kernel
theorem d_Core_newestStoreTo_18 : decode b_Core_newestStoreTo 18 = .ok (.if_icmp .ne 5, 3) := by decide +kernel
theorem d_Core_newestStoreTo_21 : decode b_Core_newestStoreTo 21 = .ok (.iload_n 2, 1) := by decide +kernel
theorem d_Core_newestStoreTo_22 : decode b_Core_newestStoreTo 22 = .ok (.ireturn, 1) := by decide +kernel
theorem d_Core_newestStoreTo_23 : decode b_Core_newestStoreTo 23 = .ok (.iinc 2 (-1), 3) := by decide +kernel
theorem d_Core_newestStoreTo_26 : decode b_Core_newestStoreTo 26 = .ok (.goto (-19), 3) := by decide +kernel
theorem d_Core_newestStoreTo_29 : decode b_Core_newestStoreTo 29 = .ok (.iconst (-1), 1) := by decide +kernel
theorem d_Core_newestStoreTo_30 : decode b_Core_newestStoreTo 30 = .ok (.ireturn, 1) := by decide +kernel
theorem d_Bus_lineOf_0 : decode b_Bus_lineOf 0 = .ok (.iload_n 0, 1) := by decide +kernel
theorem d_Bus_lineOf_1 : decode b_Bus_lineOf 1 = .ok (.iconst 4, 1) := by decide +kernel
theorem d_Bus_lineOf_2 : decode b_Bus_lineOf 2 = .ok (.idiv, 1) := by decide +kernel
theorem d_Bus_lineOf_3 : decode b_Bus_lineOf 3 = .ok (.ireturn, 1) := by decide +kernel
theorem d_Cache_holds_0 : decode b_Cache_holds 0 = .ok (.aload_n 0, 1) := by decide +kernel
theorem d_Cache_holds_1 : decode b_Cache_holds 1 = .ok (.getfield 9, 3) := by decide +kernel
theorem d_Cache_holds_4 : decode b_Cache_holds 4 = .ok (.iload_n 1, 1) := by decide +kernel
theorem d_Cache_holds_5 : decode b_Cache_holds 5 = .ok (.iaload, 1) := by decide +kernel
theorem d_Cache_holds_6 : decode b_Cache_holds 6 = .ok (.ifCond .eq 7, 3) := by decide +kernel
theorem d_Cache_holds_9 : decode b_Cache_holds 9 = .ok (.iconst 1, 1) := by decide +kernel
theorem d_Cache_holds_10 : decode b_Cache_holds 10 = .ok (.goto 4, 3) := by decide +kernel
theorem d_Cache_holds_13 : decode b_Cache_holds 13 = .ok (.iconst 0, 1) := by decide +kernel
theorem d_Cache_holds_14 : decode b_Cache_holds 14 = .ok (.ireturn, 1) := by decide +kernel
theorem d_Cache_use_0 : decode b_Cache_use 0 = .ok (.aload_n 0, 1) := by decide +kernel
theorem d_Cache_use_1 : decode b_Cache_use 1 = .ok (.dup, 1) := by decide +kernel
theorem d_Cache_use_2 : decode b_Cache_use 2 = .ok (.getfield 29, 3) := by decide +kernel
theorem d_Cache_use_5 : decode b_Cache_use 5 = .ok (.iconst 1, 1) := by decide +kernel
theorem d_Cache_use_6 : decode b_Cache_use 6 = .ok (.iadd, 1) := by decide +kernel
theorem d_Cache_use_7 : decode b_Cache_use 7 = .ok (.putfield 29, 3) := by decide +kernel
theorem d_Cache_use_10 : decode b_Cache_use 10 = .ok (.aload_n 0, 1) := by decide +kernel
theorem d_Cache_use_11 : decode b_Cache_use 11 = .ok (.getfield 15, 3) := by decide +kernel
theorem d_Cache_use_14 : decode b_Cache_use 14 = .ok (.iload_n 1, 1) := by decide +kernel
theorem d_Cache_use_15 : decode b_Cache_use 15 = .ok (.aload_n 0, 1) := by decide +kernel
theorem d_Cache_use_16 : decode b_Cache_use 16 = .ok (.getfield 29, 3) := by decide +kernel
theorem d_Cache_use_19 : decode b_Cache_use 19 = .ok (.iastore, 1) := by decide +kernel
theorem d_Cache_use_20 : decode b_Cache_use 20 = .ok (.return_, 1) := by decide +kernel
theorem d_Core_ask_0 : decode b_Core_ask 0 = .ok (.aload_n 0, 1) := by decide +kernel
theorem d_Core_ask_1 : decode b_Core_ask 1 = .ok (.iload_n 1, 1) := by decide +kernel
theorem d_Core_ask_2 : decode b_Core_ask 2 = .ok (.putfield 18, 3) := by decide +kernel
theorem d_Core_ask_5 : decode b_Core_ask 5 = .ok (.aload_n 0, 1) := by decide +kernel
theorem d_Core_ask_6 : decode b_Core_ask 6 = .ok (.iload_n 2, 1) := by decide +kernel
theorem d_Core_ask_7 : decode b_Core_ask 7 = .ok (.putfield 26, 3) := by decide +kernel
theorem d_Core_ask_10 : decode b_Core_ask 10 = .ok (.aload_n 0, 1) := by decide +kernel
theorem d_Core_ask_11 : decode b_Core_ask 11 = .ok (.iload_n 3, 1) := by decide +kernel
theorem d_Core_ask_12 : decode b_Core_ask 12 = .ok (.putfield 29, 3) := by decide +kernel
theorem d_Core_ask_15 : decode b_Core_ask 15 = .ok (.return_, 1) := by decide +kernel
theorem d_Bus_store_0 : decode b_Bus_store 0 = .ok (.aload_n 0, 1) := by decide +kernel
theorem d_Bus_store_1 : decode b_Bus_store 1 = .ok (.iload_n 1, 1) := by decide +kernel
theorem d_Bus_store_2 : decode b_Bus_store 2 = .ok (.invokevirtual 43, 3) := by decide +kernel
theorem d_Bus_store_5 : decode b_Bus_store 5 = .ok (.ifCond .eq 10, 3) := by decide +kernel
theorem d_Bus_store_8 : decode b_Bus_store 8 = .ok (.iload_n 2, 1) := by decide +kernel
theorem d_Bus_store_9 : decode b_Bus_store 9 = .ok (.invokestatic 47, 3) := by decide +kernel
theorem d_Bus_store_12 : decode b_Bus_store 12 = .ok (.ifCond .ne 5, 3) := by decide +kernel
theorem d_Bus_store_15 : decode b_Bus_store 15 = .ok (.iconst (-1), 1) := by decide +kernel
theorem d_Bus_store_16 : decode b_Bus_store 16 = .ok (.ireturn, 1) := by decide +kernel
theorem d_Bus_store_17 : decode b_Bus_store 17 = .ok (.aload_n 0, 1) := by decide +kernel
theorem d_Bus_store_18 : decode b_Bus_store 18 = .ok (.getfield 27, 3) := by decide +kernel
theorem d_Bus_store_21 : decode b_Bus_store 21 = .ok (.iload_n 1, 1) := by decide +kernel
theorem d_Bus_store_22 : decode b_Bus_store 22 = .ok (.aaload, 1) := by decide +kernel
theorem d_Bus_store_23 : decode b_Bus_store 23 = .ok (.astore 4, 2) := by decide +kernel
theorem d_Bus_store_25 : decode b_Bus_store 25 = .ok (.aload 4, 2) := by decide +kernel
theorem d_Bus_store_27 : decode b_Bus_store 27 = .ok (.invokevirtual 50, 3) := by decide +kernel
theorem d_Bus_store_30 : decode b_Bus_store 30 = .ok (.ifCond .eq 6, 3) := by decide +kernel
theorem d_Bus_store_33 : decode b_Bus_store 33 = .ok (.bipush (-2), 2) := by decide +kernel
theorem d_Bus_store_35 : decode b_Bus_store 35 = .ok (.ireturn, 1) := by decide +kernel
theorem d_Bus_store_36 : decode b_Bus_store 36 = .ok (.aload 4, 2) := by decide +kernel
theorem d_Bus_store_38 : decode b_Bus_store 38 = .ok (.getfield 86, 3) := by decide +kernel
theorem d_Bus_store_41 : decode b_Bus_store 41 = .ok (.iconst 4, 1) := by decide +kernel
theorem d_Bus_store_42 : decode b_Bus_store 42 = .ok (.if_icmp .lt 6, 3) := by decide +kernel
theorem d_Bus_store_45 : decode b_Bus_store 45 = .ok (.bipush (-3), 2) := by decide +kernel
theorem d_Bus_store_47 : decode b_Bus_store 47 = .ok (.ireturn, 1) := by decide +kernel
theorem d_Bus_store_48 : decode b_Bus_store 48 = .ok (.aload 4, 2) := by decide +kernel
theorem d_Bus_store_50 : decode b_Bus_store 50 = .ok (.iload_n 2, 1) := by decide +kernel
theorem d_Bus_store_51 : decode b_Bus_store 51 = .ok (.iload_n 3, 1) := by decide +kernel
theorem d_Bus_store_52 : decode b_Bus_store 52 = .ok (.invokevirtual 89, 3) := by decide +kernel
theorem d_Bus_store_55 : decode b_Bus_store 55 = .ok (.aload 4, 2) := by decide +kernel
theorem d_Bus_store_57 : decode b_Bus_store 57 = .ok (.getfield 86, 3) := by decide +kernel
theorem d_Bus_store_60 : decode b_Bus_store 60 = .ok (.ireturn, 1) := by decide +kernel
theorem d_Core_appendStore_0 : decode b_Core_appendStore 0 = .ok (.aload_n 0, 1) := by decide +kernel
theorem d_Core_appendStore_1 : decode b_Core_appendStore 1 = .ok (.getfield 9, 3) := by decide +kernel
theorem d_Core_appendStore_4 : decode b_Core_appendStore 4 = .ok (.aload_n 0, 1) := by decide +kernel
theorem d_Core_appendStore_5 : decode b_Core_appendStore 5 = .ok (.getfield 32, 3) := by decide +kernel
theorem d_Core_appendStore_8 : decode b_Core_appendStore 8 = .ok (.iload_n 1, 1) := by decide +kernel
theorem d_Core_appendStore_9 : decode b_Core_appendStore 9 = .ok (.iastore, 1) := by decide +kernel
theorem d_Core_appendStore_10 : decode b_Core_appendStore 10 = .ok (.aload_n 0, 1) := by decide +kernel
theorem d_Core_appendStore_11 : decode b_Core_appendStore 11 = .ok (.getfield 15, 3) := by decide +kernel
theorem d_Core_appendStore_14 : decode b_Core_appendStore 14 = .ok (.aload_n 0, 1) := by decide +kernel
theorem d_Core_appendStore_15 : decode b_Core_appendStore 15 = .ok (.getfield 32, 3) := by decide +kernel
theorem d_Core_appendStore_18 : decode b_Core_appendStore 18 = .ok (.iload_n 2, 1) := by decide +kernel
theorem d_Core_appendStore_19 : decode b_Core_appendStore 19 = .ok (.iastore, 1) := by decide +kernel
theorem d_Core_appendStore_20 : decode b_Core_appendStore 20 = .ok (.aload_n 0, 1) := by decide +kernel
theorem d_Core_appendStore_21 : decode b_Core_appendStore 21 = .ok (.dup, 1) := by decide +kernel
theorem d_Core_appendStore_22 : decode b_Core_appendStore 22 = .ok (.getfield 32, 3) := by decide +kernel
theorem d_Core_appendStore_25 : decode b_Core_appendStore 25 = .ok (.iconst 1, 1) := by decide +kernel
theorem d_Core_appendStore_26 : decode b_Core_appendStore 26 = .ok (.iadd, 1) := by decide +kernel
theorem d_Core_appendStore_27 : decode b_Core_appendStore 27 = .ok (.putfield 32, 3) := by decide +kernel
theorem d_Core_appendStore_30 : decode b_Core_appendStore 30 = .ok (.return_, 1) := by decide +kernel
theorem d_Bus_drain_0 : decode b_Bus_drain 0 = .ok (.aload_n 0, 1) := by decide +kernel
theorem d_Bus_drain_1 : decode b_Bus_drain 1 = .ok (.iload_n 1, 1) := by decide +kernel
theorem d_Bus_drain_2 : decode b_Bus_drain 2 = .ok (.invokevirtual 43, 3) := by decide +kernel
theorem d_Bus_drain_5 : decode b_Bus_drain 5 = .ok (.ifCond .ne 5, 3) := by decide +kernel
theorem d_Bus_drain_8 : decode b_Bus_drain 8 = .ok (.iconst (-1), 1) := by decide +kernel
theorem d_Bus_drain_9 : decode b_Bus_drain 9 = .ok (.ireturn, 1) := by decide +kernel
theorem d_Bus_drain_10 : decode b_Bus_drain 10 = .ok (.aload_n 0, 1) := by decide +kernel
theorem d_Bus_drain_11 : decode b_Bus_drain 11 = .ok (.getfield 27, 3) := by decide +kernel
theorem d_Bus_drain_14 : decode b_Bus_drain 14 = .ok (.iload_n 1, 1) := by decide +kernel
theorem d_Bus_drain_15 : decode b_Bus_drain 15 = .ok (.aaload, 1) := by decide +kernel
theorem d_Bus_drain_16 : decode b_Bus_drain 16 = .ok (.astore_n 2, 1) := by decide +kernel
theorem d_Bus_drain_17 : decode b_Bus_drain 17 = .ok (.aload_n 2, 1) := by decide +kernel
theorem d_Bus_drain_18 : decode b_Bus_drain 18 = .ok (.invokevirtual 50, 3) := by decide +kernel
theorem d_Bus_drain_21 : decode b_Bus_drain 21 = .ok (.ifCond .eq 6, 3) := by decide +kernel
theorem d_Bus_drain_24 : decode b_Bus_drain 24 = .ok (.bipush (-2), 2) := by decide +kernel
theorem d_Bus_drain_26 : decode b_Bus_drain 26 = .ok (.ireturn, 1) := by decide +kernel
theorem d_Bus_drain_27 : decode b_Bus_drain 27 = .ok (.aload_n 2, 1) := by decide +kernel
theorem d_Bus_drain_28 : decode b_Bus_drain 28 = .ok (.getfield 86, 3) := by decide +kernel
theorem d_Bus_drain_31 : decode b_Bus_drain 31 = .ok (.ifCond .ne 6, 3) := by decide +kernel
theorem d_Bus_drain_34 : decode b_Bus_drain 34 = .ok (.bipush (-4), 2) := by decide +kernel
theorem d_Bus_drain_36 : decode b_Bus_drain 36 = .ok (.ireturn, 1) := by decide +kernel
theorem d_Bus_drain_37 : decode b_Bus_drain 37 = .ok (.aload_n 2, 1) := by decide +kernel
theorem d_Bus_drain_38 : decode b_Bus_drain 38 = .ok (.iconst 2, 1) := by decide +kernel
theorem d_Bus_drain_39 : decode b_Bus_drain 39 = .ok (.aload_n 2, 1) := by decide +kernel
theorem d_Bus_drain_40 : decode b_Bus_drain 40 = .ok (.getfield 93, 3) := by decide +kernel
theorem d_Bus_drain_43 : decode b_Bus_drain 43 = .ok (.iconst 0, 1) := by decide +kernel
theorem d_Bus_drain_44 : decode b_Bus_drain 44 = .ok (.iaload, 1) := by decide +kernel
theorem d_Bus_drain_45 : decode b_Bus_drain 45 = .ok (.aload_n 2, 1) := by decide +kernel
theorem d_Bus_drain_46 : decode b_Bus_drain 46 = .ok (.getfield 58, 3) := by decide +kernel
theorem d_Bus_drain_49 : decode b_Bus_drain 49 = .ok (.iconst 0, 1) := by decide +kernel
theorem d_Bus_drain_50 : decode b_Bus_drain 50 = .ok (.iaload, 1) := by decide +kernel
theorem d_Bus_drain_51 : decode b_Bus_drain 51 = .ok (.invokevirtual 96, 3) := by decide +kernel
theorem d_Bus_drain_54 : decode b_Bus_drain 54 = .ok (.ireturn, 1) := by decide +kernel
theorem d_Core_changeOrAsk_0 : decode b_Core_changeOrAsk 0 = .ok (.aload_n 0, 1) := by decide +kernel
theorem d_Core_changeOrAsk_1 : decode b_Core_changeOrAsk 1 = .ok (.getfield 22, 3) := by decide +kernel
theorem d_Core_changeOrAsk_4 : decode b_Core_changeOrAsk 4 = .ok (.iload_n 2, 1) := by decide +kernel
theorem d_Core_changeOrAsk_5 : decode b_Core_changeOrAsk 5 = .ok (.invokestatic 35, 3) := by decide +kernel
theorem d_Core_changeOrAsk_8 : decode b_Core_changeOrAsk 8 = .ok (.invokevirtual 39, 3) := by decide +kernel
theorem d_Core_changeOrAsk_11 : decode b_Core_changeOrAsk 11 = .ok (.ifCond .eq 12, 3) := by decide +kernel
theorem d_Core_changeOrAsk_14 : decode b_Core_changeOrAsk 14 = .ok (.aload_n 0, 1) := by decide +kernel
theorem d_Core_changeOrAsk_15 : decode b_Core_changeOrAsk 15 = .ok (.iload_n 1, 1) := by decide +kernel
theorem d_Core_changeOrAsk_16 : decode b_Core_changeOrAsk 16 = .ok (.iload_n 2, 1) := by decide +kernel
theorem d_Core_changeOrAsk_17 : decode b_Core_changeOrAsk 17 = .ok (.iload_n 3, 1) := by decide +kernel
theorem d_Core_changeOrAsk_18 : decode b_Core_changeOrAsk 18 = .ok (.invokevirtual 45, 3) := by decide +kernel
theorem d_Core_changeOrAsk_21 : decode b_Core_changeOrAsk 21 = .ok (.iconst 0, 1) := by decide +kernel
theorem d_Core_changeOrAsk_22 : decode b_Core_changeOrAsk 22 = .ok (.ireturn, 1) := by decide +kernel
theorem d_Core_changeOrAsk_23 : decode b_Core_changeOrAsk 23 = .ok (.aload_n 0, 1) := by decide +kernel
theorem d_Core_changeOrAsk_24 : decode b_Core_changeOrAsk 24 = .ok (.iload_n 1, 1) := by decide +kernel
theorem d_Core_changeOrAsk_25 : decode b_Core_changeOrAsk 25 = .ok (.iload_n 2, 1) := by decide +kernel
theorem d_Core_changeOrAsk_26 : decode b_Core_changeOrAsk 26 = .ok (.iload_n 3, 1) := by decide +kernel
theorem d_Core_changeOrAsk_27 : decode b_Core_changeOrAsk 27 = .ok (.invokevirtual 49, 3) := by decide +kernel
theorem d_Core_changeOrAsk_30 : decode b_Core_changeOrAsk 30 = .ok (.iconst 1, 1) := by decide +kernel
theorem d_Core_changeOrAsk_31 : decode b_Core_changeOrAsk 31 = .ok (.ireturn, 1) := by decide +kernel
theorem d_Cache_owns_0 : decode b_Cache_owns 0 = .ok (.aload_n 0, 1) := by decide +kernel
theorem d_Cache_owns_1 : decode b_Cache_owns 1 = .ok (.getfield 9, 3) := by decide +kernel
theorem d_Cache_owns_4 : decode b_Cache_owns 4 = .ok (.iload_n 1, 1) := by decide +kernel
theorem d_Cache_owns_5 : decode b_Cache_owns 5 = .ok (.iaload, 1) := by decide +kernel
theorem d_Cache_owns_6 : decode b_Cache_owns 6 = .ok (.iconst 2, 1) := by decide +kernel
theorem d_Cache_owns_7 : decode b_Cache_owns 7 = .ok (.if_icmp .eq 13, 3) := by decide +kernel
theorem d_Cache_owns_10 : decode b_Cache_owns 10 = .ok (.aload_n 0, 1) := by decide +kernel
theorem d_Cache_owns_11 : decode b_Cache_owns 11 = .ok (.getfield 9, 3) := by decide +kernel
theorem d_Cache_owns_14 : decode b_Cache_owns 14 = .ok (.iload_n 1, 1) := by decide +kernel
theorem d_Cache_owns_15 : decode b_Cache_owns 15 = .ok (.iaload, 1) := by decide +kernel
theorem d_Cache_owns_16 : decode b_Cache_owns 16 = .ok (.iconst 3, 1) := by decide +kernel
theorem d_Cache_owns_17 : decode b_Cache_owns 17 = .ok (.if_icmp .ne 7, 3) := by decide +kernel
theorem d_Cache_owns_20 : decode b_Cache_owns 20 = .ok (.iconst 1, 1) := by decide +kernel
theorem d_Cache_owns_21 : decode b_Cache_owns 21 = .ok (.goto 4, 3) := by decide +kernel
theorem d_Cache_owns_24 : decode b_Cache_owns 24 = .ok (.iconst 0, 1) := by decide +kernel
theorem d_Cache_owns_25 : decode b_Cache_owns 25 = .ok (.ireturn, 1) := by decide +kernel
theorem d_Core_change_0 : decode b_Core_change 0 = .ok (.iload_n 1, 1) := by decide +kernel
theorem d_Core_change_1 : decode b_Core_change 1 = .ok (.iconst 2, 1) := by decide +kernel
theorem d_Core_change_2 : decode b_Core_change 2 = .ok (.if_icmp .ne 17, 3) := by decide +kernel
theorem d_Core_change_5 : decode b_Core_change 5 = .ok (.aload_n 0, 1) := by decide +kernel
theorem d_Core_change_6 : decode b_Core_change 6 = .ok (.getfield 22, 3) := by decide +kernel
theorem d_Core_change_9 : decode b_Core_change 9 = .ok (.iload_n 2, 1) := by decide +kernel
theorem d_Core_change_10 : decode b_Core_change 10 = .ok (.iload_n 3, 1) := by decide +kernel
theorem d_Core_change_11 : decode b_Core_change 11 = .ok (.invokevirtual 52, 3) := by decide +kernel
theorem d_Core_change_14 : decode b_Core_change 14 = .ok (.aload_n 0, 1) := by decide +kernel
theorem d_Core_change_15 : decode b_Core_change 15 = .ok (.invokevirtual 56, 3) := by decide +kernel
theorem d_Core_change_18 : decode b_Core_change 18 = .ok (.return_, 1) := by decide +kernel
theorem d_Core_change_19 : decode b_Core_change 19 = .ok (.aload_n 0, 1) := by decide +kernel
theorem d_Core_change_20 : decode b_Core_change 20 = .ok (.getfield 22, 3) := by decide +kernel
theorem d_Core_change_23 : decode b_Core_change 23 = .ok (.getfield 59, 3) := by decide +kernel
theorem d_Core_change_26 : decode b_Core_change 26 = .ok (.iload_n 2, 1) := by decide +kernel
theorem d_Core_change_27 : decode b_Core_change 27 = .ok (.iaload, 1) := by decide +kernel
theorem d_Core_change_28 : decode b_Core_change 28 = .ok (.istore 4, 2) := by decide +kernel
theorem d_Core_change_30 : decode b_Core_change 30 = .ok (.aload_n 0, 1) := by decide +kernel
theorem d_Core_change_31 : decode b_Core_change 31 = .ok (.iload 4, 2) := by decide +kernel
theorem d_Core_change_33 : decode b_Core_change 33 = .ok (.putfield 62, 3) := by decide +kernel
theorem d_Core_change_36 : decode b_Core_change 36 = .ok (.aload_n 0, 1) := by decide +kernel
theorem d_Core_change_37 : decode b_Core_change 37 = .ok (.getfield 22, 3) := by decide +kernel
theorem d_Core_change_40 : decode b_Core_change 40 = .ok (.iload_n 2, 1) := by decide +kernel
theorem d_Core_change_41 : decode b_Core_change 41 = .ok (.iload_n 1, 1) := by decide +kernel
theorem d_Core_change_42 : decode b_Core_change 42 = .ok (.iconst 4, 1) := by decide +kernel
theorem d_Core_change_43 : decode b_Core_change 43 = .ok (.if_icmp .ne 10, 3) := by decide +kernel
theorem d_Core_change_46 : decode b_Core_change 46 = .ok (.iload 4, 2) := by decide +kernel
theorem d_Core_change_48 : decode b_Core_change 48 = .ok (.iload_n 3, 1) := by decide +kernel
theorem d_Core_change_49 : decode b_Core_change 49 = .ok (.iadd, 1) := by decide +kernel
theorem d_Core_change_50 : decode b_Core_change 50 = .ok (.goto 4, 3) := by decide +kernel
theorem d_Core_change_53 : decode b_Core_change 53 = .ok (.iload_n 3, 1) := by decide +kernel
theorem d_Core_change_54 : decode b_Core_change 54 = .ok (.invokevirtual 52, 3) := by decide +kernel
theorem d_Core_change_57 : decode b_Core_change 57 = .ok (.return_, 1) := by decide +kernel
theorem d_Cache_put_0 : decode b_Cache_put 0 = .ok (.iload_n 1, 1) := by decide +kernel
theorem d_Cache_put_1 : decode b_Cache_put 1 = .ok (.invokestatic 32, 3) := by decide +kernel
theorem d_Cache_put_4 : decode b_Cache_put 4 = .ok (.istore_n 3, 1) := by decide +kernel
theorem d_Cache_put_5 : decode b_Cache_put 5 = .ok (.aload_n 0, 1) := by decide +kernel
theorem d_Cache_put_6 : decode b_Cache_put 6 = .ok (.getfield 18, 3) := by decide +kernel
theorem d_Cache_put_9 : decode b_Cache_put 9 = .ok (.iload_n 1, 1) := by decide +kernel
theorem d_Cache_put_10 : decode b_Cache_put 10 = .ok (.iload_n 2, 1) := by decide +kernel
theorem d_Cache_put_11 : decode b_Cache_put 11 = .ok (.iastore, 1) := by decide +kernel
theorem d_Cache_put_12 : decode b_Cache_put 12 = .ok (.aload_n 0, 1) := by decide +kernel
theorem d_Cache_put_13 : decode b_Cache_put 13 = .ok (.getfield 9, 3) := by decide +kernel
theorem d_Cache_put_16 : decode b_Cache_put 16 = .ok (.iload_n 3, 1) := by decide +kernel
theorem d_Cache_put_17 : decode b_Cache_put 17 = .ok (.iconst 3, 1) := by decide +kernel
theorem d_Cache_put_18 : decode b_Cache_put 18 = .ok (.iastore, 1) := by decide +kernel
theorem d_Cache_put_19 : decode b_Cache_put 19 = .ok (.aload_n 0, 1) := by decide +kernel
theorem d_Cache_put_20 : decode b_Cache_put 20 = .ok (.iload_n 3, 1) := by decide +kernel
theorem d_Cache_put_21 : decode b_Cache_put 21 = .ok (.invokevirtual 36, 3) := by decide +kernel
theorem d_Cache_put_24 : decode b_Cache_put 24 = .ok (.return_, 1) := by decide +kernel
theorem d_Core_removeOldestStore_0 : decode b_Core_removeOldestStore 0 = .ok (.iconst 1, 1) := by decide +kernel
theorem d_Core_removeOldestStore_1 : decode b_Core_removeOldestStore 1 = .ok (.istore_n 1, 1) := by decide +kernel
theorem d_Core_removeOldestStore_2 : decode b_Core_removeOldestStore 2 = .ok (.iload_n 1, 1) := by decide +kernel
theorem d_Core_removeOldestStore_3 : decode b_Core_removeOldestStore 3 = .ok (.aload_n 0, 1) := by decide +kernel
theorem d_Core_removeOldestStore_4 : decode b_Core_removeOldestStore 4 = .ok (.getfield 32, 3) := by decide +kernel
theorem d_Core_removeOldestStore_7 : decode b_Core_removeOldestStore 7 = .ok (.if_icmp .ge 37, 3) := by decide +kernel
theorem d_Core_removeOldestStore_10 : decode b_Core_removeOldestStore 10 = .ok (.aload_n 0, 1) := by decide +kernel
theorem d_Core_removeOldestStore_11 : decode b_Core_removeOldestStore 11 = .ok (.getfield 9, 3) := by decide +kernel
theorem d_Core_removeOldestStore_14 : decode b_Core_removeOldestStore 14 = .ok (.iload_n 1, 1) := by decide +kernel
theorem d_Core_removeOldestStore_15 : decode b_Core_removeOldestStore 15 = .ok (.iconst 1, 1) := by decide +kernel
theorem d_Core_removeOldestStore_16 : decode b_Core_removeOldestStore 16 = .ok (.isub, 1) := by decide +kernel
theorem d_Core_removeOldestStore_17 : decode b_Core_removeOldestStore 17 = .ok (.aload_n 0, 1) := by decide +kernel
theorem d_Core_removeOldestStore_18 : decode b_Core_removeOldestStore 18 = .ok (.getfield 9, 3) := by decide +kernel
theorem d_Core_removeOldestStore_21 : decode b_Core_removeOldestStore 21 = .ok (.iload_n 1, 1) := by decide +kernel
theorem d_Core_removeOldestStore_22 : decode b_Core_removeOldestStore 22 = .ok (.iaload, 1) := by decide +kernel
theorem d_Core_removeOldestStore_23 : decode b_Core_removeOldestStore 23 = .ok (.iastore, 1) := by decide +kernel
theorem d_Core_removeOldestStore_24 : decode b_Core_removeOldestStore 24 = .ok (.aload_n 0, 1) := by decide +kernel
theorem d_Core_removeOldestStore_25 : decode b_Core_removeOldestStore 25 = .ok (.getfield 15, 3) := by decide +kernel
theorem d_Core_removeOldestStore_28 : decode b_Core_removeOldestStore 28 = .ok (.iload_n 1, 1) := by decide +kernel
theorem d_Core_removeOldestStore_29 : decode b_Core_removeOldestStore 29 = .ok (.iconst 1, 1) := by decide +kernel
theorem d_Core_removeOldestStore_30 : decode b_Core_removeOldestStore 30 = .ok (.isub, 1) := by decide +kernel
theorem d_Core_removeOldestStore_31 : decode b_Core_removeOldestStore 31 = .ok (.aload_n 0, 1) := by decide +kernel
theorem d_Core_removeOldestStore_32 : decode b_Core_removeOldestStore 32 = .ok (.getfield 15, 3) := by decide +kernel
theorem d_Core_removeOldestStore_35 : decode b_Core_removeOldestStore 35 = .ok (.iload_n 1, 1) := by decide +kernel
theorem d_Core_removeOldestStore_36 : decode b_Core_removeOldestStore 36 = .ok (.iaload, 1) := by decide +kernel
theorem d_Core_removeOldestStore_37 : decode b_Core_removeOldestStore 37 = .ok (.iastore, 1) := by decide +kernel
theorem d_Core_removeOldestStore_38 : decode b_Core_removeOldestStore 38 = .ok (.iinc 1 1, 3) := by decide +kernel
theorem d_Core_removeOldestStore_41 : decode b_Core_removeOldestStore 41 = .ok (.goto (-39), 3) := by decide +kernel
theorem d_Core_removeOldestStore_44 : decode b_Core_removeOldestStore 44 = .ok (.aload_n 0, 1) := by decide +kernel
theorem d_Core_removeOldestStore_45 : decode b_Core_removeOldestStore 45 = .ok (.dup, 1) := by decide +kernel
theorem d_Core_removeOldestStore_46 : decode b_Core_removeOldestStore 46 = .ok (.getfield 32, 3) := by decide +kernel
theorem d_Core_removeOldestStore_49 : decode b_Core_removeOldestStore 49 = .ok (.iconst 1, 1) := by decide +kernel
theorem d_Core_removeOldestStore_50 : decode b_Core_removeOldestStore 50 = .ok (.isub, 1) := by decide +kernel
theorem d_Core_removeOldestStore_51 : decode b_Core_removeOldestStore 51 = .ok (.putfield 32, 3) := by decide +kernel
theorem d_Core_removeOldestStore_54 : decode b_Core_removeOldestStore 54 = .ok (.return_, 1) := by decide +kernel
theorem d_Bus_swap_0 : decode b_Bus_swap 0 = .ok (.aload_n 0, 1) := by decide +kernel
theorem d_Bus_swap_1 : decode b_Bus_swap 1 = .ok (.iload_n 1, 1) := by decide +kernel
theorem d_Bus_swap_2 : decode b_Bus_swap 2 = .ok (.iconst 3, 1) := by decide +kernel
theorem d_Bus_swap_3 : decode b_Bus_swap 3 = .ok (.iload_n 2, 1) := by decide +kernel
theorem d_Bus_swap_4 : decode b_Bus_swap 4 = .ok (.iload_n 3, 1) := by decide +kernel
theorem d_Bus_swap_5 : decode b_Bus_swap 5 = .ok (.invokevirtual 100, 3) := by decide +kernel
theorem d_Bus_swap_8 : decode b_Bus_swap 8 = .ok (.ireturn, 1) := by decide +kernel
theorem d_Bus_changeAtOnce_0 : decode b_Bus_changeAtOnce 0 = .ok (.aload_n 0, 1) := by decide +kernel
theorem d_Bus_changeAtOnce_1 : decode b_Bus_changeAtOnce 1 = .ok (.iload_n 1, 1) := by decide +kernel
theorem d_Bus_changeAtOnce_2 : decode b_Bus_changeAtOnce 2 = .ok (.invokevirtual 43, 3) := by decide +kernel
theorem d_Bus_changeAtOnce_5 : decode b_Bus_changeAtOnce 5 = .ok (.ifCond .eq 10, 3) := by decide +kernel
theorem d_Bus_changeAtOnce_8 : decode b_Bus_changeAtOnce 8 = .ok (.iload_n 3, 1) := by decide +kernel
theorem d_Bus_changeAtOnce_9 : decode b_Bus_changeAtOnce 9 = .ok (.invokestatic 47, 3) := by decide +kernel
theorem d_Bus_changeAtOnce_12 : decode b_Bus_changeAtOnce 12 = .ok (.ifCond .ne 5, 3) := by decide +kernel
theorem d_Bus_changeAtOnce_15 : decode b_Bus_changeAtOnce 15 = .ok (.iconst (-1), 1) := by decide +kernel
theorem d_Bus_changeAtOnce_16 : decode b_Bus_changeAtOnce 16 = .ok (.ireturn, 1) := by decide +kernel
theorem d_Bus_changeAtOnce_17 : decode b_Bus_changeAtOnce 17 = .ok (.aload_n 0, 1) := by decide +kernel
theorem d_Bus_changeAtOnce_18 : decode b_Bus_changeAtOnce 18 = .ok (.getfield 27, 3) := by decide +kernel
theorem d_Bus_changeAtOnce_21 : decode b_Bus_changeAtOnce 21 = .ok (.iload_n 1, 1) := by decide +kernel
theorem d_Bus_changeAtOnce_22 : decode b_Bus_changeAtOnce 22 = .ok (.aaload, 1) := by decide +kernel
theorem d_Bus_changeAtOnce_23 : decode b_Bus_changeAtOnce 23 = .ok (.astore 5, 2) := by decide +kernel
theorem d_Bus_changeAtOnce_25 : decode b_Bus_changeAtOnce 25 = .ok (.aload 5, 2) := by decide +kernel
theorem d_Bus_changeAtOnce_27 : decode b_Bus_changeAtOnce 27 = .ok (.invokevirtual 50, 3) := by decide +kernel
theorem d_Bus_changeAtOnce_30 : decode b_Bus_changeAtOnce 30 = .ok (.ifCond .eq 6, 3) := by decide +kernel
theorem d_Bus_changeAtOnce_33 : decode b_Bus_changeAtOnce 33 = .ok (.bipush (-2), 2) := by decide +kernel
theorem d_Bus_changeAtOnce_35 : decode b_Bus_changeAtOnce 35 = .ok (.ireturn, 1) := by decide +kernel
theorem d_Bus_changeAtOnce_36 : decode b_Bus_changeAtOnce 36 = .ok (.aload 5, 2) := by decide +kernel
theorem d_Bus_changeAtOnce_38 : decode b_Bus_changeAtOnce 38 = .ok (.getfield 86, 3) := by decide +kernel
theorem d_Bus_changeAtOnce_41 : decode b_Bus_changeAtOnce 41 = .ok (.ifCond .eq 6, 3) := by decide +kernel
theorem d_Bus_changeAtOnce_44 : decode b_Bus_changeAtOnce 44 = .ok (.bipush (-4), 2) := by decide +kernel
theorem d_Bus_changeAtOnce_46 : decode b_Bus_changeAtOnce 46 = .ok (.ireturn, 1) := by decide +kernel
theorem d_Bus_changeAtOnce_47 : decode b_Bus_changeAtOnce 47 = .ok (.aload 5, 2) := by decide +kernel
theorem d_Bus_changeAtOnce_49 : decode b_Bus_changeAtOnce 49 = .ok (.iload_n 2, 1) := by decide +kernel
theorem d_Bus_changeAtOnce_50 : decode b_Bus_changeAtOnce 50 = .ok (.iload_n 3, 1) := by decide +kernel
theorem d_Bus_changeAtOnce_51 : decode b_Bus_changeAtOnce 51 = .ok (.iload 4, 2) := by decide +kernel
theorem d_Bus_changeAtOnce_53 : decode b_Bus_changeAtOnce 53 = .ok (.invokevirtual 96, 3) := by decide +kernel
theorem d_Bus_changeAtOnce_56 : decode b_Bus_changeAtOnce 56 = .ok (.ireturn, 1) := by decide +kernel
theorem d_Bus_add_0 : decode b_Bus_add 0 = .ok (.aload_n 0, 1) := by decide +kernel
theorem d_Bus_add_1 : decode b_Bus_add 1 = .ok (.iload_n 1, 1) := by decide +kernel
theorem d_Bus_add_2 : decode b_Bus_add 2 = .ok (.iconst 4, 1) := by decide +kernel
theorem d_Bus_add_3 : decode b_Bus_add 3 = .ok (.iload_n 2, 1) := by decide +kernel
theorem d_Bus_add_4 : decode b_Bus_add 4 = .ok (.iload_n 3, 1) := by decide +kernel
theorem d_Bus_add_5 : decode b_Bus_add 5 = .ok (.invokevirtual 100, 3) := by decide +kernel
theorem d_Bus_add_8 : decode b_Bus_add 8 = .ok (.ireturn, 1) := by decide +kernel
theorem d_Bus_bus_0 : decode b_Bus_bus 0 = .ok (.iconst 1, 1) := by decide +kernel
theorem d_Bus_bus_1 : decode b_Bus_bus 1 = .ok (.istore_n 1, 1) := by decide +kernel
theorem d_Bus_bus_2 : decode b_Bus_bus 2 = .ok (.iload_n 1, 1) := by decide +kernel
theorem d_Bus_bus_3 : decode b_Bus_bus 3 = .ok (.aload_n 0, 1) := by decide +kernel
theorem d_Bus_bus_4 : decode b_Bus_bus 4 = .ok (.getfield 27, 3) := by decide +kernel
theorem d_Bus_bus_7 : decode b_Bus_bus 7 = .ok (.arraylength, 1) := by decide +kernel
theorem d_Bus_bus_8 : decode b_Bus_bus 8 = .ok (.if_icmp .gt 41, 3) := by decide +kernel
theorem d_Bus_bus_11 : decode b_Bus_bus 11 = .ok (.aload_n 0, 1) := by decide +kernel
theorem d_Bus_bus_12 : decode b_Bus_bus 12 = .ok (.getfield 39, 3) := by decide +kernel
theorem d_Bus_bus_15 : decode b_Bus_bus 15 = .ok (.iload_n 1, 1) := by decide +kernel
theorem d_Bus_bus_16 : decode b_Bus_bus 16 = .ok (.iadd, 1) := by decide +kernel
theorem d_Bus_bus_17 : decode b_Bus_bus 17 = .ok (.aload_n 0, 1) := by decide +kernel
theorem d_Bus_bus_18 : decode b_Bus_bus 18 = .ok (.getfield 27, 3) := by decide +kernel
theorem d_Bus_bus_21 : decode b_Bus_bus 21 = .ok (.arraylength, 1) := by decide +kernel
theorem d_Bus_bus_22 : decode b_Bus_bus 22 = .ok (.irem, 1) := by decide +kernel
theorem d_Bus_bus_23 : decode b_Bus_bus 23 = .ok (.istore_n 2, 1) := by decide +kernel
theorem d_Bus_bus_24 : decode b_Bus_bus 24 = .ok (.aload_n 0, 1) := by decide +kernel
theorem d_Bus_bus_25 : decode b_Bus_bus 25 = .ok (.getfield 27, 3) := by decide +kernel
theorem d_Bus_bus_28 : decode b_Bus_bus 28 = .ok (.iload_n 2, 1) := by decide +kernel
theorem d_Bus_bus_29 : decode b_Bus_bus 29 = .ok (.aaload, 1) := by decide +kernel
theorem d_Bus_bus_30 : decode b_Bus_bus 30 = .ok (.invokevirtual 50, 3) := by decide +kernel
theorem d_Bus_bus_33 : decode b_Bus_bus 33 = .ok (.ifCond .eq 10, 3) := by decide +kernel
theorem d_Bus_bus_36 : decode b_Bus_bus 36 = .ok (.aload_n 0, 1) := by decide +kernel
theorem d_Bus_bus_37 : decode b_Bus_bus 37 = .ok (.iload_n 2, 1) := by decide +kernel
theorem d_Bus_bus_38 : decode b_Bus_bus 38 = .ok (.invokevirtual 104, 3) := by decide +kernel
theorem d_Bus_bus_41 : decode b_Bus_bus 41 = .ok (.iload_n 2, 1) := by decide +kernel
theorem d_Bus_bus_42 : decode b_Bus_bus 42 = .ok (.ireturn, 1) := by decide +kernel
theorem d_Bus_bus_43 : decode b_Bus_bus 43 = .ok (.iinc 1 1, 3) := by decide +kernel
theorem d_Bus_bus_46 : decode b_Bus_bus 46 = .ok (.goto (-44), 3) := by decide +kernel
theorem d_Bus_bus_49 : decode b_Bus_bus 49 = .ok (.bipush (-5), 2) := by decide +kernel
theorem d_Bus_bus_51 : decode b_Bus_bus 51 = .ok (.ireturn, 1) := by decide +kernel
theorem d_Bus_serve_0 : decode b_Bus_serve 0 = .ok (.aload_n 0, 1) := by decide +kernel
theorem d_Bus_serve_1 : decode b_Bus_serve 1 = .ok (.getfield 27, 3) := by decide +kernel
theorem d_Bus_serve_4 : decode b_Bus_serve 4 = .ok (.iload_n 1, 1) := by decide +kernel
theorem d_Bus_serve_5 : decode b_Bus_serve 5 = .ok (.aaload, 1) := by decide +kernel
theorem d_Bus_serve_6 : decode b_Bus_serve 6 = .ok (.astore_n 2, 1) := by decide +kernel
theorem d_Bus_serve_7 : decode b_Bus_serve 7 = .ok (.aload_n 2, 1) := by decide +kernel
theorem d_Bus_serve_8 : decode b_Bus_serve 8 = .ok (.getfield 116, 3) := by decide +kernel
theorem d_Bus_serve_11 : decode b_Bus_serve 11 = .ok (.iconst 1, 1) := by decide +kernel
theorem d_Bus_serve_12 : decode b_Bus_serve 12 = .ok (.if_icmp .ne 15, 3) := by decide +kernel
theorem d_Bus_serve_15 : decode b_Bus_serve 15 = .ok (.aload_n 0, 1) := by decide +kernel
theorem d_Bus_serve_16 : decode b_Bus_serve 16 = .ok (.iload_n 1, 1) := by decide +kernel
theorem d_Bus_serve_17 : decode b_Bus_serve 17 = .ok (.aload_n 2, 1) := by decide +kernel
theorem d_Bus_serve_18 : decode b_Bus_serve 18 = .ok (.getfield 119, 3) := by decide +kernel
theorem d_Bus_serve_21 : decode b_Bus_serve 21 = .ok (.invokevirtual 138, 3) := by decide +kernel
theorem d_Bus_serve_24 : decode b_Bus_serve 24 = .ok (.goto 31, 3) := by decide +kernel
theorem d_Bus_serve_27 : decode b_Bus_serve 27 = .ok (.aload_n 0, 1) := by decide +kernel
theorem d_Bus_serve_28 : decode b_Bus_serve 28 = .ok (.iload_n 1, 1) := by decide +kernel
theorem d_Bus_serve_29 : decode b_Bus_serve 29 = .ok (.aload_n 2, 1) := by decide +kernel
theorem d_Bus_serve_30 : decode b_Bus_serve 30 = .ok (.getfield 119, 3) := by decide +kernel
theorem d_Bus_serve_33 : decode b_Bus_serve 33 = .ok (.invokestatic 69, 3) := by decide +kernel
theorem d_Bus_serve_36 : decode b_Bus_serve 36 = .ok (.invokevirtual 141, 3) := by decide +kernel
theorem d_Bus_serve_39 : decode b_Bus_serve 39 = .ok (.aload_n 2, 1) := by decide +kernel
theorem d_Bus_serve_40 : decode b_Bus_serve 40 = .ok (.aload_n 2, 1) := by decide +kernel
theorem d_Bus_serve_41 : decode b_Bus_serve 41 = .ok (.getfield 116, 3) := by decide +kernel
theorem d_Bus_serve_44 : decode b_Bus_serve 44 = .ok (.aload_n 2, 1) := by decide +kernel
theorem d_Bus_serve_45 : decode b_Bus_serve 45 = .ok (.getfield 119, 3) := by decide +kernel
theorem d_Bus_serve_48 : decode b_Bus_serve 48 = .ok (.aload_n 2, 1) := by decide +kernel
theorem d_Bus_serve_49 : decode b_Bus_serve 49 = .ok (.getfield 144, 3) := by decide +kernel
theorem d_Bus_serve_52 : decode b_Bus_serve 52 = .ok (.invokevirtual 147, 3) := by decide +kernel
theorem d_Bus_serve_55 : decode b_Bus_serve 55 = .ok (.aload_n 2, 1) := by decide +kernel
theorem d_Bus_serve_56 : decode b_Bus_serve 56 = .ok (.iconst 0, 1) := by decide +kernel
theorem d_Bus_serve_57 : decode b_Bus_serve 57 = .ok (.putfield 116, 3) := by decide +kernel
theorem d_Bus_serve_60 : decode b_Bus_serve 60 = .ok (.aload_n 0, 1) := by decide +kernel
theorem d_Bus_serve_61 : decode b_Bus_serve 61 = .ok (.dup, 1) := by decide +kernel
theorem d_Bus_serve_62 : decode b_Bus_serve 62 = .ok (.getfield 123, 3) := by decide +kernel
theorem d_Bus_serve_65 : decode b_Bus_serve 65 = .ok (.iconst 1, 1) := by decide +kernel
theorem d_Bus_serve_66 : decode b_Bus_serve 66 = .ok (.iadd, 1) := by decide +kernel
theorem d_Bus_serve_67 : decode b_Bus_serve 67 = .ok (.putfield 123, 3) := by decide +kernel
theorem d_Bus_serve_70 : decode b_Bus_serve 70 = .ok (.aload_n 0, 1) := by decide +kernel
theorem d_Bus_serve_71 : decode b_Bus_serve 71 = .ok (.iload_n 1, 1) := by decide +kernel
theorem d_Bus_serve_72 : decode b_Bus_serve 72 = .ok (.putfield 39, 3) := by decide +kernel
theorem d_Bus_serve_75 : decode b_Bus_serve 75 = .ok (.return_, 1) := by decide +kernel
theorem d_Bus_serveRead_0 : decode b_Bus_serveRead 0 = .ok (.iload_n 2, 1) := by decide +kernel
theorem d_Bus_serveRead_1 : decode b_Bus_serveRead 1 = .ok (.invokestatic 69, 3) := by decide +kernel
theorem d_Bus_serveRead_4 : decode b_Bus_serveRead 4 = .ok (.istore_n 3, 1) := by decide +kernel
theorem d_Bus_serveRead_5 : decode b_Bus_serveRead 5 = .ok (.aload_n 0, 1) := by decide +kernel
theorem d_Bus_serveRead_6 : decode b_Bus_serveRead 6 = .ok (.iload_n 1, 1) := by decide +kernel
theorem d_Bus_serveRead_7 : decode b_Bus_serveRead 7 = .ok (.iload_n 3, 1) := by decide +kernel
theorem d_Bus_serveRead_8 : decode b_Bus_serveRead 8 = .ok (.invokevirtual 150, 3) := by decide +kernel
theorem d_Bus_serveRead_11 : decode b_Bus_serveRead 11 = .ok (.istore 4, 2) := by decide +kernel
theorem d_Bus_serveRead_13 : decode b_Bus_serveRead 13 = .ok (.aload_n 0, 1) := by decide +kernel
theorem d_Bus_serveRead_14 : decode b_Bus_serveRead 14 = .ok (.getfield 27, 3) := by decide +kernel
theorem d_Bus_serveRead_17 : decode b_Bus_serveRead 17 = .ok (.iload_n 1, 1) := by decide +kernel
theorem d_Bus_serveRead_18 : decode b_Bus_serveRead 18 = .ok (.aaload, 1) := by decide +kernel
theorem d_Bus_serveRead_19 : decode b_Bus_serveRead 19 = .ok (.astore 5, 2) := by decide +kernel
theorem d_Bus_serveRead_21 : decode b_Bus_serveRead 21 = .ok (.aload 5, 2) := by decide +kernel
theorem d_Bus_serveRead_23 : decode b_Bus_serveRead 23 = .ok (.getfield 65, 3) := by decide +kernel
theorem d_Bus_serveRead_26 : decode b_Bus_serveRead 26 = .ok (.iload_n 3, 1) := by decide +kernel
theorem d_Bus_serveRead_27 : decode b_Bus_serveRead 27 = .ok (.iload 4, 2) := by decide +kernel
theorem d_Bus_serveRead_29 : decode b_Bus_serveRead 29 = .ok (.ifCond .eq 7, 3) := by decide +kernel
theorem d_Bus_serveRead_32 : decode b_Bus_serveRead 32 = .ok (.iconst 1, 1) := by decide +kernel
theorem d_Bus_serveRead_33 : decode b_Bus_serveRead 33 = .ok (.goto 4, 3) := by decide +kernel
theorem d_Bus_serveRead_36 : decode b_Bus_serveRead 36 = .ok (.iconst 2, 1) := by decide +kernel
theorem d_Bus_serveRead_37 : decode b_Bus_serveRead 37 = .ok (.invokevirtual 154, 3) := by decide +kernel
theorem d_Bus_serveRead_40 : decode b_Bus_serveRead 40 = .ok (.aload 5, 2) := by decide +kernel
theorem d_Bus_serveRead_42 : decode b_Bus_serveRead 42 = .ok (.aload 5, 2) := by decide +kernel
theorem d_Bus_serveRead_44 : decode b_Bus_serveRead 44 = .ok (.getfield 65, 3) := by decide +kernel
theorem d_Bus_serveRead_47 : decode b_Bus_serveRead 47 = .ok (.getfield 75, 3) := by decide +kernel
theorem d_Bus_serveRead_50 : decode b_Bus_serveRead 50 = .ok (.iload_n 2, 1) := by decide +kernel
theorem d_Bus_serveRead_51 : decode b_Bus_serveRead 51 = .ok (.iaload, 1) := by decide +kernel
theorem d_Bus_serveRead_52 : decode b_Bus_serveRead 52 = .ok (.putfield 62, 3) := by decide +kernel
theorem d_Bus_serveRead_55 : decode b_Bus_serveRead 55 = .ok (.return_, 1) := by decide +kernel
theorem d_Bus_shareElsewhere_0 : decode b_Bus_shareElsewhere 0 = .ok (.iconst 0, 1) := by decide +kernel
theorem d_Bus_shareElsewhere_1 : decode b_Bus_shareElsewhere 1 = .ok (.istore_n 3, 1) := by decide +kernel
theorem d_Bus_shareElsewhere_2 : decode b_Bus_shareElsewhere 2 = .ok (.iconst 0, 1) := by decide +kernel
theorem d_Bus_shareElsewhere_3 : decode b_Bus_shareElsewhere 3 = .ok (.istore 4, 2) := by decide +kernel
theorem d_Bus_shareElsewhere_5 : decode b_Bus_shareElsewhere 5 = .ok (.iload 4, 2) := by decide +kernel
theorem d_Bus_shareElsewhere_7 : decode b_Bus_shareElsewhere 7 = .ok (.aload_n 0, 1) := by decide +kernel
theorem d_Bus_shareElsewhere_8 : decode b_Bus_shareElsewhere 8 = .ok (.getfield 27, 3) := by decide +kernel
theorem d_Bus_shareElsewhere_11 : decode b_Bus_shareElsewhere 11 = .ok (.arraylength, 1) := by decide +kernel
theorem d_Bus_shareElsewhere_12 : decode b_Bus_shareElsewhere 12 = .ok (.if_icmp .ge 48, 3) := by decide +kernel
theorem d_Bus_shareElsewhere_15 : decode b_Bus_shareElsewhere 15 = .ok (.iload 4, 2) := by decide +kernel
theorem d_Bus_shareElsewhere_17 : decode b_Bus_shareElsewhere 17 = .ok (.iload_n 1, 1) := by decide +kernel
theorem d_Bus_shareElsewhere_18 : decode b_Bus_shareElsewhere 18 = .ok (.if_icmp .eq 36, 3) := by decide +kernel
theorem d_Bus_shareElsewhere_21 : decode b_Bus_shareElsewhere 21 = .ok (.aload_n 0, 1) := by decide +kernel
theorem d_Bus_shareElsewhere_22 : decode b_Bus_shareElsewhere 22 = .ok (.getfield 27, 3) := by decide +kernel
theorem d_Bus_shareElsewhere_25 : decode b_Bus_shareElsewhere 25 = .ok (.iload 4, 2) := by decide +kernel
theorem d_Bus_shareElsewhere_27 : decode b_Bus_shareElsewhere 27 = .ok (.aaload, 1) := by decide +kernel
theorem d_Bus_shareElsewhere_28 : decode b_Bus_shareElsewhere 28 = .ok (.getfield 65, 3) := by decide +kernel
theorem d_Bus_shareElsewhere_31 : decode b_Bus_shareElsewhere 31 = .ok (.iload_n 2, 1) := by decide +kernel
theorem d_Bus_shareElsewhere_32 : decode b_Bus_shareElsewhere 32 = .ok (.invokevirtual 72, 3) := by decide +kernel
theorem d_Bus_shareElsewhere_35 : decode b_Bus_shareElsewhere 35 = .ok (.ifCond .eq 19, 3) := by decide +kernel
theorem d_Bus_shareElsewhere_38 : decode b_Bus_shareElsewhere 38 = .ok (.aload_n 0, 1) := by decide +kernel
theorem d_Bus_shareElsewhere_39 : decode b_Bus_shareElsewhere 39 = .ok (.getfield 27, 3) := by decide +kernel
theorem d_Bus_shareElsewhere_42 : decode b_Bus_shareElsewhere 42 = .ok (.iload 4, 2) := by decide +kernel
theorem d_Bus_shareElsewhere_44 : decode b_Bus_shareElsewhere 44 = .ok (.aaload, 1) := by decide +kernel
theorem d_Bus_shareElsewhere_45 : decode b_Bus_shareElsewhere 45 = .ok (.getfield 65, 3) := by decide +kernel
theorem d_Bus_shareElsewhere_48 : decode b_Bus_shareElsewhere 48 = .ok (.iload_n 2, 1) := by decide +kernel
theorem d_Bus_shareElsewhere_49 : decode b_Bus_shareElsewhere 49 = .ok (.invokevirtual 157, 3) := by decide +kernel
theorem d_Bus_shareElsewhere_52 : decode b_Bus_shareElsewhere 52 = .ok (.iconst 1, 1) := by decide +kernel
theorem d_Bus_shareElsewhere_53 : decode b_Bus_shareElsewhere 53 = .ok (.istore_n 3, 1) := by decide +kernel
theorem d_Bus_shareElsewhere_54 : decode b_Bus_shareElsewhere 54 = .ok (.iinc 4 1, 3) := by decide +kernel
theorem d_Bus_shareElsewhere_57 : decode b_Bus_shareElsewhere 57 = .ok (.goto (-52), 3) := by decide +kernel
theorem d_Bus_shareElsewhere_60 : decode b_Bus_shareElsewhere 60 = .ok (.iload_n 3, 1) := by decide +kernel
theorem d_Bus_shareElsewhere_61 : decode b_Bus_shareElsewhere 61 = .ok (.ireturn, 1) := by decide +kernel
theorem d_Cache_share_0 : decode b_Cache_share 0 = .ok (.aload_n 0, 1) := by decide +kernel
theorem d_Cache_share_1 : decode b_Cache_share 1 = .ok (.iload_n 1, 1) := by decide +kernel
theorem d_Cache_share_2 : decode b_Cache_share 2 = .ok (.invokevirtual 59, 3) := by decide +kernel
theorem d_Cache_share_5 : decode b_Cache_share 5 = .ok (.aload_n 0, 1) := by decide +kernel
theorem d_Cache_share_6 : decode b_Cache_share 6 = .ok (.getfield 9, 3) := by decide +kernel
theorem d_Cache_share_9 : decode b_Cache_share 9 = .ok (.iload_n 1, 1) := by decide +kernel
theorem d_Cache_share_10 : decode b_Cache_share 10 = .ok (.iconst 1, 1) := by decide +kernel
theorem d_Cache_share_11 : decode b_Cache_share 11 = .ok (.iastore, 1) := by decide +kernel
theorem d_Cache_share_12 : decode b_Cache_share 12 = .ok (.return_, 1) := by decide +kernel
theorem d_Cache_writeBackIfModified_0 : decode b_Cache_writeBackIfModified 0 = .ok (.aload_n 0, 1) := by decide +kernel
theorem d_Cache_writeBackIfModified_1 : decode b_Cache_writeBackIfModified 1 = .ok (.getfield 9, 3) := by decide +kernel
theorem d_Cache_writeBackIfModified_4 : decode b_Cache_writeBackIfModified 4 = .ok (.iload_n 1, 1) := by decide +kernel
theorem d_Cache_writeBackIfModified_5 : decode b_Cache_writeBackIfModified 5 = .ok (.iaload, 1) := by decide +kernel
theorem d_Cache_writeBackIfModified_6 : decode b_Cache_writeBackIfModified 6 = .ok (.iconst 3, 1) := by decide +kernel
theorem d_Cache_writeBackIfModified_7 : decode b_Cache_writeBackIfModified 7 = .ok (.if_icmp .ne 37, 3) := by decide +kernel
theorem d_Cache_writeBackIfModified_10 : decode b_Cache_writeBackIfModified 10 = .ok (.iload_n 1, 1) := by decide +kernel
theorem d_Cache_writeBackIfModified_11 : decode b_Cache_writeBackIfModified 11 = .ok (.iconst 4, 1) := by decide +kernel
theorem d_Cache_writeBackIfModified_12 : decode b_Cache_writeBackIfModified 12 = .ok (.imul, 1) := by decide +kernel
theorem d_Cache_writeBackIfModified_13 : decode b_Cache_writeBackIfModified 13 = .ok (.istore_n 2, 1) := by decide +kernel
theorem d_Cache_writeBackIfModified_14 : decode b_Cache_writeBackIfModified 14 = .ok (.aload_n 0, 1) := by decide +kernel
theorem d_Cache_writeBackIfModified_15 : decode b_Cache_writeBackIfModified 15 = .ok (.getfield 18, 3) := by decide +kernel
theorem d_Cache_writeBackIfModified_18 : decode b_Cache_writeBackIfModified 18 = .ok (.iload_n 2, 1) := by decide +kernel
theorem d_Cache_writeBackIfModified_19 : decode b_Cache_writeBackIfModified 19 = .ok (.aload_n 0, 1) := by decide +kernel
theorem d_Cache_writeBackIfModified_20 : decode b_Cache_writeBackIfModified 20 = .ok (.getfield 21, 3) := by decide +kernel
theorem d_Cache_writeBackIfModified_23 : decode b_Cache_writeBackIfModified 23 = .ok (.getfield 46, 3) := by decide +kernel
theorem d_Cache_writeBackIfModified_26 : decode b_Cache_writeBackIfModified 26 = .ok (.iload_n 2, 1) := by decide +kernel
theorem d_Cache_writeBackIfModified_27 : decode b_Cache_writeBackIfModified 27 = .ok (.iconst 4, 1) := by decide +kernel
theorem d_Cache_writeBackIfModified_28 : decode b_Cache_writeBackIfModified 28 = .ok (.invokestatic 49, 3) := by decide +kernel
theorem d_Cache_writeBackIfModified_31 : decode b_Cache_writeBackIfModified 31 = .ok (.aload_n 0, 1) := by decide +kernel
theorem d_Cache_writeBackIfModified_32 : decode b_Cache_writeBackIfModified 32 = .ok (.getfield 21, 3) := by decide +kernel
theorem d_Cache_writeBackIfModified_35 : decode b_Cache_writeBackIfModified 35 = .ok (.dup, 1) := by decide +kernel
theorem d_Cache_writeBackIfModified_36 : decode b_Cache_writeBackIfModified 36 = .ok (.getfield 62, 3) := by decide +kernel
theorem d_Cache_writeBackIfModified_39 : decode b_Cache_writeBackIfModified 39 = .ok (.iconst 1, 1) := by decide +kernel
theorem d_Cache_writeBackIfModified_40 : decode b_Cache_writeBackIfModified 40 = .ok (.iadd, 1) := by decide +kernel
theorem d_Cache_writeBackIfModified_41 : decode b_Cache_writeBackIfModified 41 = .ok (.putfield 62, 3) := by decide +kernel
theorem d_Cache_writeBackIfModified_44 : decode b_Cache_writeBackIfModified 44 = .ok (.return_, 1) := by decide +kernel
theorem d_Cache_fill_0 : decode b_Cache_fill 0 = .ok (.aload_n 0, 1) := by decide +kernel
theorem d_Cache_fill_1 : decode b_Cache_fill 1 = .ok (.iload_n 1, 1) := by decide +kernel
theorem d_Cache_fill_2 : decode b_Cache_fill 2 = .ok (.iconst 2, 1) := by decide +kernel
theorem d_Cache_fill_3 : decode b_Cache_fill 3 = .ok (.irem, 1) := by decide +kernel
theorem d_Cache_fill_4 : decode b_Cache_fill 4 = .ok (.invokevirtual 40, 3) := by decide +kernel
theorem d_Cache_fill_7 : decode b_Cache_fill 7 = .ok (.istore_n 3, 1) := by decide +kernel
theorem d_Cache_fill_8 : decode b_Cache_fill 8 = .ok (.iload_n 3, 1) := by decide +kernel
theorem d_Cache_fill_9 : decode b_Cache_fill 9 = .ok (.iconst (-1), 1) := by decide +kernel
theorem d_Cache_fill_10 : decode b_Cache_fill 10 = .ok (.if_icmp .eq 8, 3) := by decide +kernel
theorem d_Cache_fill_13 : decode b_Cache_fill 13 = .ok (.aload_n 0, 1) := by decide +kernel
theorem d_Cache_fill_14 : decode b_Cache_fill 14 = .ok (.iload_n 3, 1) := by decide +kernel
theorem d_Cache_fill_15 : decode b_Cache_fill 15 = .ok (.invokevirtual 43, 3) := by decide +kernel
theorem d_Cache_fill_18 : decode b_Cache_fill 18 = .ok (.iload_n 1, 1) := by decide +kernel
theorem d_Cache_fill_19 : decode b_Cache_fill 19 = .ok (.iconst 4, 1) := by decide +kernel
theorem d_Cache_fill_20 : decode b_Cache_fill 20 = .ok (.imul, 1) := by decide +kernel
theorem d_Cache_fill_21 : decode b_Cache_fill 21 = .ok (.istore 4, 2) := by decide +kernel
theorem d_Cache_fill_23 : decode b_Cache_fill 23 = .ok (.aload_n 0, 1) := by decide +kernel
theorem d_Cache_fill_24 : decode b_Cache_fill 24 = .ok (.getfield 21, 3) := by decide +kernel
theorem d_Cache_fill_27 : decode b_Cache_fill 27 = .ok (.getfield 46, 3) := by decide +kernel
theorem d_Cache_fill_30 : decode b_Cache_fill 30 = .ok (.iload 4, 2) := by decide +kernel
theorem d_Cache_fill_32 : decode b_Cache_fill 32 = .ok (.aload_n 0, 1) := by decide +kernel
theorem d_Cache_fill_33 : decode b_Cache_fill 33 = .ok (.getfield 18, 3) := by decide +kernel
theorem d_Cache_fill_36 : decode b_Cache_fill 36 = .ok (.iload 4, 2) := by decide +kernel
theorem d_Cache_fill_38 : decode b_Cache_fill 38 = .ok (.iconst 4, 1) := by decide +kernel
theorem d_Cache_fill_39 : decode b_Cache_fill 39 = .ok (.invokestatic 49, 3) := by decide +kernel
theorem d_Cache_fill_42 : decode b_Cache_fill 42 = .ok (.aload_n 0, 1) := by decide +kernel
theorem d_Cache_fill_43 : decode b_Cache_fill 43 = .ok (.getfield 9, 3) := by decide +kernel
theorem d_Cache_fill_46 : decode b_Cache_fill 46 = .ok (.iload_n 1, 1) := by decide +kernel
theorem d_Cache_fill_47 : decode b_Cache_fill 47 = .ok (.iload_n 2, 1) := by decide +kernel
theorem d_Cache_fill_48 : decode b_Cache_fill 48 = .ok (.iastore, 1) := by decide +kernel
theorem d_Cache_fill_49 : decode b_Cache_fill 49 = .ok (.aload_n 0, 1) := by decide +kernel
theorem d_Cache_fill_50 : decode b_Cache_fill 50 = .ok (.iload_n 1, 1) := by decide +kernel
theorem d_Cache_fill_51 : decode b_Cache_fill 51 = .ok (.invokevirtual 36, 3) := by decide +kernel
theorem d_Cache_fill_54 : decode b_Cache_fill 54 = .ok (.return_, 1) := by decide +kernel
theorem d_Cache_lineToLeave_0 : decode b_Cache_lineToLeave 0 = .ok (.iconst 0, 1) := by decide +kernel
theorem d_Cache_lineToLeave_1 : decode b_Cache_lineToLeave 1 = .ok (.istore_n 2, 1) := by decide +kernel
theorem d_Cache_lineToLeave_2 : decode b_Cache_lineToLeave 2 = .ok (.iconst (-1), 1) := by decide +kernel
theorem d_Cache_lineToLeave_3 : decode b_Cache_lineToLeave 3 = .ok (.istore_n 3, 1) := by decide +kernel
theorem d_Cache_lineToLeave_4 : decode b_Cache_lineToLeave 4 = .ok (.iload_n 1, 1) := by decide +kernel
theorem d_Cache_lineToLeave_5 : decode b_Cache_lineToLeave 5 = .ok (.istore 4, 2) := by decide +kernel
theorem d_Cache_lineToLeave_7 : decode b_Cache_lineToLeave 7 = .ok (.iload 4, 2) := by decide +kernel
theorem d_Cache_lineToLeave_9 : decode b_Cache_lineToLeave 9 = .ok (.bipush 8, 2) := by decide +kernel
theorem d_Cache_lineToLeave_11 : decode b_Cache_lineToLeave 11 = .ok (.if_icmp .ge 45, 3) := by decide +kernel
theorem d_Cache_lineToLeave_14 : decode b_Cache_lineToLeave 14 = .ok (.aload_n 0, 1) := by decide +kernel
theorem d_Cache_lineToLeave_15 : decode b_Cache_lineToLeave 15 = .ok (.iload 4, 2) := by decide +kernel
theorem d_Cache_lineToLeave_17 : decode b_Cache_lineToLeave 17 = .ok (.invokevirtual 55, 3) := by decide +kernel
theorem d_Cache_lineToLeave_20 : decode b_Cache_lineToLeave 20 = .ok (.ifCond .eq 30, 3) := by decide +kernel
theorem d_Cache_lineToLeave_23 : decode b_Cache_lineToLeave 23 = .ok (.iinc 2 1, 3) := by decide +kernel
theorem d_Cache_lineToLeave_26 : decode b_Cache_lineToLeave 26 = .ok (.iload_n 3, 1) := by decide +kernel
theorem d_Cache_lineToLeave_27 : decode b_Cache_lineToLeave 27 = .ok (.iconst (-1), 1) := by decide +kernel
theorem d_Cache_lineToLeave_28 : decode b_Cache_lineToLeave 28 = .ok (.if_icmp .eq 19, 3) := by decide +kernel
theorem d_Cache_lineToLeave_31 : decode b_Cache_lineToLeave 31 = .ok (.aload_n 0, 1) := by decide +kernel
theorem d_Cache_lineToLeave_32 : decode b_Cache_lineToLeave 32 = .ok (.getfield 15, 3) := by decide +kernel
theorem d_Cache_lineToLeave_35 : decode b_Cache_lineToLeave 35 = .ok (.iload 4, 2) := by decide +kernel
theorem d_Cache_lineToLeave_37 : decode b_Cache_lineToLeave 37 = .ok (.iaload, 1) := by decide +kernel
theorem d_Cache_lineToLeave_38 : decode b_Cache_lineToLeave 38 = .ok (.aload_n 0, 1) := by decide +kernel
theorem d_Cache_lineToLeave_39 : decode b_Cache_lineToLeave 39 = .ok (.getfield 15, 3) := by decide +kernel
theorem d_Cache_lineToLeave_42 : decode b_Cache_lineToLeave 42 = .ok (.iload_n 3, 1) := by decide +kernel
theorem d_Cache_lineToLeave_43 : decode b_Cache_lineToLeave 43 = .ok (.iaload, 1) := by decide +kernel
theorem d_Cache_lineToLeave_44 : decode b_Cache_lineToLeave 44 = .ok (.if_icmp .ge 6, 3) := by decide +kernel
theorem d_Cache_lineToLeave_47 : decode b_Cache_lineToLeave 47 = .ok (.iload 4, 2) := by decide +kernel
theorem d_Cache_lineToLeave_49 : decode b_Cache_lineToLeave 49 = .ok (.istore_n 3, 1) := by decide +kernel
theorem d_Cache_lineToLeave_50 : decode b_Cache_lineToLeave 50 = .ok (.iinc 4 2, 3) := by decide +kernel
theorem d_Cache_lineToLeave_53 : decode b_Cache_lineToLeave 53 = .ok (.goto (-46), 3) := by decide +kernel
theorem d_Cache_lineToLeave_56 : decode b_Cache_lineToLeave 56 = .ok (.iload_n 2, 1) := by decide +kernel
theorem d_Cache_lineToLeave_57 : decode b_Cache_lineToLeave 57 = .ok (.aload_n 0, 1) := by decide +kernel
theorem d_Cache_lineToLeave_58 : decode b_Cache_lineToLeave 58 = .ok (.getfield 25, 3) := by decide +kernel
theorem d_Cache_lineToLeave_61 : decode b_Cache_lineToLeave 61 = .ok (.if_icmp .ge 7, 3) := by decide +kernel
theorem d_Cache_lineToLeave_64 : decode b_Cache_lineToLeave 64 = .ok (.iconst (-1), 1) := by decide +kernel
theorem d_Cache_lineToLeave_65 : decode b_Cache_lineToLeave 65 = .ok (.goto 4, 3) := by decide +kernel
theorem d_Cache_lineToLeave_68 : decode b_Cache_lineToLeave 68 = .ok (.iload_n 3, 1) := by decide +kernel
theorem d_Cache_lineToLeave_69 : decode b_Cache_lineToLeave 69 = .ok (.ireturn, 1) := by decide +kernel
theorem d_Cache_drop_0 : decode b_Cache_drop 0 = .ok (.aload_n 0, 1) := by decide +kernel
theorem d_Cache_drop_1 : decode b_Cache_drop 1 = .ok (.iload_n 1, 1) := by decide +kernel
theorem d_Cache_drop_2 : decode b_Cache_drop 2 = .ok (.invokevirtual 59, 3) := by decide +kernel
theorem d_Cache_drop_5 : decode b_Cache_drop 5 = .ok (.aload_n 0, 1) := by decide +kernel
theorem d_Cache_drop_6 : decode b_Cache_drop 6 = .ok (.getfield 9, 3) := by decide +kernel
theorem d_Cache_drop_9 : decode b_Cache_drop 9 = .ok (.iload_n 1, 1) := by decide +kernel
theorem d_Cache_drop_10 : decode b_Cache_drop 10 = .ok (.iconst 0, 1) := by decide +kernel
theorem d_Cache_drop_11 : decode b_Cache_drop 11 = .ok (.iastore, 1) := by decide +kernel
theorem d_Cache_drop_12 : decode b_Cache_drop 12 = .ok (.return_, 1) := by decide +kernel
theorem d_Bus_takeLine_0 : decode b_Bus_takeLine 0 = .ok (.aload_n 0, 1) := by decide +kernel
theorem d_Bus_takeLine_1 : decode b_Bus_takeLine 1 = .ok (.iload_n 1, 1) := by decide +kernel
theorem d_Bus_takeLine_2 : decode b_Bus_takeLine 2 = .ok (.iload_n 2, 1) := by decide +kernel
theorem d_Bus_takeLine_3 : decode b_Bus_takeLine 3 = .ok (.invokevirtual 160, 3) := by decide +kernel
theorem d_Bus_takeLine_6 : decode b_Bus_takeLine 6 = .ok (.aload_n 0, 1) := by decide +kernel
theorem d_Bus_takeLine_7 : decode b_Bus_takeLine 7 = .ok (.getfield 27, 3) := by decide +kernel
theorem d_Bus_takeLine_10 : decode b_Bus_takeLine 10 = .ok (.iload_n 1, 1) := by decide +kernel
theorem d_Bus_takeLine_11 : decode b_Bus_takeLine 11 = .ok (.aaload, 1) := by decide +kernel
theorem d_Bus_takeLine_12 : decode b_Bus_takeLine 12 = .ok (.getfield 65, 3) := by decide +kernel
theorem d_Bus_takeLine_15 : decode b_Bus_takeLine 15 = .ok (.astore_n 3, 1) := by decide +kernel
theorem d_Bus_takeLine_16 : decode b_Bus_takeLine 16 = .ok (.aload_n 3, 1) := by decide +kernel
theorem d_Bus_takeLine_17 : decode b_Bus_takeLine 17 = .ok (.iload_n 2, 1) := by decide +kernel
theorem d_Bus_takeLine_18 : decode b_Bus_takeLine 18 = .ok (.invokevirtual 72, 3) := by decide +kernel
theorem d_Bus_takeLine_21 : decode b_Bus_takeLine 21 = .ok (.ifCond .eq 28, 3) := by decide +kernel
theorem d_Bus_takeLine_24 : decode b_Bus_takeLine 24 = .ok (.aload_n 3, 1) := by decide +kernel
theorem d_Bus_takeLine_25 : decode b_Bus_takeLine 25 = .ok (.getfield 110, 3) := by decide +kernel
theorem d_Bus_takeLine_28 : decode b_Bus_takeLine 28 = .ok (.iload_n 2, 1) := by decide +kernel
theorem d_Bus_takeLine_29 : decode b_Bus_takeLine 29 = .ok (.iconst 3, 1) := by decide +kernel
theorem d_Bus_takeLine_30 : decode b_Bus_takeLine 30 = .ok (.iastore, 1) := by decide +kernel
theorem d_Bus_takeLine_31 : decode b_Bus_takeLine 31 = .ok (.aload_n 3, 1) := by decide +kernel
theorem d_Bus_takeLine_32 : decode b_Bus_takeLine 32 = .ok (.iload_n 2, 1) := by decide +kernel
theorem d_Bus_takeLine_33 : decode b_Bus_takeLine 33 = .ok (.invokevirtual 78, 3) := by decide +kernel
theorem d_Bus_takeLine_36 : decode b_Bus_takeLine 36 = .ok (.aload_n 0, 1) := by decide +kernel
theorem d_Bus_takeLine_37 : decode b_Bus_takeLine 37 = .ok (.dup, 1) := by decide +kernel
theorem d_Bus_takeLine_38 : decode b_Bus_takeLine 38 = .ok (.getfield 132, 3) := by decide +kernel
theorem d_Bus_takeLine_41 : decode b_Bus_takeLine 41 = .ok (.iconst 1, 1) := by decide +kernel
theorem d_Bus_takeLine_42 : decode b_Bus_takeLine 42 = .ok (.iadd, 1) := by decide +kernel
theorem d_Bus_takeLine_43 : decode b_Bus_takeLine 43 = .ok (.putfield 132, 3) := by decide +kernel
theorem d_Bus_takeLine_46 : decode b_Bus_takeLine 46 = .ok (.goto 9, 3) := by decide +kernel
theorem d_Bus_takeLine_49 : decode b_Bus_takeLine 49 = .ok (.aload_n 3, 1) := by decide +kernel
theorem d_Bus_takeLine_50 : decode b_Bus_takeLine 50 = .ok (.iload_n 2, 1) := by decide +kernel
theorem d_Bus_takeLine_51 : decode b_Bus_takeLine 51 = .ok (.iconst 3, 1) := by decide +kernel
theorem d_Bus_takeLine_52 : decode b_Bus_takeLine 52 = .ok (.invokevirtual 154, 3) := by decide +kernel
theorem d_Bus_takeLine_55 : decode b_Bus_takeLine 55 = .ok (.return_, 1) := by decide +kernel
theorem d_Bus_invalidateElsewhere_0 : decode b_Bus_invalidateElsewhere 0 = .ok (.iconst 0, 1) := by decide +kernel
theorem d_Bus_invalidateElsewhere_1 : decode b_Bus_invalidateElsewhere 1 = .ok (.istore_n 3, 1) := by decide +kernel
theorem d_Bus_invalidateElsewhere_2 : decode b_Bus_invalidateElsewhere 2 = .ok (.iload_n 3, 1) := by decide +kernel
theorem d_Bus_invalidateElsewhere_3 : decode b_Bus_invalidateElsewhere 3 = .ok (.aload_n 0, 1) := by decide +kernel
theorem d_Bus_invalidateElsewhere_4 : decode b_Bus_invalidateElsewhere 4 = .ok (.getfield 27, 3) := by decide +kernel
theorem d_Bus_invalidateElsewhere_7 : decode b_Bus_invalidateElsewhere 7 = .ok (.arraylength, 1) := by decide +kernel
theorem d_Bus_invalidateElsewhere_8 : decode b_Bus_invalidateElsewhere 8 = .ok (.if_icmp .ge 53, 3) := by decide +kernel
theorem d_Bus_invalidateElsewhere_11 : decode b_Bus_invalidateElsewhere 11 = .ok (.iload_n 3, 1) := by decide +kernel
theorem d_Bus_invalidateElsewhere_12 : decode b_Bus_invalidateElsewhere 12 = .ok (.iload_n 1, 1) := by decide +kernel
theorem d_Bus_invalidateElsewhere_13 : decode b_Bus_invalidateElsewhere 13 = .ok (.if_icmp .eq 42, 3) := by decide +kernel
theorem d_Bus_invalidateElsewhere_16 : decode b_Bus_invalidateElsewhere 16 = .ok (.aload_n 0, 1) := by decide +kernel
theorem d_Bus_invalidateElsewhere_17 : decode b_Bus_invalidateElsewhere 17 = .ok (.getfield 27, 3) := by decide +kernel
theorem d_Bus_invalidateElsewhere_20 : decode b_Bus_invalidateElsewhere 20 = .ok (.iload_n 3, 1) := by decide +kernel
theorem d_Bus_invalidateElsewhere_21 : decode b_Bus_invalidateElsewhere 21 = .ok (.aaload, 1) := by decide +kernel
theorem d_Bus_invalidateElsewhere_22 : decode b_Bus_invalidateElsewhere 22 = .ok (.getfield 65, 3) := by decide +kernel
theorem d_Bus_invalidateElsewhere_25 : decode b_Bus_invalidateElsewhere 25 = .ok (.iload_n 2, 1) := by decide +kernel
theorem d_Bus_invalidateElsewhere_26 : decode b_Bus_invalidateElsewhere 26 = .ok (.invokevirtual 72, 3) := by decide +kernel
theorem d_Bus_invalidateElsewhere_29 : decode b_Bus_invalidateElsewhere 29 = .ok (.ifCond .eq 26, 3) := by decide +kernel
theorem d_Bus_invalidateElsewhere_32 : decode b_Bus_invalidateElsewhere 32 = .ok (.aload_n 0, 1) := by decide +kernel
theorem d_Bus_invalidateElsewhere_33 : decode b_Bus_invalidateElsewhere 33 = .ok (.getfield 27, 3) := by decide +kernel
theorem d_Bus_invalidateElsewhere_36 : decode b_Bus_invalidateElsewhere 36 = .ok (.iload_n 3, 1) := by decide +kernel
theorem d_Bus_invalidateElsewhere_37 : decode b_Bus_invalidateElsewhere 37 = .ok (.aaload, 1) := by decide +kernel
theorem d_Bus_invalidateElsewhere_38 : decode b_Bus_invalidateElsewhere 38 = .ok (.getfield 65, 3) := by decide +kernel
theorem d_Bus_invalidateElsewhere_41 : decode b_Bus_invalidateElsewhere 41 = .ok (.iload_n 2, 1) := by decide +kernel
theorem d_Bus_invalidateElsewhere_42 : decode b_Bus_invalidateElsewhere 42 = .ok (.invokevirtual 113, 3) := by decide +kernel
theorem d_Bus_invalidateElsewhere_45 : decode b_Bus_invalidateElsewhere 45 = .ok (.aload_n 0, 1) := by decide +kernel
theorem d_Bus_invalidateElsewhere_46 : decode b_Bus_invalidateElsewhere 46 = .ok (.dup, 1) := by decide +kernel
theorem d_Bus_invalidateElsewhere_47 : decode b_Bus_invalidateElsewhere 47 = .ok (.getfield 129, 3) := by decide +kernel
theorem d_Bus_invalidateElsewhere_50 : decode b_Bus_invalidateElsewhere 50 = .ok (.iconst 1, 1) := by decide +kernel
theorem d_Bus_invalidateElsewhere_51 : decode b_Bus_invalidateElsewhere 51 = .ok (.iadd, 1) := by decide +kernel
theorem d_Bus_invalidateElsewhere_52 : decode b_Bus_invalidateElsewhere 52 = .ok (.putfield 129, 3) := by decide +kernel
theorem d_Bus_invalidateElsewhere_55 : decode b_Bus_invalidateElsewhere 55 = .ok (.iinc 3 1, 3) := by decide +kernel
theorem d_Bus_invalidateElsewhere_58 : decode b_Bus_invalidateElsewhere 58 = .ok (.goto (-56), 3) := by decide +kernel
theorem d_Bus_invalidateElsewhere_61 : decode b_Bus_invalidateElsewhere 61 = .ok (.return_, 1) := by decide +kernel
theorem d_Bus_evict_0 : decode b_Bus_evict 0 = .ok (.aload_n 0, 1) := by decide +kernel
theorem d_Bus_evict_1 : decode b_Bus_evict 1 = .ok (.iload_n 1, 1) := by decide +kernel
theorem d_Bus_evict_2 : decode b_Bus_evict 2 = .ok (.invokevirtual 43, 3) := by decide +kernel
theorem d_Bus_evict_5 : decode b_Bus_evict 5 = .ok (.ifCond .eq 10, 3) := by decide +kernel
theorem d_Bus_evict_8 : decode b_Bus_evict 8 = .ok (.iload_n 2, 1) := by decide +kernel
theorem d_Bus_evict_9 : decode b_Bus_evict 9 = .ok (.invokestatic 107, 3) := by decide +kernel
theorem d_Bus_evict_12 : decode b_Bus_evict 12 = .ok (.ifCond .ne 5, 3) := by decide +kernel
theorem d_Bus_evict_15 : decode b_Bus_evict 15 = .ok (.iconst (-1), 1) := by decide +kernel
theorem d_Bus_evict_16 : decode b_Bus_evict 16 = .ok (.ireturn, 1) := by decide +kernel
theorem d_Bus_evict_17 : decode b_Bus_evict 17 = .ok (.aload_n 0, 1) := by decide +kernel
theorem d_Bus_evict_18 : decode b_Bus_evict 18 = .ok (.getfield 27, 3) := by decide +kernel
theorem d_Bus_evict_21 : decode b_Bus_evict 21 = .ok (.iload_n 1, 1) := by decide +kernel
theorem d_Bus_evict_22 : decode b_Bus_evict 22 = .ok (.aaload, 1) := by decide +kernel
theorem d_Bus_evict_23 : decode b_Bus_evict 23 = .ok (.invokevirtual 50, 3) := by decide +kernel
theorem d_Bus_evict_26 : decode b_Bus_evict 26 = .ok (.ifCond .eq 6, 3) := by decide +kernel
theorem d_Bus_evict_29 : decode b_Bus_evict 29 = .ok (.bipush (-2), 2) := by decide +kernel
theorem d_Bus_evict_31 : decode b_Bus_evict 31 = .ok (.ireturn, 1) := by decide +kernel
theorem d_Bus_evict_32 : decode b_Bus_evict 32 = .ok (.aload_n 0, 1) := by decide +kernel
theorem d_Bus_evict_33 : decode b_Bus_evict 33 = .ok (.getfield 27, 3) := by decide +kernel
theorem d_Bus_evict_36 : decode b_Bus_evict 36 = .ok (.iload_n 1, 1) := by decide +kernel
theorem d_Bus_evict_37 : decode b_Bus_evict 37 = .ok (.aaload, 1) := by decide +kernel
theorem d_Bus_evict_38 : decode b_Bus_evict 38 = .ok (.getfield 65, 3) := by decide +kernel
theorem d_Bus_evict_41 : decode b_Bus_evict 41 = .ok (.astore_n 3, 1) := by decide +kernel
theorem d_Bus_evict_42 : decode b_Bus_evict 42 = .ok (.aload_n 3, 1) := by decide +kernel
theorem d_Bus_evict_43 : decode b_Bus_evict 43 = .ok (.getfield 110, 3) := by decide +kernel
theorem d_Bus_evict_46 : decode b_Bus_evict 46 = .ok (.iload_n 2, 1) := by decide +kernel
theorem d_Bus_evict_47 : decode b_Bus_evict 47 = .ok (.iaload, 1) := by decide +kernel
theorem d_Bus_evict_48 : decode b_Bus_evict 48 = .ok (.istore 4, 2) := by decide +kernel
theorem d_Bus_evict_50 : decode b_Bus_evict 50 = .ok (.aload_n 3, 1) := by decide +kernel
theorem d_Bus_evict_51 : decode b_Bus_evict 51 = .ok (.iload_n 2, 1) := by decide +kernel
theorem d_Bus_evict_52 : decode b_Bus_evict 52 = .ok (.invokevirtual 113, 3) := by decide +kernel
theorem d_Bus_evict_55 : decode b_Bus_evict 55 = .ok (.iload 4, 2) := by decide +kernel
theorem d_Bus_evict_57 : decode b_Bus_evict 57 = .ok (.ireturn, 1) := by decide +kernel
theorem d_Bus_isLine_0 : decode b_Bus_isLine 0 = .ok (.iload_n 0, 1) := by decide +kernel
theorem d_Bus_isLine_1 : decode b_Bus_isLine 1 = .ok (.ifCond .lt 13, 3) := by decide +kernel
theorem d_Bus_isLine_4 : decode b_Bus_isLine 4 = .ok (.iload_n 0, 1) := by decide +kernel
theorem d_Bus_isLine_5 : decode b_Bus_isLine 5 = .ok (.bipush 8, 2) := by decide +kernel
theorem d_Bus_isLine_7 : decode b_Bus_isLine 7 = .ok (.if_icmp .ge 7, 3) := by decide +kernel
theorem d_Bus_isLine_10 : decode b_Bus_isLine 10 = .ok (.iconst 1, 1) := by decide +kernel
theorem d_Bus_isLine_11 : decode b_Bus_isLine 11 = .ok (.goto 4, 3) := by decide +kernel
theorem d_Bus_isLine_14 : decode b_Bus_isLine 14 = .ok (.iconst 0, 1) := by decide +kernel
theorem d_Bus_isLine_15 : decode b_Bus_isLine 15 = .ok (.ireturn, 1) := by decide +kernel
theorem d_Bus_last_0 : decode b_Bus_last 0 = .ok (.aload_n 0, 1) := by decide +kernel
theorem d_Bus_last_1 : decode b_Bus_last 1 = .ok (.iload_n 1, 1) := by decide +kernel
theorem d_Bus_last_2 : decode b_Bus_last 2 = .ok (.invokevirtual 43, 3) := by decide +kernel
theorem d_Bus_last_5 : decode b_Bus_last 5 = .ok (.ifCond .eq 15, 3) := by decide +kernel
theorem d_Bus_last_8 : decode b_Bus_last 8 = .ok (.aload_n 0, 1) := by decide +kernel
theorem d_Bus_last_9 : decode b_Bus_last 9 = .ok (.getfield 27, 3) := by decide +kernel
theorem d_Bus_last_12 : decode b_Bus_last 12 = .ok (.iload_n 1, 1) := by decide +kernel
theorem d_Bus_last_13 : decode b_Bus_last 13 = .ok (.aaload, 1) := by decide +kernel
theorem d_Bus_last_14 : decode b_Bus_last 14 = .ok (.getfield 62, 3) := by decide +kernel
theorem d_Bus_last_17 : decode b_Bus_last 17 = .ok (.goto 4, 3) := by decide +kernel
theorem d_Bus_last_20 : decode b_Bus_last 20 = .ok (.iconst 0, 1) := by decide +kernel
theorem d_Bus_last_21 : decode b_Bus_last 21 = .ok (.ireturn, 1) := by decide +kernel
theorem d_Bus_request_0 : decode b_Bus_request 0 = .ok (.aload_n 0, 1) := by decide +kernel
theorem d_Bus_request_1 : decode b_Bus_request 1 = .ok (.iload_n 1, 1) := by decide +kernel
theorem d_Bus_request_2 : decode b_Bus_request 2 = .ok (.invokevirtual 43, 3) := by decide +kernel
theorem d_Bus_request_5 : decode b_Bus_request 5 = .ok (.ifCond .ne 5, 3) := by decide +kernel
theorem d_Bus_request_8 : decode b_Bus_request 8 = .ok (.iconst (-1), 1) := by decide +kernel
theorem d_Bus_request_9 : decode b_Bus_request 9 = .ok (.ireturn, 1) := by decide +kernel
theorem d_Bus_request_10 : decode b_Bus_request 10 = .ok (.aload_n 0, 1) := by decide +kernel
theorem d_Bus_request_11 : decode b_Bus_request 11 = .ok (.getfield 27, 3) := by decide +kernel
theorem d_Bus_request_14 : decode b_Bus_request 14 = .ok (.iload_n 1, 1) := by decide +kernel
theorem d_Bus_request_15 : decode b_Bus_request 15 = .ok (.aaload, 1) := by decide +kernel
theorem d_Bus_request_16 : decode b_Bus_request 16 = .ok (.astore_n 2, 1) := by decide +kernel
theorem d_Bus_request_17 : decode b_Bus_request 17 = .ok (.aload_n 2, 1) := by decide +kernel
theorem d_Bus_request_18 : decode b_Bus_request 18 = .ok (.invokevirtual 50, 3) := by decide +kernel
theorem d_Bus_request_21 : decode b_Bus_request 21 = .ok (.ifCond .eq 18, 3) := by decide +kernel
theorem d_Bus_request_24 : decode b_Bus_request 24 = .ok (.aload_n 2, 1) := by decide +kernel
theorem d_Bus_request_25 : decode b_Bus_request 25 = .ok (.getfield 116, 3) := by decide +kernel
theorem d_Bus_request_28 : decode b_Bus_request 28 = .ok (.bipush 8, 2) := by decide +kernel
theorem d_Bus_request_30 : decode b_Bus_request 30 = .ok (.aload_n 2, 1) := by decide +kernel
theorem d_Bus_request_31 : decode b_Bus_request 31 = .ok (.getfield 119, 3) := by decide +kernel
theorem d_Bus_request_34 : decode b_Bus_request 34 = .ok (.imul, 1) := by decide +kernel
theorem d_Bus_request_35 : decode b_Bus_request 35 = .ok (.iadd, 1) := by decide +kernel
theorem d_Bus_request_36 : decode b_Bus_request 36 = .ok (.goto 4, 3) := by decide +kernel
theorem d_Bus_request_39 : decode b_Bus_request 39 = .ok (.iconst 0, 1) := by decide +kernel
theorem d_Bus_request_40 : decode b_Bus_request 40 = .ok (.ireturn, 1) := by decide +kernel
theorem d_Bus_buffered_0 : decode b_Bus_buffered 0 = .ok (.aload_n 0, 1) := by decide +kernel
theorem d_Bus_buffered_1 : decode b_Bus_buffered 1 = .ok (.iload_n 1, 1) := by decide +kernel
theorem d_Bus_buffered_2 : decode b_Bus_buffered 2 = .ok (.invokevirtual 43, 3) := by decide +kernel
theorem d_Bus_buffered_5 : decode b_Bus_buffered 5 = .ok (.ifCond .eq 15, 3) := by decide +kernel
theorem d_Bus_buffered_8 : decode b_Bus_buffered 8 = .ok (.aload_n 0, 1) := by decide +kernel
theorem d_Bus_buffered_9 : decode b_Bus_buffered 9 = .ok (.getfield 27, 3) := by decide +kernel
theorem d_Bus_buffered_12 : decode b_Bus_buffered 12 = .ok (.iload_n 1, 1) := by decide +kernel
theorem d_Bus_buffered_13 : decode b_Bus_buffered 13 = .ok (.aaload, 1) := by decide +kernel
theorem d_Bus_buffered_14 : decode b_Bus_buffered 14 = .ok (.getfield 86, 3) := by decide +kernel
theorem d_Bus_buffered_17 : decode b_Bus_buffered 17 = .ok (.goto 4, 3) := by decide +kernel
theorem d_Bus_buffered_20 : decode b_Bus_buffered 20 = .ok (.iconst (-1), 1) := by decide +kernel
theorem d_Bus_buffered_21 : decode b_Bus_buffered 21 = .ok (.ireturn, 1) := by decide +kernel
theorem d_Bus_state_0 : decode b_Bus_state 0 = .ok (.aload_n 0, 1) := by decide +kernel
theorem d_Bus_state_1 : decode b_Bus_state 1 = .ok (.iload_n 1, 1) := by decide +kernel
theorem d_Bus_state_2 : decode b_Bus_state 2 = .ok (.invokevirtual 43, 3) := by decide +kernel
theorem d_Bus_state_5 : decode b_Bus_state 5 = .ok (.ifCond .eq 27, 3) := by decide +kernel
theorem d_Bus_state_8 : decode b_Bus_state 8 = .ok (.iload_n 2, 1) := by decide +kernel
theorem d_Bus_state_9 : decode b_Bus_state 9 = .ok (.invokestatic 107, 3) := by decide +kernel
theorem d_Bus_state_12 : decode b_Bus_state 12 = .ok (.ifCond .eq 20, 3) := by decide +kernel
theorem d_Bus_state_15 : decode b_Bus_state 15 = .ok (.aload_n 0, 1) := by decide +kernel
theorem d_Bus_state_16 : decode b_Bus_state 16 = .ok (.getfield 27, 3) := by decide +kernel
theorem d_Bus_state_19 : decode b_Bus_state 19 = .ok (.iload_n 1, 1) := by decide +kernel
theorem d_Bus_state_20 : decode b_Bus_state 20 = .ok (.aaload, 1) := by decide +kernel
theorem d_Bus_state_21 : decode b_Bus_state 21 = .ok (.getfield 65, 3) := by decide +kernel
theorem d_Bus_state_24 : decode b_Bus_state 24 = .ok (.getfield 110, 3) := by decide +kernel
theorem d_Bus_state_27 : decode b_Bus_state 27 = .ok (.iload_n 2, 1) := by decide +kernel
theorem d_Bus_state_28 : decode b_Bus_state 28 = .ok (.iaload, 1) := by decide +kernel
theorem d_Bus_state_29 : decode b_Bus_state 29 = .ok (.goto 4, 3) := by decide +kernel
theorem d_Bus_state_32 : decode b_Bus_state 32 = .ok (.iconst (-1), 1) := by decide +kernel
theorem d_Bus_state_33 : decode b_Bus_state 33 = .ok (.ireturn, 1) := by decide +kernel
theorem d_Bus_copy_0 : decode b_Bus_copy 0 = .ok (.aload_n 0, 1) := by decide +kernel
theorem d_Bus_copy_1 : decode b_Bus_copy 1 = .ok (.iload_n 1, 1) := by decide +kernel
theorem d_Bus_copy_2 : decode b_Bus_copy 2 = .ok (.invokevirtual 43, 3) := by decide +kernel
theorem d_Bus_copy_5 : decode b_Bus_copy 5 = .ok (.ifCond .eq 10, 3) := by decide +kernel
theorem d_Bus_copy_8 : decode b_Bus_copy 8 = .ok (.iload_n 2, 1) := by decide +kernel
theorem d_Bus_copy_9 : decode b_Bus_copy 9 = .ok (.invokestatic 47, 3) := by decide +kernel
theorem d_Bus_copy_12 : decode b_Bus_copy 12 = .ok (.ifCond .ne 5, 3) := by decide +kernel
theorem d_Bus_copy_15 : decode b_Bus_copy 15 = .ok (.iconst 0, 1) := by decide +kernel
theorem d_Bus_copy_16 : decode b_Bus_copy 16 = .ok (.ireturn, 1) := by decide +kernel
theorem d_Bus_copy_17 : decode b_Bus_copy 17 = .ok (.aload_n 0, 1) := by decide +kernel
theorem d_Bus_copy_18 : decode b_Bus_copy 18 = .ok (.getfield 27, 3) := by decide +kernel
theorem d_Bus_copy_21 : decode b_Bus_copy 21 = .ok (.iload_n 1, 1) := by decide +kernel
theorem d_Bus_copy_22 : decode b_Bus_copy 22 = .ok (.aaload, 1) := by decide +kernel
theorem d_Bus_copy_23 : decode b_Bus_copy 23 = .ok (.getfield 65, 3) := by decide +kernel
theorem d_Bus_copy_26 : decode b_Bus_copy 26 = .ok (.astore_n 3, 1) := by decide +kernel
theorem d_Bus_copy_27 : decode b_Bus_copy 27 = .ok (.aload_n 3, 1) := by decide +kernel
theorem d_Bus_copy_28 : decode b_Bus_copy 28 = .ok (.iload_n 2, 1) := by decide +kernel
theorem d_Bus_copy_29 : decode b_Bus_copy 29 = .ok (.invokestatic 69, 3) := by decide +kernel
theorem d_Bus_copy_32 : decode b_Bus_copy 32 = .ok (.invokevirtual 72, 3) := by decide +kernel
theorem d_Bus_copy_35 : decode b_Bus_copy 35 = .ok (.ifCond .eq 12, 3) := by decide +kernel
theorem d_Bus_copy_38 : decode b_Bus_copy 38 = .ok (.aload_n 3, 1) := by decide +kernel
theorem d_Bus_copy_39 : decode b_Bus_copy 39 = .ok (.getfield 75, 3) := by decide +kernel
theorem d_Bus_copy_42 : decode b_Bus_copy 42 = .ok (.iload_n 2, 1) := by decide +kernel
theorem d_Bus_copy_43 : decode b_Bus_copy 43 = .ok (.iaload, 1) := by decide +kernel
theorem d_Bus_copy_44 : decode b_Bus_copy 44 = .ok (.goto 4, 3) := by decide +kernel
theorem d_Bus_copy_47 : decode b_Bus_copy 47 = .ok (.iconst 0, 1) := by decide +kernel
theorem d_Bus_copy_48 : decode b_Bus_copy 48 = .ok (.ireturn, 1) := by decide +kernel
theorem d_Bus_memory_0 : decode b_Bus_memory 0 = .ok (.iload_n 1, 1) := by decide +kernel
theorem d_Bus_memory_1 : decode b_Bus_memory 1 = .ok (.invokestatic 47, 3) := by decide +kernel
theorem d_Bus_memory_4 : decode b_Bus_memory 4 = .ok (.ifCond .eq 15, 3) := by decide +kernel
theorem d_Bus_memory_7 : decode b_Bus_memory 7 = .ok (.aload_n 0, 1) := by decide +kernel
theorem d_Bus_memory_8 : decode b_Bus_memory 8 = .ok (.getfield 10, 3) := by decide +kernel
theorem d_Bus_memory_11 : decode b_Bus_memory 11 = .ok (.getfield 122, 3) := by decide +kernel
theorem d_Bus_memory_14 : decode b_Bus_memory 14 = .ok (.iload_n 1, 1) := by decide +kernel
theorem d_Bus_memory_15 : decode b_Bus_memory 15 = .ok (.iaload, 1) := by decide +kernel
theorem d_Bus_memory_16 : decode b_Bus_memory 16 = .ok (.goto 4, 3) := by decide +kernel
theorem d_Bus_memory_19 : decode b_Bus_memory 19 = .ok (.iconst 0, 1) := by decide +kernel
theorem d_Bus_memory_20 : decode b_Bus_memory 20 = .ok (.ireturn, 1) := by decide +kernel
theorem d_Bus_seen_0 : decode b_Bus_seen 0 = .ok (.iload_n 1, 1) := by decide +kernel
theorem d_Bus_seen_1 : decode b_Bus_seen 1 = .ok (.invokestatic 47, 3) := by decide +kernel
theorem d_Bus_seen_4 : decode b_Bus_seen 4 = .ok (.ifCond .ne 5, 3) := by decide +kernel
theorem d_Bus_seen_7 : decode b_Bus_seen 7 = .ok (.iconst 0, 1) := by decide +kernel
theorem d_Bus_seen_8 : decode b_Bus_seen 8 = .ok (.ireturn, 1) := by decide +kernel
theorem d_Bus_seen_9 : decode b_Bus_seen 9 = .ok (.iload_n 1, 1) := by decide +kernel
theorem d_Bus_seen_10 : decode b_Bus_seen 10 = .ok (.invokestatic 69, 3) := by decide +kernel
theorem d_Bus_seen_13 : decode b_Bus_seen 13 = .ok (.istore_n 2, 1) := by decide +kernel
theorem d_Bus_seen_14 : decode b_Bus_seen 14 = .ok (.iconst 0, 1) := by decide +kernel
theorem d_Bus_seen_15 : decode b_Bus_seen 15 = .ok (.istore_n 3, 1) := by decide +kernel
theorem d_Bus_seen_16 : decode b_Bus_seen 16 = .ok (.iload_n 3, 1) := by decide +kernel
theorem d_Bus_seen_17 : decode b_Bus_seen 17 = .ok (.aload_n 0, 1) := by decide +kernel
theorem d_Bus_seen_18 : decode b_Bus_seen 18 = .ok (.getfield 27, 3) := by decide +kernel
theorem d_Bus_seen_21 : decode b_Bus_seen 21 = .ok (.arraylength, 1) := by decide +kernel
theorem d_Bus_seen_22 : decode b_Bus_seen 22 = .ok (.if_icmp .ge 42, 3) := by decide +kernel
theorem d_Bus_seen_25 : decode b_Bus_seen 25 = .ok (.aload_n 0, 1) := by decide +kernel
theorem d_Bus_seen_26 : decode b_Bus_seen 26 = .ok (.getfield 27, 3) := by decide +kernel
theorem d_Bus_seen_29 : decode b_Bus_seen 29 = .ok (.iload_n 3, 1) := by decide +kernel
theorem d_Bus_seen_30 : decode b_Bus_seen 30 = .ok (.aaload, 1) := by decide +kernel
theorem d_Bus_seen_31 : decode b_Bus_seen 31 = .ok (.getfield 65, 3) := by decide +kernel
theorem d_Bus_seen_34 : decode b_Bus_seen 34 = .ok (.getfield 110, 3) := by decide +kernel
theorem d_Bus_seen_37 : decode b_Bus_seen 37 = .ok (.iload_n 2, 1) := by decide +kernel
theorem d_Bus_seen_38 : decode b_Bus_seen 38 = .ok (.iaload, 1) := by decide +kernel
theorem d_Bus_seen_39 : decode b_Bus_seen 39 = .ok (.iconst 3, 1) := by decide +kernel
theorem d_Bus_seen_40 : decode b_Bus_seen 40 = .ok (.if_icmp .ne 18, 3) := by decide +kernel
theorem d_Bus_seen_43 : decode b_Bus_seen 43 = .ok (.aload_n 0, 1) := by decide +kernel
theorem d_Bus_seen_44 : decode b_Bus_seen 44 = .ok (.getfield 27, 3) := by decide +kernel
theorem d_Bus_seen_47 : decode b_Bus_seen 47 = .ok (.iload_n 3, 1) := by decide +kernel
theorem d_Bus_seen_48 : decode b_Bus_seen 48 = .ok (.aaload, 1) := by decide +kernel
theorem d_Bus_seen_49 : decode b_Bus_seen 49 = .ok (.getfield 65, 3) := by decide +kernel
theorem d_Bus_seen_52 : decode b_Bus_seen 52 = .ok (.getfield 75, 3) := by decide +kernel
theorem d_Bus_seen_55 : decode b_Bus_seen 55 = .ok (.iload_n 1, 1) := by decide +kernel
theorem d_Bus_seen_56 : decode b_Bus_seen 56 = .ok (.iaload, 1) := by decide +kernel
theorem d_Bus_seen_57 : decode b_Bus_seen 57 = .ok (.ireturn, 1) := by decide +kernel
theorem d_Bus_seen_58 : decode b_Bus_seen 58 = .ok (.iinc 3 1, 3) := by decide +kernel
theorem d_Bus_seen_61 : decode b_Bus_seen 61 = .ok (.goto (-45), 3) := by decide +kernel
theorem d_Bus_seen_64 : decode b_Bus_seen 64 = .ok (.aload_n 0, 1) := by decide +kernel
theorem d_Bus_seen_65 : decode b_Bus_seen 65 = .ok (.getfield 10, 3) := by decide +kernel
theorem d_Bus_seen_68 : decode b_Bus_seen 68 = .ok (.getfield 122, 3) := by decide +kernel
theorem d_Bus_seen_71 : decode b_Bus_seen 71 = .ok (.iload_n 1, 1) := by decide +kernel
theorem d_Bus_seen_72 : decode b_Bus_seen 72 = .ok (.iaload, 1) := by decide +kernel
theorem d_Bus_seen_73 : decode b_Bus_seen 73 = .ok (.ireturn, 1) := by decide +kernel
theorem d_Bus_count_0 : decode b_Bus_count 0 = .ok (.iload_n 1, 1) := by decide +kernel
theorem d_Bus_count_1 : decode b_Bus_count 1 = .ok (.tableswitch 54 0 3 #[31, 36, 44, 49], 31) := by decide +kernel
theorem d_Bus_count_32 : decode b_Bus_count 32 = .ok (.aload_n 0, 1) := by decide +kernel
theorem d_Bus_count_33 : decode b_Bus_count 33 = .ok (.getfield 123, 3) := by decide +kernel
theorem d_Bus_count_36 : decode b_Bus_count 36 = .ok (.ireturn, 1) := by decide +kernel
theorem d_Bus_count_37 : decode b_Bus_count 37 = .ok (.aload_n 0, 1) := by decide +kernel
theorem d_Bus_count_38 : decode b_Bus_count 38 = .ok (.getfield 10, 3) := by decide +kernel
theorem d_Bus_count_41 : decode b_Bus_count 41 = .ok (.getfield 126, 3) := by decide +kernel
theorem d_Bus_count_44 : decode b_Bus_count 44 = .ok (.ireturn, 1) := by decide +kernel
theorem d_Bus_count_45 : decode b_Bus_count 45 = .ok (.aload_n 0, 1) := by decide +kernel
theorem d_Bus_count_46 : decode b_Bus_count 46 = .ok (.getfield 129, 3) := by decide +kernel
theorem d_Bus_count_49 : decode b_Bus_count 49 = .ok (.ireturn, 1) := by decide +kernel
theorem d_Bus_count_50 : decode b_Bus_count 50 = .ok (.aload_n 0, 1) := by decide +kernel
theorem d_Bus_count_51 : decode b_Bus_count 51 = .ok (.getfield 132, 3) := by decide +kernel
theorem d_Bus_count_54 : decode b_Bus_count 54 = .ok (.ireturn, 1) := by decide +kernel
theorem d_Bus_count_55 : decode b_Bus_count 55 = .ok (.iconst (-1), 1) := by decide +kernel
theorem d_Bus_count_56 : decode b_Bus_count 56 = .ok (.ireturn, 1) := by decide +kernel
theorem d_Bus_victim_0 : decode b_Bus_victim 0 = .ok (.aload_n 0, 1) := by decide +kernel
theorem d_Bus_victim_1 : decode b_Bus_victim 1 = .ok (.iload_n 1, 1) := by decide +kernel
theorem d_Bus_victim_2 : decode b_Bus_victim 2 = .ok (.invokevirtual 43, 3) := by decide +kernel
theorem d_Bus_victim_5 : decode b_Bus_victim 5 = .ok (.ifCond .eq 12, 3) := by decide +kernel
theorem d_Bus_victim_8 : decode b_Bus_victim 8 = .ok (.iload_n 2, 1) := by decide +kernel
theorem d_Bus_victim_9 : decode b_Bus_victim 9 = .ok (.ifCond .lt 8, 3) := by decide +kernel
theorem d_Bus_victim_12 : decode b_Bus_victim 12 = .ok (.iload_n 2, 1) := by decide +kernel
theorem d_Bus_victim_13 : decode b_Bus_victim 13 = .ok (.iconst 2, 1) := by decide +kernel
theorem d_Bus_victim_14 : decode b_Bus_victim 14 = .ok (.if_icmp .lt 5, 3) := by decide +kernel
theorem d_Bus_victim_17 : decode b_Bus_victim 17 = .ok (.iconst (-1), 1) := by decide +kernel
theorem d_Bus_victim_18 : decode b_Bus_victim 18 = .ok (.ireturn, 1) := by decide +kernel
theorem d_Bus_victim_19 : decode b_Bus_victim 19 = .ok (.aload_n 0, 1) := by decide +kernel
theorem d_Bus_victim_20 : decode b_Bus_victim 20 = .ok (.getfield 27, 3) := by decide +kernel
theorem d_Bus_victim_23 : decode b_Bus_victim 23 = .ok (.iload_n 1, 1) := by decide +kernel
theorem d_Bus_victim_24 : decode b_Bus_victim 24 = .ok (.aaload, 1) := by decide +kernel
theorem d_Bus_victim_25 : decode b_Bus_victim 25 = .ok (.getfield 65, 3) := by decide +kernel
theorem d_Bus_victim_28 : decode b_Bus_victim 28 = .ok (.iload_n 2, 1) := by decide +kernel
theorem d_Bus_victim_29 : decode b_Bus_victim 29 = .ok (.invokevirtual 135, 3) := by decide +kernel
theorem d_Bus_victim_32 : decode b_Bus_victim 32 = .ok (.istore_n 3, 1) := by decide +kernel
theorem d_Bus_victim_33 : decode b_Bus_victim 33 = .ok (.iload_n 3, 1) := by decide +kernel
theorem d_Bus_victim_34 : decode b_Bus_victim 34 = .ok (.iconst (-1), 1) := by decide +kernel
theorem d_Bus_victim_35 : decode b_Bus_victim 35 = .ok (.if_icmp .ne 7, 3) := by decide +kernel
theorem d_Bus_victim_38 : decode b_Bus_victim 38 = .ok (.iconst (-1), 1) := by decide +kernel
theorem d_Bus_victim_39 : decode b_Bus_victim 39 = .ok (.goto 4, 3) := by decide +kernel
theorem d_Bus_victim_42 : decode b_Bus_victim 42 = .ok (.iload_n 3, 1) := by decide +kernel
theorem d_Bus_victim_43 : decode b_Bus_victim 43 = .ok (.ireturn, 1) := by decide +kernel
end
section
/-! The contracts' one form, and a call by it. mk_M: from a world w (cells in a list) and arguments av the method answers as Qf says; mk_Qi, mk_Qv: the answer and the world behind it. -/
section MKA
variable {p : Program} {l : Launch} {e : Env} {R : Room} {s : State} {m : MethodId} {args : Array Value} {below : List Frame} {meth : Method} {c : Code} {H : Heap} {locs : List Loc} {cells slots : Nat} {Q : State → Prop} {pc : Nat} {ls : Array Slot} {rest : List Value}
theorem mk_top {x y : Int32} (h : x = y) (k : W p l e R s m args below meth c H locs cells slots Q (F0 m pc ls (.int y :: rest))) : W p l e R s m args below meth c H locs cells slots Q (F0 m pc ls (.int x :: rest)) := h ▸ k
theorem mk_topv {x y : Value} (h : x = y) (k : W p l e R s m args below meth c H locs cells slots Q (F0 m pc ls (y :: rest))) : W p l e R s m args below meth c H locs cells slots Q (F0 m pc ls (x :: rest)) := h ▸ k
end MKA
/-- the nest mates' links hold -/
def nwK (U : State) : Prop := ∀ w ∈ NW, va_Nw w U
theorem nwK.warm {s U : State} (h : nwK s) (hW : s.WarmedH U.vm) : nwK U := by
  intro w hw
  have hz := h w hw
  have hn := (List.mem_filter.mp hw).2
  match w, hn, hz with
  | .fieldLinkNest .., _, hz => exact va_Nw.warmF hW hz
  | .methodLinkNest .., _, hz => exact va_Nw.warmM hW hz
theorem nwK.same {s U : State} (h : nwK s) (e : s.vm = U.vm) : nwK U := by
  intro w hw
  have hz := h w hw
  have hn := (List.mem_filter.mp hw).2
  match w, hn, hz with
  | .fieldLinkNest .., _, hz => exact va_Nw.same rfl e hz
  | .methodLinkNest .., _, hz => exact va_Nw.same rfl e hz
def mk_P (D : va_G) (tys : List (ClassId × FieldType)) (av : List Value) (sz : Nat) (w : va_W) : Array Value → State → Prop :=
  va_Pc av (fun U => U.heap.size = sz ∧ va_P D vwCl w U.heap ∧ va_K D vwCl tys U ∧ va_D (fun _ => True) w ∧ nwK U)
def mk_B (D : va_G) (tys : List (ClassId × FieldType)) (A : Nat → Prop) (w : va_W) (t : State) : Prop := va_P D vwCl w t.heap ∧ va_K D vwCl tys t ∧ va_D A w
def mk_Qi (D : va_G) (tys : List (ClassId × FieldType)) (r : Int32) (w : va_W) (A : Nat → Prop) : Array Value → State → Outcome → State → Prop :=
  va_Qi (fun (x : Int32) (_ : Unit) => x = r) (fun _ => mk_B D tys A w) A
def mk_Qv (D : va_G) (tys : List (ClassId × FieldType)) (w : va_W) (A : Nat → Prop) : Array Value → State → Outcome → State → Prop :=
  va_Qv (fun (_ : Unit) => True) (fun _ => mk_B D tys A w) A
def mk_M (l : Launch) (y : MethodName) (ws : List Cond) (rm : Room) (D : va_G) (tys : List (ClassId × FieldType)) (av : List Value) (w : va_W) (Qf : (Nat → Prop) → Array Value → State → Outcome → State → Prop) : Prop :=
  ∀ sz, Met l y ws rm (mk_P D tys av sz w) (Qf (va_A w sz)) 0 0 (va_A w sz)
theorem mk_blind {D : va_G} {tys : List (ClassId × FieldType)} {av : List Value} {sz : Nat} {w : va_W} : FrameBlind (mk_P D tys av sz w) := fun a U g mk q => by
  obtain ⟨q0, q1, qP, qK, qD, qN⟩ := q
  exact ⟨q0, q1, qP, va_K.moved (u := U) (U := U.calling g mk a) (Vm.Alike.refl U.vm) qK, qD, qN.same rfl⟩
theorem mk_start {l : Launch} {y : MethodName} {rm : Room} {cc : ByteArray} {maxL : Nat} {ret : Option FieldType} {D : va_G} {tys : List (ClassId × FieldType)} {av : List Value} {w : va_W} {Qf : (Nat → Prop) → Array Value → State → Outcome → State → Prop}
    (hy : plainName y.cls = true) (hn : (lg_sl av).length ≤ maxL)
    (body : ∀ (p : Program) (e : Env) (s : State) (m : MethodId) (below : List Frame) (meth : Method) (c : Code) (A : Nat → Prop) (ls : Array Slot) (H : Heap) (locs : List Loc), p.tables.exec = Jvm.exec → c.code = cc → c.maxLocals = maxL → meth.sig.returnType = ret → meth.locks = false → meth.name = y.name → (∀ x ∈ BG, x.before av.toArray s = true) → nwK s → s.vm.findClass y.cls = some m.cls → va_K D vwCl tys s → va_P D vwCl w H → va_D A w → (∀ q : Nat, s.heap.size ≤ q → A q) → lv_has ls maxL (lv_args 0 av) → va_S A s.heap H locs →
      W p l e rm s m av.toArray below meth c H locs 0 0 (MQ below (Qf A) av.toArray s 0 0 A) (F0 m 0 ls [])) : mk_M l y (Cond.code y cc maxL ret :: BG) rm D tys av w Qf := by
  intro sz
  refine Met.ofW (cc := cc) (maxL := maxL) (ret := ret) hy rfl ?_
  intro p e s m args below meth c s₁ B hml hv
  obtain ⟨rfl, hsz, hP, hK, hD0, hN⟩ := hv
  subst hsz
  have hl := lv_entry av (n := maxL) hn
  rw [lg_entry_eq]
  exact body p e s m below meth c _ _ _ _ B.exec B.bytes hml B.returns B.notSynchronized (name_of_methodNamed B.named B.method).1 (fun w hw => atoms_spec (ws := Cond.code y cc maxL ret :: BG) B.pre w (List.mem_cons_of_mem _ hw)) hN (findClass_of_methodNamed B.named) hK hP hD0.self (fun q h => Or.inr h) hl va_S.rf
section MKB
variable {p : Program} {l : Launch} {e : Env} {R : Room} {s : State} {m : MethodId} {args : Array Value} {below : List Frame} {meth : Method} {c : Code} {H : Heap} {locs : List Loc} {cells slots : Nat} {Q : State → Prop} {pc : Nat} {ls : Array Slot} {rest st0 : List Value} {cc : ByteArray}
variable {D : va_G} {tys : List (ClassId × FieldType)} {A : Nat → Prop} {X pl wc wr w1 w2 X1 : va_W} {r v : Int32} {H0 : Heap} {a : Array Value}
theorem mk_iret (hx : p.tables.exec = Jvm.exec) (hb : c.code = cc) (hr : meth.sig.returnType = some .int) (hlocks : meth.locks = false) (hK : va_K D vwCl tys s) (hP : va_P D vwCl w1 H) (hD : va_D A w1) (hS : va_S A s.heap H locs) (hdg : decode cc pc = .ok (.ireturn, 1)) (ev : v = r) (ew : w1 = w2) :
    W p l e R s m args below meth c H locs cells slots (MQ below (mk_Qi D tys r w2 A) args s cells slots A) (F0 m pc ls [.int v]) := by
  subst ew; subst ev
  exact W.iret hx hb hr (fun t ht hW => ⟨⟨v, (), rfl, rfl, by rw [ht]; exact hP, va_K.moved hW.alike hK, hD⟩, hS.F ht⟩) hS.2.2 hdg hlocks
theorem mk_zret (hx : p.tables.exec = Jvm.exec) (hb : c.code = cc) (hr : meth.sig.returnType = some .boolean) (hlocks : meth.locks = false) (hK : va_K D vwCl tys s) (hP : va_P D vwCl w1 H) (hD : va_D A w1) (hS : va_S A s.heap H locs) (hdg : decode cc pc = .ok (.ireturn, 1)) (hn : narrow .boolean (.int v) = .int v) (ev : v = r) (ew : w1 = w2) :
    W p l e R s m args below meth c H locs cells slots (MQ below (mk_Qi D tys r w2 A) args s cells slots A) (F0 m pc ls [.int v]) := by
  subst ew; subst ev
  exact W.zret hx hb hr hn (fun t ht hW => ⟨⟨v, (), rfl, rfl, by rw [ht]; exact hP, va_K.moved hW.alike hK, hD⟩, hS.F ht⟩) hS.2.2 hdg hlocks
theorem mk_vret (hx : p.tables.exec = Jvm.exec) (hb : c.code = cc) (hr : meth.sig.returnType = none) (hlocks : meth.locks = false) (hK : va_K D vwCl tys s) (hP : va_P D vwCl w1 H) (hD : va_D A w1) (hS : va_S A s.heap H locs) (hdg : decode cc pc = .ok (.return_, 1)) (ew : w1 = w2) :
    W p l e R s m args below meth c H locs cells slots (MQ below (mk_Qv D tys w2 A) args s cells slots A) (F0 m pc ls []) := by
  subst ew
  exact W.vret hx hb hr (fun t ht hW => ⟨⟨(), rfl, trivial, by rw [ht]; exact hP, va_K.moved hW.alike hK, hD⟩, hS.F ht⟩) hS.2.2 hdg hlocks
theorem mk_fr (hD : va_D A (X ++ pl)) (hS : va_S A H0 H locs) (hA : ∀ q : Nat, H0.size ≤ q → A q) (isC : List Nat) (hC : isC.map (fun i => X[i]?) = wc.map some) : ∀ q, va_A wc H.size q → A q := by
  intro q h
  rcases h with ⟨k, e, h⟩ | h
  · obtain ⟨i, _, h2⟩ := va_in_of isC hC h
    exact hD.2 i (q, e) (by rw [List.getElem?_append_left (List.getElem?_eq_some_iff.mp h2).1]; exact h2)
  · exact hA q (Nat.le_trans hS.1 h)
theorem mk_calli (hP : va_P D vwCl (X ++ pl) H) (hD : va_D A (X ++ pl)) (hS : va_S A H0 H locs) (hA : ∀ q : Nat, H0.size ≤ q → A q) (isC isR isB : List Nat) (hC : isC.map (fun i => X[i]?) = wc.map some) (hR : isR.map (fun i => X[i]?) = wr.map some) (hB : isB.map (fun i => (wr ++ w1)[i]?) = X1.map some) (hn : va_nd isR = true) (hnB : va_nd isB = true) (hdis : ∀ i ∈ isR, i ∉ isC)
    (hr : va_Run p l e R s m args below meth c H locs cells slots 0 0 (F0 m pc ls st0) rest (mk_Qi D tys r w1 (va_A wc H.size) a) (va_A wc H.size))
    (kk : ∀ (H1 : Heap) (locs1 : List Loc), va_P D vwCl (X1 ++ pl) H1 → va_D A (X1 ++ pl) → va_S A H0 H1 locs1 → W p l e R s m args below meth c H1 locs1 cells slots Q (F0 m (pc + 3) ls (.int r :: rest))) : W p l e R s m args below meth c H locs cells slots Q (F0 m pc ls st0) := by
  have hF := mk_fr hD hS hA isC hC
  refine va_calli hr hS (fun q _ h => hF q h) hF (fun r' u t H1 locs1 ht hvm hp hB1 hz hk hS1 => ?_)
  obtain ⟨hP1, hK1, hD1⟩ := hB1
  rw [ht] at hP1
  subst hp
  obtain ⟨hP2, hD2⟩ := va_joinQ hP hD isC isR hC hR hn hdis hk hF hP1 hD1
  exact kk H1 locs1 (hP2.part isB hB) (hD2.part isB hnB hB) hS1
theorem mk_callv (hP : va_P D vwCl (X ++ pl) H) (hD : va_D A (X ++ pl)) (hS : va_S A H0 H locs) (hA : ∀ q : Nat, H0.size ≤ q → A q) (isC isR isB : List Nat) (hC : isC.map (fun i => X[i]?) = wc.map some) (hR : isR.map (fun i => X[i]?) = wr.map some) (hB : isB.map (fun i => (wr ++ w1)[i]?) = X1.map some) (hn : va_nd isR = true) (hnB : va_nd isB = true) (hdis : ∀ i ∈ isR, i ∉ isC)
    (hr : va_Run p l e R s m args below meth c H locs cells slots 0 0 (F0 m pc ls st0) rest (mk_Qv D tys w1 (va_A wc H.size) a) (va_A wc H.size))
    (kk : ∀ (H1 : Heap) (locs1 : List Loc), va_P D vwCl (X1 ++ pl) H1 → va_D A (X1 ++ pl) → va_S A H0 H1 locs1 → W p l e R s m args below meth c H1 locs1 cells slots Q (F0 m (pc + 3) ls rest)) : W p l e R s m args below meth c H locs cells slots Q (F0 m pc ls st0) := by
  have hF := mk_fr hD hS hA isC hC
  refine va_callv hr hS (fun q _ h => hF q h) hF (fun u t H1 locs1 ht hvm hp hB1 hz hk hS1 => ?_)
  obtain ⟨hP1, hK1, hD1⟩ := hB1
  rw [ht] at hP1
  obtain ⟨hP2, hD2⟩ := va_joinQ hP hD isC isR hC hR hn hdis hk hF hP1 hD1
  exact kk H1 locs1 (hP2.part isB hB) (hD2.part isB hnB hB) hS1
theorem mk_pcut (hP : va_P D vwCl (X ++ pl) H) (isC : List Nat) (hC : isC.map (fun i => X[i]?) = wc.map some) : va_P D vwCl wc H := fun k q hk =>
  hP.part isC hC k q (by rw [List.getElem?_append_left (List.getElem?_eq_some_iff.mp hk).1]; exact hk)
theorem mk_dcut (hD : va_D A (X ++ pl)) (isC : List Nat) (hn : va_nd isC = true) (hC : isC.map (fun i => X[i]?) = wc.map some) : va_D A wc := by
  have h := hD.part isC hn hC
  have f : ∀ (k : Nat) (q : Nat × va_E), wc[k]? = some q → (wc ++ pl)[k]? = some q := fun k q hk => by rw [List.getElem?_append_left (List.getElem?_eq_some_iff.mp hk).1]; exact hk
  exact ⟨fun i j x y hx hy hxy => h.1 i j x y (f i x hx) (f j y hy) hxy, fun k q hk => h.2 k q (f k q hk)⟩
theorem mk_preS {As : List Value} (hN : nwK s) (hK : va_K D vwCl tys s) (hP : va_P D vwCl (X ++ pl) H) (hD : va_D A (X ++ pl)) (isC : List Nat) (hn : va_nd isC = true) (hC : isC.map (fun i => X[i]?) = wc.map some) : PreS s H (mk_P D tys As H.size wc) As :=
  ⟨mk_blind, fun U hU hW => ⟨rfl, by rw [hU], by rw [hU]; exact mk_pcut hP isC hC, va_K.moved hW.alike hK, (mk_dcut hD isC hn hC).weaken (fun _ _ _ _ => trivial), hN.warm hW⟩⟩
theorem mk_preV {As : List Value} {b : Nat} {C : String} (hN : nwK s) (hK : va_K D vwCl tys s) (hP : va_P D vwCl (X ++ pl) H) (hD : va_D A (X ++ pl)) (isC : List Nat) (hn : va_nd isC = true) (hC : isC.map (fun i => X[i]?) = wc.map some) (q0 : Nat) {ci : Nat} {q : vw_C} {fs : List Value} (hc : vwCl[ci]? = some q) (he : X[q0]? = some (b, .inr (ci, fs))) (hq : q.1 = C) : PreV s H C b (mk_P D tys (.ref b :: As) H.size wc) As := by
  subst hq
  exact ⟨mk_blind, va_recv (q0 := q0) hK hP hc (by rw [List.getElem?_append_left (List.getElem?_eq_some_iff.mp he).1]; exact he), fun U hU hW => ⟨rfl, by rw [hU], by rw [hU]; exact mk_pcut hP isC hC, va_K.moved hW.alike hK, (mk_dcut hD isC hn hC).weaken (fun _ _ _ _ => trivial), hN.warm hW⟩⟩
end MKB
section MKC
variable {p : Program} {l : Launch} {e : Env} {R : Room} {s : State} {m : MethodId} {args : Array Value} {below : List Frame} {meth : Method} {c : Code} {H : Heap} {locs : List Loc} {cells slots : Nat} {Q : State → Prop}
variable {cc : ByteArray} {pc : Nat} {ls : Array Slot} {rest : List Value} {D : va_G} {cl : List vw_C} {A : Nat → Prop} {a : Nat} {tys : List (ClassId × FieldType)} {ws : va_W} {H0 : Heap}
theorem mk_iald (hx : p.tables.exec = Jvm.exec) (hb : c.code = cc) (hK : va_K D cl tys s) (hP : va_P D cl ws H) (q0 t0 : Nat) {cA : ClassId} {n : Nat} {f : Nat → Int32} (ha : ws[q0]? = some (a, .inl (cA, n, .inl f))) (ht : tys[t0]? = some (cA, .int)) {j : Nat} (hj : j < n) (hn : n < 2 ^ 31) (hdg : decode cc pc = .ok (.iaload, 1))
    (kk : W p l e R s m args below meth c H locs cells slots Q (F0 m (pc + 1) ls (.int (f j) :: rest))) : W p l e R s m args below meth c H locs cells slots Q (F0 m pc ls (.int (nI j) :: .ref a :: rest)) := by
  refine va_iald hx hb hK hP q0 t0 ha ht (vp_in_nI hj hn) hdg ?_
  rw [nI_clamp (by omega)]
  exact kk
theorem mk_iast (hx : p.tables.exec = Jvm.exec) (hb : c.code = cc) (hK : va_K D cl tys s) (hP : va_P D cl ws H) (hD : va_D A ws) (hS : va_S A H0 H locs) (q0 t0 : Nat) {cA : ClassId} {n : Nat} {f : Nat → Int32} (ha : ws[q0]? = some (a, .inl (cA, n, .inl f))) (ht : tys[t0]? = some (cA, .int)) {j : Nat} {x : Int32} (hj : j < n) (hn : n < 2 ^ 31) (hdg : decode cc pc = .ok (.iastore, 1))
    (kk : ∀ (H1 : Heap) (locs1 : List Loc), va_P D cl (ws.set q0 (a, .inl (cA, n, .inl (upd f j x)))) H1 → va_D A (ws.set q0 (a, .inl (cA, n, .inl (upd f j x)))) → va_S A H0 H1 locs1 → W p l e R s m args below meth c H1 locs1 cells slots Q (F0 m (pc + 1) ls rest)) : W p l e R s m args below meth c H locs cells slots Q (F0 m pc ls (.int x :: .int (nI j) :: .ref a :: rest)) := by
  refine va_iast hx hb hK hP hD hS q0 t0 ha ht (vp_in_nI hj hn) hdg ?_
  rw [nI_clamp (by omega)]
  exact kk
theorem mk_aald (hx : p.tables.exec = Jvm.exec) (hb : c.code = cc) (hK : va_K D cl tys s) (hP : va_P D cl ws H) (q0 t0 : Nat) {cA : ClassId} {C : String} {n b : Nat} {f : Nat → Option Nat} (ha : ws[q0]? = some (a, .inl (cA, n, .inr (.inr (.inr (.inr f)))))) (ht : tys[t0]? = some (cA, .object C)) {j : Nat} (hj : j < n) (hn : n < 2 ^ 31) (hf : f j = some b) (hdg : decode cc pc = .ok (.aaload, 1))
    (kk : W p l e R s m args below meth c H locs cells slots Q (F0 m (pc + 1) ls (.ref b :: rest))) : W p l e R s m args below meth c H locs cells slots Q (F0 m pc ls (.int (nI j) :: .ref a :: rest)) := by
  refine va_aldq hx hb hK hP q0 t0 ha ht (vp_in_nI hj hn) hdg ?_
  rw [nI_clamp (by omega), hf]
  exact kk
theorem mk_copy (hx : p.tables.exec = Jvm.exec) (hb : c.code = cc) (hml : c.maxLocals = ls.size) {own : String} {index : Nat} (hown : s.vm.findClass own = some m.cls) (hlink : (Cond.methodLink own index arraycopyName).before args s = true) (hnat : (Cond.native arraycopyName).before args s = true) (hstat : (Cond.static arraycopyName).before args s = true) (hini : (Cond.initialized "java/lang/System").before args s = true)
    (hK : va_K D cl tys s) (hP : va_P D cl ws H) (hD : va_D A ws) (hS : va_S A H0 H locs) (q0 q1 t0 : Nat) {a0 : Nat} {c0 : ClassId} {n0 n1 : Nat} {f g : Nat → Int32} (ha0 : ws[q0]? = some (a0, .inl (c0, n0, .inl f))) (ha1 : ws[q1]? = some (a, .inl (c0, n1, .inl g))) (ht0 : tys[t0]? = some (c0, .int))
    {sp dp n : Nat} (h4 : sp + n ≤ n0) (h5 : dp + n ≤ n1) (hn0 : n0 < 2 ^ 31) (hn1 : n1 < 2 ^ 31)
    (hframes : 1 ≤ R.frames) (hlocals : (rest.map fun v => v.category).sum + (nativeFrameWords "java/lang/System" "arraycopy" 5 + 11) ≤ R.locals) (hdg : decode cc pc = .ok (.invokestatic index, 3))
    (kk : ∀ (H1 : Heap) (locs1 : List Loc), va_P D cl (ws.set q1 (a, .inl (c0, n1, .inl (va_cpy f g sp dp n)))) H1 → va_D A (ws.set q1 (a, .inl (c0, n1, .inl (va_cpy f g sp dp n)))) → va_S A H0 H1 locs1 → W p l e R s m args below meth c H1 locs1 cells slots Q (F0 m (pc + 3) ls rest)) : W p l e R s m args below meth c H locs cells slots Q (F0 m pc ls (.int (nI n) :: .int (nI dp) :: .ref a :: .int (nI sp) :: .ref a0 :: rest)) := by
  refine va_copyi hx hb hml hown hlink hnat hstat hini hK hP hD hS q0 q1 t0 t0 ha0 ha1 ht0 ht0 rfl (nI_pos (by omega)) (nI_pos (by omega)) (nI_pos (by omega)) ?_ ?_ (fun i _ => rfl) hframes hlocals hdg ?_
  · rw [nI_clamp (by omega), nI_clamp (by omega)]; exact h4
  · rw [nI_clamp (by omega), nI_clamp (by omega)]; exact h5
  · rw [nI_clamp (by omega), nI_clamp (by omega), nI_clamp (by omega)]; exact kk
end MKC
/-! Worlds in any order; a family of cores' cells, one of them in front. -/
theorem mk_Piff {D : va_G} {cl : List vw_C} {ws : va_W} {H : Heap} : va_P D cl ws H ↔ ∀ q ∈ ws, va_at D cl q H :=
  ⟨fun h q hq => by obtain ⟨k, hk⟩ := List.getElem?_of_mem hq; exact h k q hk, fun h k q hk => h q (List.mem_of_getElem? hk)⟩
theorem mk_Diff {A : Nat → Prop} {ws : va_W} : va_D A ws ↔ (ws.map Prod.fst).Nodup ∧ ∀ q ∈ ws, A q.1 := by
  constructor
  · intro h
    refine ⟨?_, fun q hq => by obtain ⟨k, hk⟩ := List.getElem?_of_mem hq; exact h.2 k q hk⟩
    rw [List.Nodup, List.pairwise_map, List.pairwise_iff_getElem]
    intro i j hi hj hij e
    have := h.1 i j ws[i] ws[j] (List.getElem?_eq_getElem hi) (List.getElem?_eq_getElem hj) e
    omega
  · intro h
    refine ⟨fun i j x y hx hy e => ?_, fun k q hk => h.2 q (List.mem_of_getElem? hk)⟩
    have h1 := h.1
    rw [List.Nodup, List.pairwise_map, List.pairwise_iff_getElem] at h1
    obtain ⟨hi, rfl⟩ := List.getElem?_eq_some_iff.mp hx
    obtain ⟨hj, rfl⟩ := List.getElem?_eq_some_iff.mp hy
    rcases Nat.lt_trichotomy i j with h2 | h2 | h2
    · exact absurd e (h1 i j hi hj h2)
    · exact h2
    · exact absurd e.symm (h1 j i hj hi h2)
theorem mk_Pp {D : va_G} {cl : List vw_C} {ws ws' : va_W} {H : Heap} (h : ws.Perm ws') (hP : va_P D cl ws H) : va_P D cl ws' H :=
  mk_Piff.mpr (fun q hq => mk_Piff.mp hP q (h.mem_iff.mpr hq))
theorem mk_Dp {A : Nat → Prop} {ws ws' : va_W} (h : ws.Perm ws') (hD : va_D A ws) : va_D A ws' :=
  mk_Diff.mpr ⟨((h.map Prod.fst).nodup_iff).mp (mk_Diff.mp hD).1, fun q hq => (mk_Diff.mp hD).2 q (h.mem_iff.mpr hq)⟩
def fam (n : Nat) (f : Nat → va_W) : va_W := (List.range n).flatMap f
def famx (n i : Nat) (f : Nat → va_W) : va_W := ((List.range n).erase i).flatMap f
theorem fam_at {n i : Nat} {f : Nat → va_W} (hi : i < n) (B : va_W) : (B ++ fam n f).Perm ((B ++ f i) ++ famx n i f) := by
  rw [List.append_assoc]
  exact List.Perm.append_left B ((List.perm_cons_erase (List.mem_range.mpr hi)).flatMap_right f)
theorem famx_eq {n i : Nat} {f g : Nat → va_W} (h : ∀ j, j ≠ i → f j = g j) : famx n i f = famx n i g := by
  unfold famx
  rw [List.flatMap_def, List.flatMap_def]
  congr 1
  apply List.map_congr_left
  intro j hj
  exact h j ((List.nodup_range.mem_erase_iff.mp hj).1)
end
section
/-! The class, as numbers and functions: what each method answers and leaves. -/
abbrev tysK (cI cO : ClassId) : List (ClassId × FieldType) := [(cI, .int), (cO, .object "SnoopingBus$Core")]
def bz (x : Int32) : Int32 := if x = 0 then nI 0 else nI 1
def be (x y : Int32) : Int32 := if x = y then nI 1 else nI 0
theorem bz_0 {x : Int32} (h : x = 0) : nI 0 = bz x := by simp [bz, h]
theorem bz_1 {x : Int32} (h : ¬ x = 0) : nI 1 = bz x := by simp [bz, h]
theorem bz_eq {x : Int32} : bz x = 0 ↔ x = 0 := by
  by_cases h : x = 0
  · simp [bz, h]; decide
  · simp [bz, h]; decide
/-- the line is exclusive or modified -/
def ow (x : Int32) : Int32 := if x = nI 2 then nI 1 else if x = nI 3 then nI 1 else nI 0
theorem ow_eq {x : Int32} : ow x = 0 ↔ ¬ x = nI 2 ∧ ¬ x = nI 3 := by
  by_cases h : x = nI 2
  · simp [ow, h]; decide
  · by_cases h3 : x = nI 3
    · simp [ow, h3]; decide
    · simp [ow, h, h3]; decide
def cw_mem (st wd mw : Nat → Int32) (L : Nat) : Nat → Int32 := if st L = nI 3 then va_cpy wd mw (L * 4) (L * 4) 4 else mw
def cw_cnt (st : Nat → Int32) (wb : Int32) (L : Nat) : Int32 := if st L = nI 3 then wb + nI 1 else wb
def cl_on (o : Option Nat) : Int32 := match o with
  | none => -1
  | some k => nI k
def cl_scan (st ua : Nat → Int32) (s : Nat) : Nat → Nat × Option Nat
  | 0 => (0, none)
  | t + 1 => if st (s + 2 * t) = 0 then cl_scan st ua s t else ((cl_scan st ua s t).1 + 1, match (cl_scan st ua s t).2 with
    | none => some (s + 2 * t)
    | some o => if ua (s + 2 * t) < ua o then some (s + 2 * t) else some o)
def cl_leave (st ua : Nat → Int32) (wy s : Nat) : Option Nat := if (cl_scan st ua s 4).1 < wy then none else (cl_scan st ua s 4).2
def cf_st (st : Nat → Int32) (o : Option Nat) : Nat → Int32 := match o with
  | none => st
  | some k => upd st k (nI 0)
def cf_mem (st wd mw : Nat → Int32) (o : Option Nat) : Nat → Int32 := match o with
  | none => mw
  | some k => cw_mem st wd mw k
def cf_cnt (st : Nat → Int32) (wb : Int32) (o : Option Nat) : Int32 := match o with
  | none => wb
  | some k => cw_cnt st wb k
/-- the newest of the first n stores to an address -/
def cs_new (sa : Nat → Int32) (x : Int32) : Nat → Option Nat
  | 0 => none
  | n + 1 => if sa n = x then some n else cs_new sa x n
/-- the oldest store leaves: t of the others have moved up -/
def cs_sh (f : Nat → Int32) (t : Nat) : Nat → Int32 := fun i => if i < t then f (i + 1) else f i
theorem cs_sh_0 (f : Nat → Int32) : cs_sh f 0 = f := by funext i; simp [cs_sh]
theorem cs_sh_s (f : Nat → Int32) (t : Nat) : upd (cs_sh f t) t (cs_sh f t (t + 1)) = cs_sh f (t + 1) := by
  funext i
  by_cases h : i = t
  · subst h; simp [upd, cs_sh, show ¬ i + 1 < i by omega]
  · by_cases h2 : i < t
    · simp [upd, cs_sh, h, h2, Nat.lt_succ_of_lt h2]
    · simp [upd, cs_sh, h, h2, show ¬ i < t + 1 by omega]
theorem dec1 (x : Int32) : x + Int32.ofInt (-1) = x - nI 1 := by rw [Int32.sub_eq_add_neg]; rfl
theorem vp_hi {x : Int32} {n : Nat} (hn : n < 2 ^ 31) (h : ¬ vp_in x n) (h0 : ¬ x < 0) : nI n ≤ x := by
  obtain ⟨j, hj, rfl⟩ := nI_of h0
  exact (nI_leI hn hj).mpr (Nat.le_of_not_lt (fun q => h (vp_in_nI q hn)))
theorem nI_m1 {n : Nat} (h : n < 2 ^ 31) : ¬ nI n = -1 := fun q => nI_pos h (by rw [q]; decide)
theorem cl_scan_lt (st ua : Nat → Int32) (s : Nat) : ∀ (t o : Nat), (cl_scan st ua s t).2 = some o → o < s + 2 * t := by
  intro t
  induction t with
  | zero => intro o h; simp [cl_scan] at h
  | succ t ih =>
    intro o h
    rw [cl_scan] at h
    by_cases hz : st (s + 2 * t) = 0
    · rw [if_pos hz] at h
      have := ih o h
      omega
    · rw [if_neg hz] at h
      dsimp only at h
      cases hc : (cl_scan st ua s t).2 with
      | none => rw [hc] at h; dsimp only at h; cases h; omega
      | some q =>
        rw [hc] at h
        dsimp only at h
        have := ih q hc
        by_cases hq : ua (s + 2 * t) < ua q
        · rw [if_pos hq] at h; cases h; omega
        · rw [if_neg hq] at h; cases h; omega
theorem cl_scan_le (st ua : Nat → Int32) (s : Nat) : ∀ t : Nat, (cl_scan st ua s t).1 ≤ t := by
  intro t
  induction t with
  | zero => simp [cl_scan]
  | succ t ih =>
    rw [cl_scan]
    by_cases hz : st (s + 2 * t) = 0
    · rw [if_pos hz]; omega
    · rw [if_neg hz]; show _ + 1 ≤ _; omega
theorem cl_scan_mod (st ua : Nat → Int32) (s : Nat) : ∀ (t o : Nat), (cl_scan st ua s t).2 = some o → ∃ r, r < t ∧ o = s + 2 * r := by
  intro t
  induction t with
  | zero => intro o h; simp [cl_scan] at h
  | succ t ih =>
    intro o h
    rw [cl_scan] at h
    by_cases hz : st (s + 2 * t) = 0
    · rw [if_pos hz] at h
      obtain ⟨r, h1, h2⟩ := ih o h
      exact ⟨r, by omega, h2⟩
    · rw [if_neg hz] at h
      dsimp only at h
      cases hc : (cl_scan st ua s t).2 with
      | none => rw [hc] at h; dsimp only at h; cases h; exact ⟨t, by omega, rfl⟩
      | some q =>
        rw [hc] at h
        dsimp only at h
        by_cases hq : ua (s + 2 * t) < ua q
        · rw [if_pos hq] at h; cases h; exact ⟨t, by omega, rfl⟩
        · rw [if_neg hq] at h; cases h
          obtain ⟨r, h1, h2⟩ := ih _ hc
          exact ⟨r, by omega, h2⟩
theorem cl_leave_lt (st ua : Nat → Int32) (wy s o : Nat) (hs : s < 2) (h : cl_leave st ua wy s = some o) : o < 8 := by
  unfold cl_leave at h
  by_cases hw : (cl_scan st ua s 4).1 < wy
  · rw [if_pos hw] at h; cases h
  · rw [if_neg hw] at h
    obtain ⟨r, h1, h2⟩ := cl_scan_mod st ua s 4 o h
    omega
end
section
set_option maxRecDepth 100000 in
set_option maxHeartbeats 4000000 in
theorem c_lineOf (l : Launch) (D : va_G) (cI cO : ClassId) (j : Nat) (hj : j < 32) : mk_M l y_Bus_lineOf w_Bus_lineOf ({ frames := 0, cells := 0, slots := 0, locals := 0 } : Room) D (tysK cI cO) [.int (nI j)] [] (mk_Qi D (tysK cI cO) (nI (j / 4)) []) := by
  refine mk_start (cc := b_Bus_lineOf) (maxL := 1) (ret := (some FieldType.int)) (by decide) (Nat.le_of_ble_eq_true rfl) (fun p e s m below meth c A ls H locs hx hb hml hr hlocks hnm hts hN hown hK hP hD hA hl hS => ?_)
  have hl : lv_has ls 1 [(0, .int (nI j))] := hl
  refine lv_iload_n hx hb d_Bus_lineOf_0 rfl (lv_at hl 0 rfl) ?_
  refine lv_iconst (v := nI 4) hx hb d_Bus_lineOf_1 (by decide) ?_
  refine lv_idiv hx hb d_Bus_lineOf_2 (nI_ne0 (by omega) (by omega)) ?_
  refine mk_top (show _ = nI (j / 4) from pk_div (by omega) (by omega) (by omega)) ?_
  exact mk_iret hx hb hr hlocks hK hP hD hS d_Bus_lineOf_3 rfl rfl
set_option maxRecDepth 100000 in
set_option maxHeartbeats 4000000 in
theorem c_isAddress_1 (l : Launch) (D : va_G) (cI cO : ClassId) (j : Nat) (hj : j < 32) : mk_M l y_Bus_isAddress w_Bus_isAddress ({ frames := 0, cells := 0, slots := 0, locals := 0 } : Room) D (tysK cI cO) [.int (nI j)] [] (mk_Qi D (tysK cI cO) (nI 1) []) := by
  refine mk_start (cc := b_Bus_isAddress) (maxL := 1) (ret := (some FieldType.boolean)) (by decide) (Nat.le_of_ble_eq_true rfl) (fun p e s m below meth c A ls H locs hx hb hml hr hlocks hnm hts hN hown hK hP hD hA hl hS => ?_)
  have hl : lv_has ls 1 [(0, .int (nI j))] := hl
  refine lv_iload_n hx hb d_Bus_isAddress_0 rfl (lv_at hl 0 rfl) ?_
  refine lv_if_lt (tgt := 14) hx hb d_Bus_isAddress_1 rfl (fun h => absurd h (nI_pos (by omega))) (fun _ => ?_)
  refine lv_iload_n hx hb d_Bus_isAddress_4 rfl (lv_at hl 0 rfl) ?_
  refine lv_bipush (v := nI 32) hx hb d_Bus_isAddress_5 (by decide) ?_
  refine lv_icmp_ge (tgt := 14) hx hb d_Bus_isAddress_7 rfl (fun h => absurd h (fun q => absurd ((nI_leI (by omega) (by omega)).mp q) (by omega))) (fun _ => ?_)
  refine lv_iconst (v := nI 1) hx hb d_Bus_isAddress_10 (by decide) ?_
  refine lv_goto (tgt := 15) hx hb d_Bus_isAddress_11 rfl ?_
  exact mk_zret hx hb hr hlocks hK hP hD hS d_Bus_isAddress_15 (by decide) rfl rfl
set_option maxRecDepth 100000 in
set_option maxHeartbeats 4000000 in
theorem c_isLine_1 (l : Launch) (D : va_G) (cI cO : ClassId) (j : Nat) (hj : j < 8) : mk_M l y_Bus_isLine w_Bus_isLine ({ frames := 0, cells := 0, slots := 0, locals := 0 } : Room) D (tysK cI cO) [.int (nI j)] [] (mk_Qi D (tysK cI cO) (nI 1) []) := by
  refine mk_start (cc := b_Bus_isLine) (maxL := 1) (ret := (some FieldType.boolean)) (by decide) (Nat.le_of_ble_eq_true rfl) (fun p e s m below meth c A ls H locs hx hb hml hr hlocks hnm hts hN hown hK hP hD hA hl hS => ?_)
  have hl : lv_has ls 1 [(0, .int (nI j))] := hl
  refine lv_iload_n hx hb d_Bus_isLine_0 rfl (lv_at hl 0 rfl) ?_
  refine lv_if_lt (tgt := 14) hx hb d_Bus_isLine_1 rfl (fun h => absurd h (nI_pos (by omega))) (fun _ => ?_)
  refine lv_iload_n hx hb d_Bus_isLine_4 rfl (lv_at hl 0 rfl) ?_
  refine lv_bipush (v := nI 8) hx hb d_Bus_isLine_5 (by decide) ?_
  refine lv_icmp_ge (tgt := 14) hx hb d_Bus_isLine_7 rfl (fun h => absurd h (fun q => absurd ((nI_leI (by omega) (by omega)).mp q) (by omega))) (fun _ => ?_)
  refine lv_iconst (v := nI 1) hx hb d_Bus_isLine_10 (by decide) ?_
  refine lv_goto (tgt := 15) hx hb d_Bus_isLine_11 rfl ?_
  exact mk_zret hx hb hr hlocks hK hP hD hS d_Bus_isLine_15 (by decide) rfl rfl
set_option maxRecDepth 100000 in
set_option maxHeartbeats 4000000 in
theorem c_isAddress_0 (l : Launch) (D : va_G) (cI cO : ClassId) (x : Int32) (hx0 : ¬ vp_in x 32) : mk_M l y_Bus_isAddress w_Bus_isAddress ({ frames := 0, cells := 0, slots := 0, locals := 0 } : Room) D (tysK cI cO) [.int x] [] (mk_Qi D (tysK cI cO) (nI 0) []) := by
  refine mk_start (cc := b_Bus_isAddress) (maxL := 1) (ret := (some FieldType.boolean)) (by decide) (Nat.le_of_ble_eq_true rfl) (fun p e s m below meth c A ls H locs hx hb hml hr hlocks hnm hts hN hown hK hP hD hA hl hS => ?_)
  have hl : lv_has ls 1 [(0, .int x)] := hl
  refine lv_iload_n hx hb d_Bus_isAddress_0 rfl (lv_at hl 0 rfl) ?_
  refine lv_if_lt (tgt := 14) hx hb d_Bus_isAddress_1 rfl (fun h1 => ?_) (fun h1 => ?_)
  · refine lv_iconst (v := nI 0) hx hb d_Bus_isAddress_14 (by decide) ?_
    exact mk_zret hx hb hr hlocks hK hP hD hS d_Bus_isAddress_15 (by decide) rfl rfl
  · refine lv_iload_n hx hb d_Bus_isAddress_4 rfl (lv_at hl 0 rfl) ?_
    refine lv_bipush (v := nI 32) hx hb d_Bus_isAddress_5 (by decide) ?_
    refine lv_icmp_ge (tgt := 14) hx hb d_Bus_isAddress_7 rfl (fun _ => ?_) (fun h => absurd (vp_hi (by decide) hx0 h1) h)
    refine lv_iconst (v := nI 0) hx hb d_Bus_isAddress_14 (by decide) ?_
    exact mk_zret hx hb hr hlocks hK hP hD hS d_Bus_isAddress_15 (by decide) rfl rfl
set_option maxRecDepth 100000 in
set_option maxHeartbeats 4000000 in
theorem c_isLine_0 (l : Launch) (D : va_G) (cI cO : ClassId) (x : Int32) (hx0 : ¬ vp_in x 8) : mk_M l y_Bus_isLine w_Bus_isLine ({ frames := 0, cells := 0, slots := 0, locals := 0 } : Room) D (tysK cI cO) [.int x] [] (mk_Qi D (tysK cI cO) (nI 0) []) := by
  refine mk_start (cc := b_Bus_isLine) (maxL := 1) (ret := (some FieldType.boolean)) (by decide) (Nat.le_of_ble_eq_true rfl) (fun p e s m below meth c A ls H locs hx hb hml hr hlocks hnm hts hN hown hK hP hD hA hl hS => ?_)
  have hl : lv_has ls 1 [(0, .int x)] := hl
  refine lv_iload_n hx hb d_Bus_isLine_0 rfl (lv_at hl 0 rfl) ?_
  refine lv_if_lt (tgt := 14) hx hb d_Bus_isLine_1 rfl (fun h1 => ?_) (fun h1 => ?_)
  · refine lv_iconst (v := nI 0) hx hb d_Bus_isLine_14 (by decide) ?_
    exact mk_zret hx hb hr hlocks hK hP hD hS d_Bus_isLine_15 (by decide) rfl rfl
  · refine lv_iload_n hx hb d_Bus_isLine_4 rfl (lv_at hl 0 rfl) ?_
    refine lv_bipush (v := nI 8) hx hb d_Bus_isLine_5 (by decide) ?_
    refine lv_icmp_ge (tgt := 14) hx hb d_Bus_isLine_7 rfl (fun _ => ?_) (fun h => absurd (vp_hi (by decide) hx0 h1) h)
    refine lv_iconst (v := nI 0) hx hb d_Bus_isLine_14 (by decide) ?_
    exact mk_zret hx hb hr hlocks hK hP hD hS d_Bus_isLine_15 (by decide) rfl rfl
set_option maxRecDepth 100000 in
set_option maxHeartbeats 4000000 in
theorem c_holds_1 (l : Launch) (D : va_G) (cI cO : ClassId) (aC aM a1 a2 a3 wy : Nat) (us : Int32) (st : Nat → Int32) (L : Nat) (hL : L < 8) (h1 : ¬ st L = 0) : mk_M l y_Cache_holds w_Cache_holds ({ frames := 0, cells := 0, slots := 0, locals := 0 } : Room) D (tysK cI cO) [.ref aC, .int (nI L)] [(aC, .inr (0, [.ref aM, .int (nI wy), .ref a1, .ref a2, .ref a3, .int us])), (a1, .inl (cI, 8, .inl st))] (mk_Qi D (tysK cI cO) (nI 1) [(aC, .inr (0, [.ref aM, .int (nI wy), .ref a1, .ref a2, .ref a3, .int us])), (a1, .inl (cI, 8, .inl st))]) := by
  refine mk_start (cc := b_Cache_holds) (maxL := 2) (ret := (some FieldType.boolean)) (by decide) (Nat.le_of_ble_eq_true rfl) (fun p e s m below meth c A ls H locs hx hb hml hr hlocks hnm hts hN hown hK hP hD hA hl hS => ?_)
  have hl : lv_has ls 2 [(0, .ref aC), (1, .int (nI L))] := hl
  refine lv_aload_n hx hb d_Cache_holds_0 rfl (lv_at hl 0 rfl) ?_
  refine va_get (D := D) (ci := 0) (v := .ref a1) (C := R_Cache) (T := T_Cache) (N := 6) hx hb hts in_Cache hown hK hP 0 rfl rfl 2 (by decide) (hts _ iw_63) (fun _ h9 => h9) rfl d_Cache_holds_1 ?_
  refine lv_iload_n hx hb d_Cache_holds_4 rfl (lv_at hl 1 rfl) ?_
  refine mk_iald hx hb hK hP 1 0 rfl rfl (j := L) (by omega) (by decide) d_Cache_holds_5 ?_
  refine lv_if_eq (tgt := 13) hx hb d_Cache_holds_6 rfl (fun h => absurd h h1) (fun _ => ?_)
  refine lv_iconst (v := nI 1) hx hb d_Cache_holds_9 (by decide) ?_
  refine lv_goto (tgt := 14) hx hb d_Cache_holds_10 rfl ?_
  exact mk_zret hx hb hr hlocks hK hP hD hS d_Cache_holds_14 (by decide) rfl rfl
set_option maxRecDepth 100000 in
set_option maxHeartbeats 4000000 in
theorem c_holds_0 (l : Launch) (D : va_G) (cI cO : ClassId) (aC aM a1 a2 a3 wy : Nat) (us : Int32) (st : Nat → Int32) (L : Nat) (hL : L < 8) (h1 : st L = 0) : mk_M l y_Cache_holds w_Cache_holds ({ frames := 0, cells := 0, slots := 0, locals := 0 } : Room) D (tysK cI cO) [.ref aC, .int (nI L)] [(aC, .inr (0, [.ref aM, .int (nI wy), .ref a1, .ref a2, .ref a3, .int us])), (a1, .inl (cI, 8, .inl st))] (mk_Qi D (tysK cI cO) (nI 0) [(aC, .inr (0, [.ref aM, .int (nI wy), .ref a1, .ref a2, .ref a3, .int us])), (a1, .inl (cI, 8, .inl st))]) := by
  refine mk_start (cc := b_Cache_holds) (maxL := 2) (ret := (some FieldType.boolean)) (by decide) (Nat.le_of_ble_eq_true rfl) (fun p e s m below meth c A ls H locs hx hb hml hr hlocks hnm hts hN hown hK hP hD hA hl hS => ?_)
  have hl : lv_has ls 2 [(0, .ref aC), (1, .int (nI L))] := hl
  refine lv_aload_n hx hb d_Cache_holds_0 rfl (lv_at hl 0 rfl) ?_
  refine va_get (D := D) (ci := 0) (v := .ref a1) (C := R_Cache) (T := T_Cache) (N := 6) hx hb hts in_Cache hown hK hP 0 rfl rfl 2 (by decide) (hts _ iw_63) (fun _ h9 => h9) rfl d_Cache_holds_1 ?_
  refine lv_iload_n hx hb d_Cache_holds_4 rfl (lv_at hl 1 rfl) ?_
  refine mk_iald hx hb hK hP 1 0 rfl rfl (j := L) (by omega) (by decide) d_Cache_holds_5 ?_
  refine lv_if_eq (tgt := 13) hx hb d_Cache_holds_6 rfl (fun _ => ?_) (fun h => absurd h1 h)
  refine lv_iconst (v := nI 0) hx hb d_Cache_holds_13 (by decide) ?_
  exact mk_zret hx hb hr hlocks hK hP hD hS d_Cache_holds_14 (by decide) rfl rfl
set_option maxRecDepth 100000 in
set_option maxHeartbeats 4000000 in
theorem c_owns_1 (l : Launch) (D : va_G) (cI cO : ClassId) (aC aM a1 a2 a3 wy : Nat) (us : Int32) (st : Nat → Int32) (L : Nat) (hL : L < 8) (h1 : st L = nI 2 ∨ st L = nI 3) : mk_M l y_Cache_owns w_Cache_owns ({ frames := 0, cells := 0, slots := 0, locals := 0 } : Room) D (tysK cI cO) [.ref aC, .int (nI L)] [(aC, .inr (0, [.ref aM, .int (nI wy), .ref a1, .ref a2, .ref a3, .int us])), (a1, .inl (cI, 8, .inl st))] (mk_Qi D (tysK cI cO) (nI 1) [(aC, .inr (0, [.ref aM, .int (nI wy), .ref a1, .ref a2, .ref a3, .int us])), (a1, .inl (cI, 8, .inl st))]) := by
  refine mk_start (cc := b_Cache_owns) (maxL := 2) (ret := (some FieldType.boolean)) (by decide) (Nat.le_of_ble_eq_true rfl) (fun p e s m below meth c A ls H locs hx hb hml hr hlocks hnm hts hN hown hK hP hD hA hl hS => ?_)
  have hl : lv_has ls 2 [(0, .ref aC), (1, .int (nI L))] := hl
  refine lv_aload_n hx hb d_Cache_owns_0 rfl (lv_at hl 0 rfl) ?_
  refine va_get (D := D) (ci := 0) (v := .ref a1) (C := R_Cache) (T := T_Cache) (N := 6) hx hb hts in_Cache hown hK hP 0 rfl rfl 2 (by decide) (hts _ iw_63) (fun _ h9 => h9) rfl d_Cache_owns_1 ?_
  refine lv_iload_n hx hb d_Cache_owns_4 rfl (lv_at hl 1 rfl) ?_
  refine mk_iald hx hb hK hP 1 0 rfl rfl (j := L) (by omega) (by decide) d_Cache_owns_5 ?_
  refine lv_iconst (v := nI 2) hx hb d_Cache_owns_6 (by decide) ?_
  refine lv_icmp_eq (tgt := 20) hx hb d_Cache_owns_7 rfl (fun h7 => ?_) (fun h7 => ?_)
  · refine lv_iconst (v := nI 1) hx hb d_Cache_owns_20 (by decide) ?_
    refine lv_goto (tgt := 25) hx hb d_Cache_owns_21 rfl ?_
    exact mk_zret hx hb hr hlocks hK hP hD hS d_Cache_owns_25 (by decide) rfl rfl
  · refine lv_aload_n hx hb d_Cache_owns_10 rfl (lv_at hl 0 rfl) ?_
    refine va_get (D := D) (ci := 0) (v := .ref a1) (C := R_Cache) (T := T_Cache) (N := 6) hx hb hts in_Cache hown hK hP 0 rfl rfl 2 (by decide) (hts _ iw_63) (fun _ h9 => h9) rfl d_Cache_owns_11 ?_
    refine lv_iload_n hx hb d_Cache_owns_14 rfl (lv_at hl 1 rfl) ?_
    refine mk_iald hx hb hK hP 1 0 rfl rfl (j := L) (by omega) (by decide) d_Cache_owns_15 ?_
    refine lv_iconst (v := nI 3) hx hb d_Cache_owns_16 (by decide) ?_
    refine lv_icmp_ne (tgt := 24) hx hb d_Cache_owns_17 rfl (fun h => absurd (h1.resolve_left h7) h) (fun _ => ?_)
    refine lv_iconst (v := nI 1) hx hb d_Cache_owns_20 (by decide) ?_
    refine lv_goto (tgt := 25) hx hb d_Cache_owns_21 rfl ?_
    exact mk_zret hx hb hr hlocks hK hP hD hS d_Cache_owns_25 (by decide) rfl rfl
set_option maxRecDepth 100000 in
set_option maxHeartbeats 4000000 in
theorem c_owns_0 (l : Launch) (D : va_G) (cI cO : ClassId) (aC aM a1 a2 a3 wy : Nat) (us : Int32) (st : Nat → Int32) (L : Nat) (hL : L < 8) (h1 : ¬ st L = nI 2) (h2 : ¬ st L = nI 3) : mk_M l y_Cache_owns w_Cache_owns ({ frames := 0, cells := 0, slots := 0, locals := 0 } : Room) D (tysK cI cO) [.ref aC, .int (nI L)] [(aC, .inr (0, [.ref aM, .int (nI wy), .ref a1, .ref a2, .ref a3, .int us])), (a1, .inl (cI, 8, .inl st))] (mk_Qi D (tysK cI cO) (nI 0) [(aC, .inr (0, [.ref aM, .int (nI wy), .ref a1, .ref a2, .ref a3, .int us])), (a1, .inl (cI, 8, .inl st))]) := by
  refine mk_start (cc := b_Cache_owns) (maxL := 2) (ret := (some FieldType.boolean)) (by decide) (Nat.le_of_ble_eq_true rfl) (fun p e s m below meth c A ls H locs hx hb hml hr hlocks hnm hts hN hown hK hP hD hA hl hS => ?_)
  have hl : lv_has ls 2 [(0, .ref aC), (1, .int (nI L))] := hl
  refine lv_aload_n hx hb d_Cache_owns_0 rfl (lv_at hl 0 rfl) ?_
  refine va_get (D := D) (ci := 0) (v := .ref a1) (C := R_Cache) (T := T_Cache) (N := 6) hx hb hts in_Cache hown hK hP 0 rfl rfl 2 (by decide) (hts _ iw_63) (fun _ h9 => h9) rfl d_Cache_owns_1 ?_
  refine lv_iload_n hx hb d_Cache_owns_4 rfl (lv_at hl 1 rfl) ?_
  refine mk_iald hx hb hK hP 1 0 rfl rfl (j := L) (by omega) (by decide) d_Cache_owns_5 ?_
  refine lv_iconst (v := nI 2) hx hb d_Cache_owns_6 (by decide) ?_
  refine lv_icmp_eq (tgt := 20) hx hb d_Cache_owns_7 rfl (fun h => absurd h h1) (fun _ => ?_)
  refine lv_aload_n hx hb d_Cache_owns_10 rfl (lv_at hl 0 rfl) ?_
  refine va_get (D := D) (ci := 0) (v := .ref a1) (C := R_Cache) (T := T_Cache) (N := 6) hx hb hts in_Cache hown hK hP 0 rfl rfl 2 (by decide) (hts _ iw_63) (fun _ h9 => h9) rfl d_Cache_owns_11 ?_
  refine lv_iload_n hx hb d_Cache_owns_14 rfl (lv_at hl 1 rfl) ?_
  refine mk_iald hx hb hK hP 1 0 rfl rfl (j := L) (by omega) (by decide) d_Cache_owns_15 ?_
  refine lv_iconst (v := nI 3) hx hb d_Cache_owns_16 (by decide) ?_
  refine lv_icmp_ne (tgt := 24) hx hb d_Cache_owns_17 rfl (fun _ => ?_) (fun h => absurd h h2)
  refine lv_iconst (v := nI 0) hx hb d_Cache_owns_24 (by decide) ?_
  exact mk_zret hx hb hr hlocks hK hP hD hS d_Cache_owns_25 (by decide) rfl rfl
set_option maxRecDepth 100000 in
set_option maxHeartbeats 4000000 in
theorem c_use (l : Launch) (D : va_G) (cI cO : ClassId) (aC aM a1 a2 a3 wy : Nat) (us : Int32) (ua : Nat → Int32) (L : Nat) (hL : L < 8) : mk_M l y_Cache_use w_Cache_use ({ frames := 0, cells := 0, slots := 0, locals := 0 } : Room) D (tysK cI cO) [.ref aC, .int (nI L)] [(aC, .inr (0, [.ref aM, .int (nI wy), .ref a1, .ref a2, .ref a3, .int us])), (a2, .inl (cI, 8, .inl ua))] (mk_Qv D (tysK cI cO) [(aC, .inr (0, [.ref aM, .int (nI wy), .ref a1, .ref a2, .ref a3, .int (us + nI 1)])), (a2, .inl (cI, 8, .inl (upd ua L (us + nI 1))))]) := by
  refine mk_start (cc := b_Cache_use) (maxL := 2) (ret := none) (by decide) (Nat.le_of_ble_eq_true rfl) (fun p e s m below meth c A ls H locs hx hb hml hr hlocks hnm hts hN hown hK hP hD hA hl hS => ?_)
  have hl : lv_has ls 2 [(0, .ref aC), (1, .int (nI L))] := hl
  refine lv_aload_n hx hb d_Cache_use_0 rfl (lv_at hl 0 rfl) ?_
  refine lv_dup hx hb d_Cache_use_1 rfl ?_
  refine va_get (D := D) (ci := 0) (v := .int us) (C := R_Cache) (T := T_Cache) (N := 6) hx hb hts in_Cache hown hK hP 0 rfl rfl 5 (by decide) (hts _ iw_101) (fun _ h9 => h9) rfl d_Cache_use_2 ?_
  refine lv_iconst (v := nI 1) hx hb d_Cache_use_5 (by decide) ?_
  refine lv_iadd hx hb d_Cache_use_6 ?_
  refine va_put (D := D) (ci := 0) (v := .int (us + (nI 1))) (ty := .int) (C := R_Cache) (T := T_Cache) (N := 6) hx hb hts in_Cache ty_Cache tyok_Cache nm_Cache hown hK hP hD hS 0 rfl rfl 5 (by decide) (hts _ iw_101) (fun _ h9 => h9) rfl (by decide +kernel) rfl rfl (Nat.le_of_ble_eq_true rfl) d_Cache_use_7 (fun H locs hP hD hS => ?_)
  have hP : va_P D vwCl [(aC, .inr (0, [.ref aM, .int (nI wy), .ref a1, .ref a2, .ref a3, .int (us + (nI 1))])), (a2, .inl (cI, 8, .inl ua))] H := hP
  have hD : va_D A [(aC, .inr (0, [.ref aM, .int (nI wy), .ref a1, .ref a2, .ref a3, .int (us + (nI 1))])), (a2, .inl (cI, 8, .inl ua))] := hD
  refine lv_aload_n hx hb d_Cache_use_10 rfl (lv_at hl 0 rfl) ?_
  refine va_get (D := D) (ci := 0) (v := .ref a2) (C := R_Cache) (T := T_Cache) (N := 6) hx hb hts in_Cache hown hK hP 0 rfl rfl 3 (by decide) (hts _ iw_64) (fun _ h9 => h9) rfl d_Cache_use_11 ?_
  refine lv_iload_n hx hb d_Cache_use_14 rfl (lv_at hl 1 rfl) ?_
  refine lv_aload_n hx hb d_Cache_use_15 rfl (lv_at hl 0 rfl) ?_
  refine va_get (D := D) (ci := 0) (v := .int (us + (nI 1))) (C := R_Cache) (T := T_Cache) (N := 6) hx hb hts in_Cache hown hK hP 0 rfl rfl 5 (by decide) (hts _ iw_101) (fun _ h9 => h9) rfl d_Cache_use_16 ?_
  refine mk_iast hx hb hK hP hD hS 1 0 rfl rfl (j := L) (by omega) (by decide) d_Cache_use_19 (fun H locs hP hD hS => ?_)
  have hP : va_P D vwCl [(aC, .inr (0, [.ref aM, .int (nI wy), .ref a1, .ref a2, .ref a3, .int (us + (nI 1))])), (a2, .inl (cI, 8, .inl (upd ua L (us + (nI 1)))))] H := hP
  have hD : va_D A [(aC, .inr (0, [.ref aM, .int (nI wy), .ref a1, .ref a2, .ref a3, .int (us + (nI 1))])), (a2, .inl (cI, 8, .inl (upd ua L (us + (nI 1)))))] := hD
  exact mk_vret hx hb hr hlocks hK hP hD hS d_Cache_use_20 rfl
set_option maxRecDepth 100000 in
set_option maxHeartbeats 4000000 in
theorem c_put (l : Launch) (D : va_G) (cI cO : ClassId) (aC aM a1 a2 a3 wy : Nat) (us : Int32) (st ua wd : Nat → Int32) (j : Nat) (x : Int32) (hj : j < 32) : mk_M l y_Cache_put w_Cache_put ({ frames := 1, cells := 0, slots := 0, locals := 21 } : Room) D (tysK cI cO) [.ref aC, .int (nI j), .int x] [(aC, .inr (0, [.ref aM, .int (nI wy), .ref a1, .ref a2, .ref a3, .int us])), (a1, .inl (cI, 8, .inl st)), (a2, .inl (cI, 8, .inl ua)), (a3, .inl (cI, 32, .inl wd))] (mk_Qv D (tysK cI cO) [(aC, .inr (0, [.ref aM, .int (nI wy), .ref a1, .ref a2, .ref a3, .int (us + nI 1)])), (a1, .inl (cI, 8, .inl (upd st (j / 4) (nI 3)))), (a2, .inl (cI, 8, .inl (upd ua (j / 4) (us + nI 1)))), (a3, .inl (cI, 32, .inl (upd wd j x)))]) := by
  refine mk_start (cc := b_Cache_put) (maxL := 4) (ret := none) (by decide) (Nat.le_of_ble_eq_true rfl) (fun p e s m below meth c A ls H locs hx hb hml hr hlocks hnm hts hN hown hK hP hD hA hl hS => ?_)
  have hl : lv_has ls 4 [(0, .ref aC), (1, .int (nI j)), (2, .int x)] := hl
  refine lv_iload_n hx hb d_Cache_put_0 rfl (lv_at hl 1 rfl) ?_
  refine mk_calli (X := [(aC, .inr (0, [.ref aM, .int (nI wy), .ref a1, .ref a2, .ref a3, .int us])), (a1, .inl (cI, 8, .inl st)), (a2, .inl (cI, 8, .inl ua)), (a3, .inl (cI, 32, .inl wd))]) (pl := []) (wc := []) (wr := [(aC, .inr (0, [.ref aM, .int (nI wy), .ref a1, .ref a2, .ref a3, .int us])), (a1, .inl (cI, 8, .inl st)), (a2, .inl (cI, 8, .inl ua)), (a3, .inl (cI, 32, .inl wd))]) (w1 := []) (X1 := [(aC, .inr (0, [.ref aM, .int (nI wy), .ref a1, .ref a2, .ref a3, .int us])), (a1, .inl (cI, 8, .inl st)), (a2, .inl (cI, 8, .inl ua)), (a3, .inl (cI, 32, .inl wd))]) hP hD hS hA [] [0, 1, 2, 3] [0, 1, 2, 3] rfl rfl rfl (by decide) (by decide) (by decide)
    (va_runSN (As := [.int (nI j)]) (rest := []) ⟨hx, hb, hml, hown, hts⟩ (c_lineOf l D cI cO j (by first | assumption | omega) H.size) ⟨va_cnB 1 hts g_Bus_lineOf rfl rfl rfl (hN _ in_w20) (hts _ iw_39) (by decide +kernel) ⟨by decide, by decide⟩, hts _ iw_94, trivial⟩ (mk_preS (X := [(aC, .inr (0, [.ref aM, .int (nI wy), .ref a1, .ref a2, .ref a3, .int us])), (a1, .inl (cI, 8, .inl st)), (a2, .inl (cI, 8, .inl ua)), (a3, .inl (cI, 32, .inl wd))]) (pl := []) hN hK hP hD [] (by decide) rfl) rfl rfl hl.1 rfl (lv_room (Nat.le_of_ble_eq_true rfl)) d_Cache_put_1 ⟨Nat.le_refl _, Nat.le_refl _⟩) (fun H locs hP hD hS => ?_)
  have hP : va_P D vwCl [(aC, .inr (0, [.ref aM, .int (nI wy), .ref a1, .ref a2, .ref a3, .int us])), (a1, .inl (cI, 8, .inl st)), (a2, .inl (cI, 8, .inl ua)), (a3, .inl (cI, 32, .inl wd))] H := hP
  have hD : va_D A [(aC, .inr (0, [.ref aM, .int (nI wy), .ref a1, .ref a2, .ref a3, .int us])), (a1, .inl (cI, 8, .inl st)), (a2, .inl (cI, 8, .inl ua)), (a3, .inl (cI, 32, .inl wd))] := hD
  refine lv_istore_n hx hb d_Cache_put_4 rfl hl (by decide) rfl (fun ls hl => ?_)
  have hl : lv_has ls 4 [(3, .int (nI (j / 4))), (0, .ref aC), (1, .int (nI j)), (2, .int x)] := hl
  refine lv_aload_n hx hb d_Cache_put_5 rfl (lv_at hl 1 rfl) ?_
  refine va_get (D := D) (ci := 0) (v := .ref a3) (C := R_Cache) (T := T_Cache) (N := 6) hx hb hts in_Cache hown hK hP 0 rfl rfl 4 (by decide) (hts _ iw_65) (fun _ h9 => h9) rfl d_Cache_put_6 ?_
  refine lv_iload_n hx hb d_Cache_put_9 rfl (lv_at hl 2 rfl) ?_
  refine lv_iload_n hx hb d_Cache_put_10 rfl (lv_at hl 3 rfl) ?_
  refine mk_iast hx hb hK hP hD hS 3 0 rfl rfl (j := j) (by omega) (by decide) d_Cache_put_11 (fun H locs hP hD hS => ?_)
  have hP : va_P D vwCl [(aC, .inr (0, [.ref aM, .int (nI wy), .ref a1, .ref a2, .ref a3, .int us])), (a1, .inl (cI, 8, .inl st)), (a2, .inl (cI, 8, .inl ua)), (a3, .inl (cI, 32, .inl (upd wd j x)))] H := hP
  have hD : va_D A [(aC, .inr (0, [.ref aM, .int (nI wy), .ref a1, .ref a2, .ref a3, .int us])), (a1, .inl (cI, 8, .inl st)), (a2, .inl (cI, 8, .inl ua)), (a3, .inl (cI, 32, .inl (upd wd j x)))] := hD
  refine lv_aload_n hx hb d_Cache_put_12 rfl (lv_at hl 1 rfl) ?_
  refine va_get (D := D) (ci := 0) (v := .ref a1) (C := R_Cache) (T := T_Cache) (N := 6) hx hb hts in_Cache hown hK hP 0 rfl rfl 2 (by decide) (hts _ iw_63) (fun _ h9 => h9) rfl d_Cache_put_13 ?_
  refine lv_iload_n hx hb d_Cache_put_16 rfl (lv_at hl 0 rfl) ?_
  refine lv_iconst (v := nI 3) hx hb d_Cache_put_17 (by decide) ?_
  refine mk_iast hx hb hK hP hD hS 1 0 rfl rfl (j := j / 4) (by omega) (by decide) d_Cache_put_18 (fun H locs hP hD hS => ?_)
  have hP : va_P D vwCl [(aC, .inr (0, [.ref aM, .int (nI wy), .ref a1, .ref a2, .ref a3, .int us])), (a1, .inl (cI, 8, .inl (upd st (j / 4) (nI 3)))), (a2, .inl (cI, 8, .inl ua)), (a3, .inl (cI, 32, .inl (upd wd j x)))] H := hP
  have hD : va_D A [(aC, .inr (0, [.ref aM, .int (nI wy), .ref a1, .ref a2, .ref a3, .int us])), (a1, .inl (cI, 8, .inl (upd st (j / 4) (nI 3)))), (a2, .inl (cI, 8, .inl ua)), (a3, .inl (cI, 32, .inl (upd wd j x)))] := hD
  refine lv_aload_n hx hb d_Cache_put_19 rfl (lv_at hl 1 rfl) ?_
  refine lv_iload_n hx hb d_Cache_put_20 rfl (lv_at hl 0 rfl) ?_
  refine mk_callv (X := [(aC, .inr (0, [.ref aM, .int (nI wy), .ref a1, .ref a2, .ref a3, .int us])), (a1, .inl (cI, 8, .inl (upd st (j / 4) (nI 3)))), (a2, .inl (cI, 8, .inl ua)), (a3, .inl (cI, 32, .inl (upd wd j x)))]) (pl := []) (wc := [(aC, .inr (0, [.ref aM, .int (nI wy), .ref a1, .ref a2, .ref a3, .int us])), (a2, .inl (cI, 8, .inl ua))]) (wr := [(a1, .inl (cI, 8, .inl (upd st (j / 4) (nI 3)))), (a3, .inl (cI, 32, .inl (upd wd j x)))]) (w1 := [(aC, .inr (0, [.ref aM, .int (nI wy), .ref a1, .ref a2, .ref a3, .int (us + nI 1)])), (a2, .inl (cI, 8, .inl (upd ua (j / 4) (us + nI 1))))]) (X1 := [(aC, .inr (0, [.ref aM, .int (nI wy), .ref a1, .ref a2, .ref a3, .int (us + nI 1)])), (a1, .inl (cI, 8, .inl (upd st (j / 4) (nI 3)))), (a2, .inl (cI, 8, .inl (upd ua (j / 4) (us + nI 1)))), (a3, .inl (cI, 32, .inl (upd wd j x)))]) hP hD hS hA [0, 2] [1, 3] [2, 0, 3, 1] rfl rfl rfl (by decide) (by decide) (by decide)
    (va_runV (b := aC) (As := [.int (nI (j / 4))]) (rest := []) ⟨hx, hb, hml, hown, hts⟩ (c_use l D cI cO aC aM a1 a2 a3 wy us ua (j / 4) (by first | assumption | omega) H.size) ⟨callB_of 1 hts g_Cache_use rfl rfl rfl (hts _ iw_40) (hts _ iw_132) (by decide +kernel) ⟨by decide, by decide⟩, hts _ iw_99, hts _ iw_100⟩ (mk_preV (X := [(aC, .inr (0, [.ref aM, .int (nI wy), .ref a1, .ref a2, .ref a3, .int us])), (a1, .inl (cI, 8, .inl (upd st (j / 4) (nI 3)))), (a2, .inl (cI, 8, .inl ua)), (a3, .inl (cI, 32, .inl (upd wd j x)))]) (pl := []) hN hK hP hD [0, 2] (by decide) rfl 0 rfl rfl rfl) rfl rfl hl.1 rfl (lv_room (Nat.le_of_ble_eq_true rfl)) d_Cache_put_21 ⟨Nat.le_refl _, Nat.le_refl _⟩) (fun H locs hP hD hS => ?_)
  have hP : va_P D vwCl [(aC, .inr (0, [.ref aM, .int (nI wy), .ref a1, .ref a2, .ref a3, .int (us + nI 1)])), (a1, .inl (cI, 8, .inl (upd st (j / 4) (nI 3)))), (a2, .inl (cI, 8, .inl (upd ua (j / 4) (us + nI 1)))), (a3, .inl (cI, 32, .inl (upd wd j x)))] H := hP
  have hD : va_D A [(aC, .inr (0, [.ref aM, .int (nI wy), .ref a1, .ref a2, .ref a3, .int (us + nI 1)])), (a1, .inl (cI, 8, .inl (upd st (j / 4) (nI 3)))), (a2, .inl (cI, 8, .inl (upd ua (j / 4) (us + nI 1)))), (a3, .inl (cI, 32, .inl (upd wd j x)))] := hD
  exact mk_vret hx hb hr hlocks hK hP hD hS d_Cache_put_24 rfl
set_option maxRecDepth 100000 in
set_option maxHeartbeats 4000000 in
theorem c_wbm (l : Launch) (D : va_G) (cI cO : ClassId) (aC aM a1 a2 a3 wy : Nat) (us : Int32) (aW : Nat) (wb : Int32) (st wd mw : Nat → Int32) (L : Nat) (hL : L < 8) : mk_M l y_Cache_writeBackIfModified w_Cache_writeBackIfModified ({ frames := 1, cells := 0, slots := 0, locals := 40 } : Room) D (tysK cI cO) [.ref aC, .int (nI L)] [(aC, .inr (0, [.ref aM, .int (nI wy), .ref a1, .ref a2, .ref a3, .int us])), (a1, .inl (cI, 8, .inl st)), (a3, .inl (cI, 32, .inl wd)), (aM, .inr (2, [.ref aW, .int wb])), (aW, .inl (cI, 32, .inl mw))] (mk_Qv D (tysK cI cO) [(aC, .inr (0, [.ref aM, .int (nI wy), .ref a1, .ref a2, .ref a3, .int us])), (a1, .inl (cI, 8, .inl st)), (a3, .inl (cI, 32, .inl wd)), (aM, .inr (2, [.ref aW, .int (cw_cnt st wb L)])), (aW, .inl (cI, 32, .inl (cw_mem st wd mw L)))]) := by
  refine mk_start (cc := b_Cache_writeBackIfModified) (maxL := 3) (ret := none) (by decide) (Nat.le_of_ble_eq_true rfl) (fun p e s m below meth c A ls H locs hx hb hml hr hlocks hnm hts hN hown hK hP hD hA hl hS => ?_)
  have hl : lv_has ls 3 [(0, .ref aC), (1, .int (nI L))] := hl
  refine lv_aload_n hx hb d_Cache_writeBackIfModified_0 rfl (lv_at hl 0 rfl) ?_
  refine va_get (D := D) (ci := 0) (v := .ref a1) (C := R_Cache) (T := T_Cache) (N := 6) hx hb hts in_Cache hown hK hP 0 rfl rfl 2 (by decide) (hts _ iw_63) (fun _ h9 => h9) rfl d_Cache_writeBackIfModified_1 ?_
  refine lv_iload_n hx hb d_Cache_writeBackIfModified_4 rfl (lv_at hl 1 rfl) ?_
  refine mk_iald hx hb hK hP 1 0 rfl rfl (j := L) (by omega) (by decide) d_Cache_writeBackIfModified_5 ?_
  refine lv_iconst (v := nI 3) hx hb d_Cache_writeBackIfModified_6 (by decide) ?_
  refine lv_icmp_ne (tgt := 44) hx hb d_Cache_writeBackIfModified_7 rfl (fun h7 => ?_) (fun h7 => ?_)
  · exact mk_vret hx hb hr hlocks hK hP hD hS d_Cache_writeBackIfModified_44 (by simp only [cw_cnt, cw_mem, if_neg h7])
  · refine lv_iload_n hx hb d_Cache_writeBackIfModified_10 rfl (lv_at hl 1 rfl) ?_
    refine lv_iconst (v := nI 4) hx hb d_Cache_writeBackIfModified_11 (by decide) ?_
    refine lv_imul hx hb d_Cache_writeBackIfModified_12 ?_
    refine mk_top (show _ = nI (L * 4) from pk_mul _ _) ?_
    refine lv_istore_n hx hb d_Cache_writeBackIfModified_13 rfl hl (by decide) rfl (fun ls hl => ?_)
    have hl : lv_has ls 3 [(2, .int (nI (L * 4))), (0, .ref aC), (1, .int (nI L))] := hl
    refine lv_aload_n hx hb d_Cache_writeBackIfModified_14 rfl (lv_at hl 1 rfl) ?_
    refine va_get (D := D) (ci := 0) (v := .ref a3) (C := R_Cache) (T := T_Cache) (N := 6) hx hb hts in_Cache hown hK hP 0 rfl rfl 4 (by decide) (hts _ iw_65) (fun _ h9 => h9) rfl d_Cache_writeBackIfModified_15 ?_
    refine lv_iload_n hx hb d_Cache_writeBackIfModified_18 rfl (lv_at hl 0 rfl) ?_
    refine lv_aload_n hx hb d_Cache_writeBackIfModified_19 rfl (lv_at hl 1 rfl) ?_
    refine va_get (D := D) (ci := 0) (v := .ref aM) (C := R_Cache) (T := T_Cache) (N := 6) hx hb hts in_Cache hown hK hP 0 rfl rfl 0 (by decide) (hts _ iw_66) (fun _ h9 => h9) rfl d_Cache_writeBackIfModified_20 ?_
    refine va_getN (D := D) (ci := 2) (v := .ref aW) (C := R_Mem) (T := T_Mem) (N := 2) hx hb hts in_Mem hown hK hP 3 rfl rfl 0 (by decide) (va_Nw.use rfl (hN _ in_w27)) (fun _ h9 => h9) rfl d_Cache_writeBackIfModified_23 ?_
    refine lv_iload_n hx hb d_Cache_writeBackIfModified_26 rfl (lv_at hl 0 rfl) ?_
    refine lv_iconst (v := nI 4) hx hb d_Cache_writeBackIfModified_27 (by decide) ?_
    refine mk_copy hx hb (hml.trans hl.1.symm) hown (hts _ iw_170) (hts _ iw_366) (hts _ iw_367) (hts _ iw_368) hK hP hD hS 2 4 0 rfl rfl rfl (sp := L * 4) (dp := L * 4) (n := 4) (by omega) (by omega) (by decide) (by decide) (Nat.le_of_ble_eq_true rfl) (Nat.le_of_ble_eq_true rfl) d_Cache_writeBackIfModified_28 (fun H locs hP hD hS => ?_)
    have hP : va_P D vwCl [(aC, .inr (0, [.ref aM, .int (nI wy), .ref a1, .ref a2, .ref a3, .int us])), (a1, .inl (cI, 8, .inl st)), (a3, .inl (cI, 32, .inl wd)), (aM, .inr (2, [.ref aW, .int wb])), (aW, .inl (cI, 32, .inl (va_cpy wd mw (L * 4) (L * 4) 4)))] H := hP
    have hD : va_D A [(aC, .inr (0, [.ref aM, .int (nI wy), .ref a1, .ref a2, .ref a3, .int us])), (a1, .inl (cI, 8, .inl st)), (a3, .inl (cI, 32, .inl wd)), (aM, .inr (2, [.ref aW, .int wb])), (aW, .inl (cI, 32, .inl (va_cpy wd mw (L * 4) (L * 4) 4)))] := hD
    refine lv_aload_n hx hb d_Cache_writeBackIfModified_31 rfl (lv_at hl 1 rfl) ?_
    refine va_get (D := D) (ci := 0) (v := .ref aM) (C := R_Cache) (T := T_Cache) (N := 6) hx hb hts in_Cache hown hK hP 0 rfl rfl 0 (by decide) (hts _ iw_66) (fun _ h9 => h9) rfl d_Cache_writeBackIfModified_32 ?_
    refine lv_dup hx hb d_Cache_writeBackIfModified_35 rfl ?_
    refine va_getN (D := D) (ci := 2) (v := .int wb) (C := R_Mem) (T := T_Mem) (N := 2) hx hb hts in_Mem hown hK hP 3 rfl rfl 1 (by decide) (va_Nw.use rfl (hN _ in_w28)) (fun _ h9 => h9) rfl d_Cache_writeBackIfModified_36 ?_
    refine lv_iconst (v := nI 1) hx hb d_Cache_writeBackIfModified_39 (by decide) ?_
    refine lv_iadd hx hb d_Cache_writeBackIfModified_40 ?_
    refine va_putN (D := D) (ci := 2) (v := .int (wb + (nI 1))) (ty := .int) (C := R_Mem) (T := T_Mem) (N := 2) hx hb hts in_Mem ty_Mem tyok_Mem nm_Mem hown hK hP hD hS 3 rfl rfl 1 (by decide) (va_Nw.use rfl (hN _ in_w28)) (fun _ h9 => h9) rfl (by decide +kernel) rfl rfl (Nat.le_of_ble_eq_true rfl) d_Cache_writeBackIfModified_41 (fun H locs hP hD hS => ?_)
    have hP : va_P D vwCl [(aC, .inr (0, [.ref aM, .int (nI wy), .ref a1, .ref a2, .ref a3, .int us])), (a1, .inl (cI, 8, .inl st)), (a3, .inl (cI, 32, .inl wd)), (aM, .inr (2, [.ref aW, .int (wb + (nI 1))])), (aW, .inl (cI, 32, .inl (va_cpy wd mw (L * 4) (L * 4) 4)))] H := hP
    have hD : va_D A [(aC, .inr (0, [.ref aM, .int (nI wy), .ref a1, .ref a2, .ref a3, .int us])), (a1, .inl (cI, 8, .inl st)), (a3, .inl (cI, 32, .inl wd)), (aM, .inr (2, [.ref aW, .int (wb + (nI 1))])), (aW, .inl (cI, 32, .inl (va_cpy wd mw (L * 4) (L * 4) 4)))] := hD
    exact mk_vret hx hb hr hlocks hK hP hD hS d_Cache_writeBackIfModified_44 (by simp only [cw_cnt, cw_mem, if_pos h7])
set_option maxRecDepth 100000 in
set_option maxHeartbeats 4000000 in
theorem c_drop (l : Launch) (D : va_G) (cI cO : ClassId) (aC aM a1 a2 a3 wy : Nat) (us : Int32) (aW : Nat) (wb : Int32) (st wd mw : Nat → Int32) (L : Nat) (hL : L < 8) : mk_M l y_Cache_drop w_Cache_drop ({ frames := 2, cells := 0, slots := 0, locals := 62 } : Room) D (tysK cI cO) [.ref aC, .int (nI L)] [(aC, .inr (0, [.ref aM, .int (nI wy), .ref a1, .ref a2, .ref a3, .int us])), (a1, .inl (cI, 8, .inl st)), (a3, .inl (cI, 32, .inl wd)), (aM, .inr (2, [.ref aW, .int wb])), (aW, .inl (cI, 32, .inl mw))] (mk_Qv D (tysK cI cO) [(aC, .inr (0, [.ref aM, .int (nI wy), .ref a1, .ref a2, .ref a3, .int us])), (a1, .inl (cI, 8, .inl (upd st L (nI 0)))), (a3, .inl (cI, 32, .inl wd)), (aM, .inr (2, [.ref aW, .int (cw_cnt st wb L)])), (aW, .inl (cI, 32, .inl (cw_mem st wd mw L)))]) := by
  refine mk_start (cc := b_Cache_drop) (maxL := 2) (ret := none) (by decide) (Nat.le_of_ble_eq_true rfl) (fun p e s m below meth c A ls H locs hx hb hml hr hlocks hnm hts hN hown hK hP hD hA hl hS => ?_)
  have hl : lv_has ls 2 [(0, .ref aC), (1, .int (nI L))] := hl
  refine lv_aload_n hx hb d_Cache_drop_0 rfl (lv_at hl 0 rfl) ?_
  refine lv_iload_n hx hb d_Cache_drop_1 rfl (lv_at hl 1 rfl) ?_
  refine mk_callv (X := [(aC, .inr (0, [.ref aM, .int (nI wy), .ref a1, .ref a2, .ref a3, .int us])), (a1, .inl (cI, 8, .inl st)), (a3, .inl (cI, 32, .inl wd)), (aM, .inr (2, [.ref aW, .int wb])), (aW, .inl (cI, 32, .inl mw))]) (pl := []) (wc := [(aC, .inr (0, [.ref aM, .int (nI wy), .ref a1, .ref a2, .ref a3, .int us])), (a1, .inl (cI, 8, .inl st)), (a3, .inl (cI, 32, .inl wd)), (aM, .inr (2, [.ref aW, .int wb])), (aW, .inl (cI, 32, .inl mw))]) (wr := []) (w1 := [(aC, .inr (0, [.ref aM, .int (nI wy), .ref a1, .ref a2, .ref a3, .int us])), (a1, .inl (cI, 8, .inl st)), (a3, .inl (cI, 32, .inl wd)), (aM, .inr (2, [.ref aW, .int (cw_cnt st wb L)])), (aW, .inl (cI, 32, .inl (cw_mem st wd mw L)))]) (X1 := [(aC, .inr (0, [.ref aM, .int (nI wy), .ref a1, .ref a2, .ref a3, .int us])), (a1, .inl (cI, 8, .inl st)), (a3, .inl (cI, 32, .inl wd)), (aM, .inr (2, [.ref aW, .int (cw_cnt st wb L)])), (aW, .inl (cI, 32, .inl (cw_mem st wd mw L)))]) hP hD hS hA [0, 1, 2, 3, 4] [] [0, 1, 2, 3, 4] rfl rfl rfl (by decide) (by decide) (by decide)
    (va_runV (b := aC) (As := [.int (nI L)]) (rest := []) ⟨hx, hb, hml, hown, hts⟩ (c_wbm l D cI cO aC aM a1 a2 a3 wy us aW wb st wd mw L (by first | assumption | omega) H.size) ⟨callB_of 1 hts g_Cache_writeBackIfModified rfl rfl rfl (hts _ iw_40) (hts _ iw_166) (by decide +kernel) ⟨by decide, by decide⟩, hts _ iw_168, hts _ iw_169⟩ (mk_preV (X := [(aC, .inr (0, [.ref aM, .int (nI wy), .ref a1, .ref a2, .ref a3, .int us])), (a1, .inl (cI, 8, .inl st)), (a3, .inl (cI, 32, .inl wd)), (aM, .inr (2, [.ref aW, .int wb])), (aW, .inl (cI, 32, .inl mw))]) (pl := []) hN hK hP hD [0, 1, 2, 3, 4] (by decide) rfl 0 rfl rfl rfl) rfl rfl hl.1 rfl (lv_room (Nat.le_of_ble_eq_true rfl)) d_Cache_drop_2 ⟨Nat.le_refl _, Nat.le_refl _⟩) (fun H locs hP hD hS => ?_)
  have hP : va_P D vwCl [(aC, .inr (0, [.ref aM, .int (nI wy), .ref a1, .ref a2, .ref a3, .int us])), (a1, .inl (cI, 8, .inl st)), (a3, .inl (cI, 32, .inl wd)), (aM, .inr (2, [.ref aW, .int (cw_cnt st wb L)])), (aW, .inl (cI, 32, .inl (cw_mem st wd mw L)))] H := hP
  have hD : va_D A [(aC, .inr (0, [.ref aM, .int (nI wy), .ref a1, .ref a2, .ref a3, .int us])), (a1, .inl (cI, 8, .inl st)), (a3, .inl (cI, 32, .inl wd)), (aM, .inr (2, [.ref aW, .int (cw_cnt st wb L)])), (aW, .inl (cI, 32, .inl (cw_mem st wd mw L)))] := hD
  refine lv_aload_n hx hb d_Cache_drop_5 rfl (lv_at hl 0 rfl) ?_
  refine va_get (D := D) (ci := 0) (v := .ref a1) (C := R_Cache) (T := T_Cache) (N := 6) hx hb hts in_Cache hown hK hP 0 rfl rfl 2 (by decide) (hts _ iw_63) (fun _ h9 => h9) rfl d_Cache_drop_6 ?_
  refine lv_iload_n hx hb d_Cache_drop_9 rfl (lv_at hl 1 rfl) ?_
  refine lv_iconst (v := nI 0) hx hb d_Cache_drop_10 (by decide) ?_
  refine mk_iast hx hb hK hP hD hS 1 0 rfl rfl (j := L) (by omega) (by decide) d_Cache_drop_11 (fun H locs hP hD hS => ?_)
  have hP : va_P D vwCl [(aC, .inr (0, [.ref aM, .int (nI wy), .ref a1, .ref a2, .ref a3, .int us])), (a1, .inl (cI, 8, .inl (upd st L (nI 0)))), (a3, .inl (cI, 32, .inl wd)), (aM, .inr (2, [.ref aW, .int (cw_cnt st wb L)])), (aW, .inl (cI, 32, .inl (cw_mem st wd mw L)))] H := hP
  have hD : va_D A [(aC, .inr (0, [.ref aM, .int (nI wy), .ref a1, .ref a2, .ref a3, .int us])), (a1, .inl (cI, 8, .inl (upd st L (nI 0)))), (a3, .inl (cI, 32, .inl wd)), (aM, .inr (2, [.ref aW, .int (cw_cnt st wb L)])), (aW, .inl (cI, 32, .inl (cw_mem st wd mw L)))] := hD
  exact mk_vret hx hb hr hlocks hK hP hD hS d_Cache_drop_12 rfl
set_option maxRecDepth 100000 in
set_option maxHeartbeats 4000000 in
theorem c_share (l : Launch) (D : va_G) (cI cO : ClassId) (aC aM a1 a2 a3 wy : Nat) (us : Int32) (aW : Nat) (wb : Int32) (st wd mw : Nat → Int32) (L : Nat) (hL : L < 8) : mk_M l y_Cache_share w_Cache_share ({ frames := 2, cells := 0, slots := 0, locals := 62 } : Room) D (tysK cI cO) [.ref aC, .int (nI L)] [(aC, .inr (0, [.ref aM, .int (nI wy), .ref a1, .ref a2, .ref a3, .int us])), (a1, .inl (cI, 8, .inl st)), (a3, .inl (cI, 32, .inl wd)), (aM, .inr (2, [.ref aW, .int wb])), (aW, .inl (cI, 32, .inl mw))] (mk_Qv D (tysK cI cO) [(aC, .inr (0, [.ref aM, .int (nI wy), .ref a1, .ref a2, .ref a3, .int us])), (a1, .inl (cI, 8, .inl (upd st L (nI 1)))), (a3, .inl (cI, 32, .inl wd)), (aM, .inr (2, [.ref aW, .int (cw_cnt st wb L)])), (aW, .inl (cI, 32, .inl (cw_mem st wd mw L)))]) := by
  refine mk_start (cc := b_Cache_share) (maxL := 2) (ret := none) (by decide) (Nat.le_of_ble_eq_true rfl) (fun p e s m below meth c A ls H locs hx hb hml hr hlocks hnm hts hN hown hK hP hD hA hl hS => ?_)
  have hl : lv_has ls 2 [(0, .ref aC), (1, .int (nI L))] := hl
  refine lv_aload_n hx hb d_Cache_share_0 rfl (lv_at hl 0 rfl) ?_
  refine lv_iload_n hx hb d_Cache_share_1 rfl (lv_at hl 1 rfl) ?_
  refine mk_callv (X := [(aC, .inr (0, [.ref aM, .int (nI wy), .ref a1, .ref a2, .ref a3, .int us])), (a1, .inl (cI, 8, .inl st)), (a3, .inl (cI, 32, .inl wd)), (aM, .inr (2, [.ref aW, .int wb])), (aW, .inl (cI, 32, .inl mw))]) (pl := []) (wc := [(aC, .inr (0, [.ref aM, .int (nI wy), .ref a1, .ref a2, .ref a3, .int us])), (a1, .inl (cI, 8, .inl st)), (a3, .inl (cI, 32, .inl wd)), (aM, .inr (2, [.ref aW, .int wb])), (aW, .inl (cI, 32, .inl mw))]) (wr := []) (w1 := [(aC, .inr (0, [.ref aM, .int (nI wy), .ref a1, .ref a2, .ref a3, .int us])), (a1, .inl (cI, 8, .inl st)), (a3, .inl (cI, 32, .inl wd)), (aM, .inr (2, [.ref aW, .int (cw_cnt st wb L)])), (aW, .inl (cI, 32, .inl (cw_mem st wd mw L)))]) (X1 := [(aC, .inr (0, [.ref aM, .int (nI wy), .ref a1, .ref a2, .ref a3, .int us])), (a1, .inl (cI, 8, .inl st)), (a3, .inl (cI, 32, .inl wd)), (aM, .inr (2, [.ref aW, .int (cw_cnt st wb L)])), (aW, .inl (cI, 32, .inl (cw_mem st wd mw L)))]) hP hD hS hA [0, 1, 2, 3, 4] [] [0, 1, 2, 3, 4] rfl rfl rfl (by decide) (by decide) (by decide)
    (va_runV (b := aC) (As := [.int (nI L)]) (rest := []) ⟨hx, hb, hml, hown, hts⟩ (c_wbm l D cI cO aC aM a1 a2 a3 wy us aW wb st wd mw L (by first | assumption | omega) H.size) ⟨callB_of 1 hts g_Cache_writeBackIfModified rfl rfl rfl (hts _ iw_40) (hts _ iw_166) (by decide +kernel) ⟨by decide, by decide⟩, hts _ iw_168, hts _ iw_169⟩ (mk_preV (X := [(aC, .inr (0, [.ref aM, .int (nI wy), .ref a1, .ref a2, .ref a3, .int us])), (a1, .inl (cI, 8, .inl st)), (a3, .inl (cI, 32, .inl wd)), (aM, .inr (2, [.ref aW, .int wb])), (aW, .inl (cI, 32, .inl mw))]) (pl := []) hN hK hP hD [0, 1, 2, 3, 4] (by decide) rfl 0 rfl rfl rfl) rfl rfl hl.1 rfl (lv_room (Nat.le_of_ble_eq_true rfl)) d_Cache_share_2 ⟨Nat.le_refl _, Nat.le_refl _⟩) (fun H locs hP hD hS => ?_)
  have hP : va_P D vwCl [(aC, .inr (0, [.ref aM, .int (nI wy), .ref a1, .ref a2, .ref a3, .int us])), (a1, .inl (cI, 8, .inl st)), (a3, .inl (cI, 32, .inl wd)), (aM, .inr (2, [.ref aW, .int (cw_cnt st wb L)])), (aW, .inl (cI, 32, .inl (cw_mem st wd mw L)))] H := hP
  have hD : va_D A [(aC, .inr (0, [.ref aM, .int (nI wy), .ref a1, .ref a2, .ref a3, .int us])), (a1, .inl (cI, 8, .inl st)), (a3, .inl (cI, 32, .inl wd)), (aM, .inr (2, [.ref aW, .int (cw_cnt st wb L)])), (aW, .inl (cI, 32, .inl (cw_mem st wd mw L)))] := hD
  refine lv_aload_n hx hb d_Cache_share_5 rfl (lv_at hl 0 rfl) ?_
  refine va_get (D := D) (ci := 0) (v := .ref a1) (C := R_Cache) (T := T_Cache) (N := 6) hx hb hts in_Cache hown hK hP 0 rfl rfl 2 (by decide) (hts _ iw_63) (fun _ h9 => h9) rfl d_Cache_share_6 ?_
  refine lv_iload_n hx hb d_Cache_share_9 rfl (lv_at hl 1 rfl) ?_
  refine lv_iconst (v := nI 1) hx hb d_Cache_share_10 (by decide) ?_
  refine mk_iast hx hb hK hP hD hS 1 0 rfl rfl (j := L) (by omega) (by decide) d_Cache_share_11 (fun H locs hP hD hS => ?_)
  have hP : va_P D vwCl [(aC, .inr (0, [.ref aM, .int (nI wy), .ref a1, .ref a2, .ref a3, .int us])), (a1, .inl (cI, 8, .inl (upd st L (nI 1)))), (a3, .inl (cI, 32, .inl wd)), (aM, .inr (2, [.ref aW, .int (cw_cnt st wb L)])), (aW, .inl (cI, 32, .inl (cw_mem st wd mw L)))] H := hP
  have hD : va_D A [(aC, .inr (0, [.ref aM, .int (nI wy), .ref a1, .ref a2, .ref a3, .int us])), (a1, .inl (cI, 8, .inl (upd st L (nI 1)))), (a3, .inl (cI, 32, .inl wd)), (aM, .inr (2, [.ref aW, .int (cw_cnt st wb L)])), (aW, .inl (cI, 32, .inl (cw_mem st wd mw L)))] := hD
  exact mk_vret hx hb hr hlocks hK hP hD hS d_Cache_share_12 rfl
end
section
set_option maxRecDepth 100000 in
set_option maxHeartbeats 4000000 in
theorem c_leave (l : Launch) (D : va_G) (cI cO : ClassId) (aC aM a1 a2 a3 wy : Nat) (us : Int32) (st ua : Nat → Int32) (z : Nat) (hz : z < 2) (hw : wy < 4) : mk_M l y_Cache_lineToLeave w_Cache_lineToLeave ({ frames := 1, cells := 0, slots := 0, locals := 21 } : Room) D (tysK cI cO) [.ref aC, .int (nI z)] [(aC, .inr (0, [.ref aM, .int (nI wy), .ref a1, .ref a2, .ref a3, .int us])), (a1, .inl (cI, 8, .inl st)), (a2, .inl (cI, 8, .inl ua))] (mk_Qi D (tysK cI cO) (cl_on (cl_leave st ua wy z)) [(aC, .inr (0, [.ref aM, .int (nI wy), .ref a1, .ref a2, .ref a3, .int us])), (a1, .inl (cI, 8, .inl st)), (a2, .inl (cI, 8, .inl ua))]) := by
  refine mk_start (cc := b_Cache_lineToLeave) (maxL := 5) (ret := (some FieldType.int)) (by decide) (Nat.le_of_ble_eq_true rfl) (fun p e s m below meth c A ls H locs hx hb hml hr hlocks hnm hts hN hown hK hP hD hA hl hS => ?_)
  have hl : lv_has ls 5 [(0, .ref aC), (1, .int (nI z))] := hl
  refine lv_iconst (v := nI 0) hx hb d_Cache_lineToLeave_0 (by decide) ?_
  refine lv_istore_n hx hb d_Cache_lineToLeave_1 rfl hl (by decide) rfl (fun ls hl => ?_)
  have hl : lv_has ls 5 [(2, .int (nI 0)), (0, .ref aC), (1, .int (nI z))] := hl
  refine lv_iconst (v := (-1)) hx hb d_Cache_lineToLeave_2 (by decide) ?_
  refine lv_istore_n hx hb d_Cache_lineToLeave_3 rfl hl (by decide) rfl (fun ls hl => ?_)
  have hl : lv_has ls 5 [(3, .int (-1)), (2, .int (nI 0)), (0, .ref aC), (1, .int (nI z))] := hl
  refine lv_iload_n hx hb d_Cache_lineToLeave_4 rfl (lv_at hl 3 rfl) ?_
  refine lv_istore hx hb d_Cache_lineToLeave_5 hl (by decide) rfl (fun ls hl => ?_)
  have hl : lv_has ls 5 [(4, .int (nI z)), (3, .int (-1)), (2, .int (nI 0)), (0, .ref aC), (1, .int (nI z))] := hl
  have loop : ∀ (fu t : Nat) (ls : Array Slot) (H : Heap) (locs : List Loc), t + fu = 4 → lv_has ls 5 [(0, .ref aC), (1, .int (nI z)), (2, .int (nI ((cl_scan st ua z t).1))), (3, .int (cl_on (cl_scan st ua z t).2)), (4, .int (nI (z + 2 * t)))] → va_P D vwCl [(aC, .inr (0, [.ref aM, .int (nI wy), .ref a1, .ref a2, .ref a3, .int us])), (a1, .inl (cI, 8, .inl st)), (a2, .inl (cI, 8, .inl ua))] H → va_D A [(aC, .inr (0, [.ref aM, .int (nI wy), .ref a1, .ref a2, .ref a3, .int us])), (a1, .inl (cI, 8, .inl st)), (a2, .inl (cI, 8, .inl ua))] → va_S A s.heap H locs → W p l e ({ frames := 1, cells := 0, slots := 0, locals := 21 } : Room) s m [.ref aC, .int (nI z)].toArray below meth c H locs 0 0 (MQ below (mk_Qi D (tysK cI cO) (cl_on (cl_leave st ua wy z)) [(aC, .inr (0, [.ref aM, .int (nI wy), .ref a1, .ref a2, .ref a3, .int us])), (a1, .inl (cI, 8, .inl st)), (a2, .inl (cI, 8, .inl ua))] A) [.ref aC, .int (nI z)].toArray s 0 0 A) (F0 m 7 ls []) := by
    intro fu
    induction fu with
    | zero =>
      intro t ls H locs  ht  hl hP hD hS
      have ht1 : 4 = t := by omega
      subst ht1
      have hsc := cl_scan_le st ua z 4
      refine lv_iload hx hb d_Cache_lineToLeave_7 (lv_at hl 4 rfl) ?_
      refine lv_bipush (v := nI 8) hx hb d_Cache_lineToLeave_9 (by decide) ?_
      refine lv_icmp_ge (tgt := 56) hx hb d_Cache_lineToLeave_11 rfl (fun _ => ?_) (fun h => absurd ((nI_leI (by omega) (by omega)).mpr (by omega)) h)
      refine lv_iload_n hx hb d_Cache_lineToLeave_56 rfl (lv_at hl 2 rfl) ?_
      refine lv_aload_n hx hb d_Cache_lineToLeave_57 rfl (lv_at hl 0 rfl) ?_
      refine va_get (D := D) (ci := 0) (v := .int (nI wy)) (C := R_Cache) (T := T_Cache) (N := 6) hx hb hts in_Cache hown hK hP 0 rfl rfl 1 (by decide) (hts _ iw_67) (fun _ h9 => h9) rfl d_Cache_lineToLeave_58 ?_
      refine lv_icmp_ge (tgt := 68) hx hb d_Cache_lineToLeave_61 rfl (fun h61 => ?_) (fun h61 => ?_)
      · have n61 : wy ≤ ((cl_scan st ua z 4).1) := (nI_leI (by omega) (by omega)).mp h61
        refine lv_iload_n hx hb d_Cache_lineToLeave_68 rfl (lv_at hl 3 rfl) ?_
        exact mk_iret hx hb hr hlocks hK hP hD hS d_Cache_lineToLeave_69 (by simp only [cl_leave, if_neg (Nat.not_lt.mpr n61)]) rfl
      · have n61 : ¬ wy ≤ ((cl_scan st ua z 4).1) := fun q => h61 ((nI_leI (by omega) (by omega)).mpr q)
        refine lv_iconst (v := (-1)) hx hb d_Cache_lineToLeave_64 (by decide) ?_
        refine lv_goto (tgt := 69) hx hb d_Cache_lineToLeave_65 rfl ?_
        exact mk_iret hx hb hr hlocks hK hP hD hS d_Cache_lineToLeave_69 (by simp only [cl_leave, if_pos (Nat.lt_of_not_le n61)]; rfl) rfl
    | succ fu ih =>
      intro t ls H locs  ht  hl hP hD hS
      have ht0 : t < 4 := by omega
      refine lv_iload hx hb d_Cache_lineToLeave_7 (lv_at hl 4 rfl) ?_
      refine lv_bipush (v := nI 8) hx hb d_Cache_lineToLeave_9 (by decide) ?_
      refine lv_icmp_ge (tgt := 56) hx hb d_Cache_lineToLeave_11 rfl (fun h => absurd h (fun q => absurd ((nI_leI (by omega) (by omega)).mp q) (by omega))) (fun _ => ?_)
      refine lv_aload_n hx hb d_Cache_lineToLeave_14 rfl (lv_at hl 0 rfl) ?_
      refine lv_iload hx hb d_Cache_lineToLeave_15 (lv_at hl 4 rfl) ?_
      by_cases hz0 : st (z + 2 * t) = 0
      · refine mk_calli (X := [(aC, .inr (0, [.ref aM, .int (nI wy), .ref a1, .ref a2, .ref a3, .int us])), (a1, .inl (cI, 8, .inl st)), (a2, .inl (cI, 8, .inl ua))]) (pl := []) (wc := [(aC, .inr (0, [.ref aM, .int (nI wy), .ref a1, .ref a2, .ref a3, .int us])), (a1, .inl (cI, 8, .inl st))]) (wr := [(a2, .inl (cI, 8, .inl ua))]) (w1 := [(aC, .inr (0, [.ref aM, .int (nI wy), .ref a1, .ref a2, .ref a3, .int us])), (a1, .inl (cI, 8, .inl st))]) (X1 := [(aC, .inr (0, [.ref aM, .int (nI wy), .ref a1, .ref a2, .ref a3, .int us])), (a1, .inl (cI, 8, .inl st)), (a2, .inl (cI, 8, .inl ua))]) hP hD hS hA [0, 1] [2] [1, 2, 0] rfl rfl rfl (by decide) (by decide) (by decide)
          (va_runV (b := aC) (As := [.int (nI (z + 2 * t))]) (rest := []) ⟨hx, hb, hml, hown, hts⟩ (c_holds_0 l D cI cO aC aM a1 a2 a3 wy us st (z + 2 * t) (by omega) hz0 H.size) ⟨callB_of 1 hts g_Cache_holds rfl rfl rfl (hts _ iw_40) (hts _ iw_179) (by decide +kernel) ⟨by decide, by decide⟩, hts _ iw_96, hts _ iw_97⟩ (mk_preV (X := [(aC, .inr (0, [.ref aM, .int (nI wy), .ref a1, .ref a2, .ref a3, .int us])), (a1, .inl (cI, 8, .inl st)), (a2, .inl (cI, 8, .inl ua))]) (pl := []) hN hK hP hD [0, 1] (by decide) rfl 0 rfl rfl rfl) rfl rfl hl.1 rfl (lv_room (Nat.le_of_ble_eq_true rfl)) d_Cache_lineToLeave_17 ⟨Nat.le_refl _, Nat.le_refl _⟩) (fun H locs hP hD hS => ?_)
        have hP : va_P D vwCl [(aC, .inr (0, [.ref aM, .int (nI wy), .ref a1, .ref a2, .ref a3, .int us])), (a1, .inl (cI, 8, .inl st)), (a2, .inl (cI, 8, .inl ua))] H := hP
        have hD : va_D A [(aC, .inr (0, [.ref aM, .int (nI wy), .ref a1, .ref a2, .ref a3, .int us])), (a1, .inl (cI, 8, .inl st)), (a2, .inl (cI, 8, .inl ua))] := hD
        refine lv_if_eq (tgt := 50) hx hb d_Cache_lineToLeave_20 rfl (fun _ => ?_) (fun h => absurd (by decide) h)
        refine lv_iinc (k := 4) (v := nI ((z + 2 * t) + 2)) hx hb d_Cache_lineToLeave_50 hl rfl (nI_add _ 2) (by decide) rfl (fun ls hl => ?_)
        have hl : lv_has ls 5 [(4, .int (nI ((z + 2 * t) + 2))), (0, .ref aC), (1, .int (nI z)), (2, .int (nI ((cl_scan st ua z t).1))), (3, .int (cl_on (cl_scan st ua z t).2))] := hl
        refine lv_goto (tgt := 7) hx hb d_Cache_lineToLeave_53 rfl ?_
        have e1 : cl_scan st ua z (t + 1) = (cl_scan st ua z t) := by rw [cl_scan, if_pos hz0]
        refine ih (t + 1) ls H locs (by omega) ?_ ?_ ?_ hS
        · rw [e1, show z + 2 * (t + 1) = z + 2 * t + 2 by omega]; exact lv_sub hl [1, 2, 3, 4, 0] rfl
        · exact hP
        · exact hD
      · refine mk_calli (X := [(aC, .inr (0, [.ref aM, .int (nI wy), .ref a1, .ref a2, .ref a3, .int us])), (a1, .inl (cI, 8, .inl st)), (a2, .inl (cI, 8, .inl ua))]) (pl := []) (wc := [(aC, .inr (0, [.ref aM, .int (nI wy), .ref a1, .ref a2, .ref a3, .int us])), (a1, .inl (cI, 8, .inl st))]) (wr := [(a2, .inl (cI, 8, .inl ua))]) (w1 := [(aC, .inr (0, [.ref aM, .int (nI wy), .ref a1, .ref a2, .ref a3, .int us])), (a1, .inl (cI, 8, .inl st))]) (X1 := [(aC, .inr (0, [.ref aM, .int (nI wy), .ref a1, .ref a2, .ref a3, .int us])), (a1, .inl (cI, 8, .inl st)), (a2, .inl (cI, 8, .inl ua))]) hP hD hS hA [0, 1] [2] [1, 2, 0] rfl rfl rfl (by decide) (by decide) (by decide)
          (va_runV (b := aC) (As := [.int (nI (z + 2 * t))]) (rest := []) ⟨hx, hb, hml, hown, hts⟩ (c_holds_1 l D cI cO aC aM a1 a2 a3 wy us st (z + 2 * t) (by omega) hz0 H.size) ⟨callB_of 1 hts g_Cache_holds rfl rfl rfl (hts _ iw_40) (hts _ iw_179) (by decide +kernel) ⟨by decide, by decide⟩, hts _ iw_96, hts _ iw_97⟩ (mk_preV (X := [(aC, .inr (0, [.ref aM, .int (nI wy), .ref a1, .ref a2, .ref a3, .int us])), (a1, .inl (cI, 8, .inl st)), (a2, .inl (cI, 8, .inl ua))]) (pl := []) hN hK hP hD [0, 1] (by decide) rfl 0 rfl rfl rfl) rfl rfl hl.1 rfl (lv_room (Nat.le_of_ble_eq_true rfl)) d_Cache_lineToLeave_17 ⟨Nat.le_refl _, Nat.le_refl _⟩) (fun H locs hP hD hS => ?_)
        have hP : va_P D vwCl [(aC, .inr (0, [.ref aM, .int (nI wy), .ref a1, .ref a2, .ref a3, .int us])), (a1, .inl (cI, 8, .inl st)), (a2, .inl (cI, 8, .inl ua))] H := hP
        have hD : va_D A [(aC, .inr (0, [.ref aM, .int (nI wy), .ref a1, .ref a2, .ref a3, .int us])), (a1, .inl (cI, 8, .inl st)), (a2, .inl (cI, 8, .inl ua))] := hD
        refine lv_if_eq (tgt := 50) hx hb d_Cache_lineToLeave_20 rfl (fun h => absurd h (by decide)) (fun _ => ?_)
        refine lv_iinc (k := 2) (v := nI (((cl_scan st ua z t).1) + 1)) hx hb d_Cache_lineToLeave_23 hl rfl (nI_1 _) (by decide) rfl (fun ls hl => ?_)
        have hl : lv_has ls 5 [(2, .int (nI (((cl_scan st ua z t).1) + 1))), (0, .ref aC), (1, .int (nI z)), (3, .int (cl_on (cl_scan st ua z t).2)), (4, .int (nI (z + 2 * t)))] := hl
        rcases ho : (cl_scan st ua z t).2 with _ | o
        · rw [ho] at hl
          have hl : lv_has ls 5 [(2, .int (nI (((cl_scan st ua z t).1) + 1))), (0, .ref aC), (1, .int (nI z)), (3, .int (-1)), (4, .int (nI (z + 2 * t)))] := hl
          refine lv_iload_n hx hb d_Cache_lineToLeave_26 rfl (lv_at hl 3 rfl) ?_
          refine lv_iconst (v := (-1)) hx hb d_Cache_lineToLeave_27 (by decide) ?_
          refine lv_icmp_eq (tgt := 47) hx hb d_Cache_lineToLeave_28 rfl (fun _ => ?_) (fun h => absurd (by decide) h)
          refine lv_iload hx hb d_Cache_lineToLeave_47 (lv_at hl 4 rfl) ?_
          refine lv_istore_n hx hb d_Cache_lineToLeave_49 rfl hl (by decide) rfl (fun ls hl => ?_)
          have hl : lv_has ls 5 [(3, .int (nI (z + 2 * t))), (2, .int (nI (((cl_scan st ua z t).1) + 1))), (0, .ref aC), (1, .int (nI z)), (4, .int (nI (z + 2 * t)))] := hl
          refine lv_iinc (k := 4) (v := nI ((z + 2 * t) + 2)) hx hb d_Cache_lineToLeave_50 hl rfl (nI_add _ 2) (by decide) rfl (fun ls hl => ?_)
          have hl : lv_has ls 5 [(4, .int (nI ((z + 2 * t) + 2))), (3, .int (nI (z + 2 * t))), (2, .int (nI (((cl_scan st ua z t).1) + 1))), (0, .ref aC), (1, .int (nI z))] := hl
          refine lv_goto (tgt := 7) hx hb d_Cache_lineToLeave_53 rfl ?_
          have e1 : cl_scan st ua z (t + 1) = ((cl_scan st ua z t).1 + 1, some (z + 2 * t)) := by rw [cl_scan, if_neg hz0, ho]
          refine ih (t + 1) ls H locs (by omega) ?_ ?_ ?_ hS
          · rw [e1, show z + 2 * (t + 1) = z + 2 * t + 2 by omega]; exact lv_sub hl [3, 4, 2, 1, 0] rfl
          · exact hP
          · exact hD
        · have hlo := cl_scan_lt st ua z t o ho
          rw [ho] at hl
          have hl : lv_has ls 5 [(2, .int (nI (((cl_scan st ua z t).1) + 1))), (0, .ref aC), (1, .int (nI z)), (3, .int (nI o)), (4, .int (nI (z + 2 * t)))] := hl
          refine lv_iload_n hx hb d_Cache_lineToLeave_26 rfl (lv_at hl 3 rfl) ?_
          refine lv_iconst (v := (-1)) hx hb d_Cache_lineToLeave_27 (by decide) ?_
          refine lv_icmp_eq (tgt := 47) hx hb d_Cache_lineToLeave_28 rfl (fun h => absurd h (nI_m1 (by omega))) (fun _ => ?_)
          refine lv_aload_n hx hb d_Cache_lineToLeave_31 rfl (lv_at hl 1 rfl) ?_
          refine va_get (D := D) (ci := 0) (v := .ref a2) (C := R_Cache) (T := T_Cache) (N := 6) hx hb hts in_Cache hown hK hP 0 rfl rfl 3 (by decide) (hts _ iw_64) (fun _ h9 => h9) rfl d_Cache_lineToLeave_32 ?_
          refine lv_iload hx hb d_Cache_lineToLeave_35 (lv_at hl 4 rfl) ?_
          refine mk_iald hx hb hK hP 2 0 rfl rfl (j := z + 2 * t) (by omega) (by decide) d_Cache_lineToLeave_37 ?_
          refine lv_aload_n hx hb d_Cache_lineToLeave_38 rfl (lv_at hl 1 rfl) ?_
          refine va_get (D := D) (ci := 0) (v := .ref a2) (C := R_Cache) (T := T_Cache) (N := 6) hx hb hts in_Cache hown hK hP 0 rfl rfl 3 (by decide) (hts _ iw_64) (fun _ h9 => h9) rfl d_Cache_lineToLeave_39 ?_
          refine lv_iload_n hx hb d_Cache_lineToLeave_42 rfl (lv_at hl 3 rfl) ?_
          refine mk_iald hx hb hK hP 2 0 rfl rfl (j := o) (by omega) (by decide) d_Cache_lineToLeave_43 ?_
          refine lv_icmp_ge (tgt := 50) hx hb d_Cache_lineToLeave_44 rfl (fun h44 => ?_) (fun h44 => ?_)
          · have hlt : ¬ ua (z + 2 * t) < ua o := Int32.not_lt.mpr h44
            refine lv_iinc (k := 4) (v := nI ((z + 2 * t) + 2)) hx hb d_Cache_lineToLeave_50 hl rfl (nI_add _ 2) (by decide) rfl (fun ls hl => ?_)
            have hl : lv_has ls 5 [(4, .int (nI ((z + 2 * t) + 2))), (2, .int (nI (((cl_scan st ua z t).1) + 1))), (0, .ref aC), (1, .int (nI z)), (3, .int (nI o))] := hl
            refine lv_goto (tgt := 7) hx hb d_Cache_lineToLeave_53 rfl ?_
            have e1 : cl_scan st ua z (t + 1) = ((cl_scan st ua z t).1 + 1, some o) := by rw [cl_scan, if_neg hz0, ho]; simp only [if_neg hlt]
            refine ih (t + 1) ls H locs (by omega) ?_ ?_ ?_ hS
            · rw [e1, show z + 2 * (t + 1) = z + 2 * t + 2 by omega]; exact lv_sub hl [2, 3, 1, 4, 0] rfl
            · exact hP
            · exact hD
          · have hlt : ua (z + 2 * t) < ua o := Int32.not_le.mp h44
            refine lv_iload hx hb d_Cache_lineToLeave_47 (lv_at hl 4 rfl) ?_
            refine lv_istore_n hx hb d_Cache_lineToLeave_49 rfl hl (by decide) rfl (fun ls hl => ?_)
            have hl : lv_has ls 5 [(3, .int (nI (z + 2 * t))), (2, .int (nI (((cl_scan st ua z t).1) + 1))), (0, .ref aC), (1, .int (nI z)), (4, .int (nI (z + 2 * t)))] := hl
            refine lv_iinc (k := 4) (v := nI ((z + 2 * t) + 2)) hx hb d_Cache_lineToLeave_50 hl rfl (nI_add _ 2) (by decide) rfl (fun ls hl => ?_)
            have hl : lv_has ls 5 [(4, .int (nI ((z + 2 * t) + 2))), (3, .int (nI (z + 2 * t))), (2, .int (nI (((cl_scan st ua z t).1) + 1))), (0, .ref aC), (1, .int (nI z))] := hl
            refine lv_goto (tgt := 7) hx hb d_Cache_lineToLeave_53 rfl ?_
            have e1 : cl_scan st ua z (t + 1) = ((cl_scan st ua z t).1 + 1, some (z + 2 * t)) := by rw [cl_scan, if_neg hz0, ho]; simp only [if_pos hlt]
            refine ih (t + 1) ls H locs (by omega) ?_ ?_ ?_ hS
            · rw [e1, show z + 2 * (t + 1) = z + 2 * t + 2 by omega]; exact lv_sub hl [3, 4, 2, 1, 0] rfl
            · exact hP
            · exact hD
  exact loop 4 0 ls H locs (by omega) (lv_sub hl [3, 4, 2, 1, 0] rfl) hP hD hS
set_option maxRecDepth 100000 in
set_option maxHeartbeats 4000000 in
theorem c_fill (l : Launch) (D : va_G) (cI cO : ClassId) (aC aM a1 a2 a3 wy : Nat) (us : Int32) (aW : Nat) (wb : Int32) (st ua wd mw : Nat → Int32) (L : Nat) (x : Int32) (hL : L < 8) (hw : wy < 4) : mk_M l y_Cache_fill w_Cache_fill ({ frames := 3, cells := 0, slots := 0, locals := 83 } : Room) D (tysK cI cO) [.ref aC, .int (nI L), .int x] [(aC, .inr (0, [.ref aM, .int (nI wy), .ref a1, .ref a2, .ref a3, .int us])), (a1, .inl (cI, 8, .inl st)), (a2, .inl (cI, 8, .inl ua)), (a3, .inl (cI, 32, .inl wd)), (aM, .inr (2, [.ref aW, .int wb])), (aW, .inl (cI, 32, .inl mw))] (mk_Qv D (tysK cI cO) [(aC, .inr (0, [.ref aM, .int (nI wy), .ref a1, .ref a2, .ref a3, .int (us + nI 1)])), (a1, .inl (cI, 8, .inl (upd (cf_st st (cl_leave st ua wy (L % 2))) L x))), (a2, .inl (cI, 8, .inl (upd ua L (us + nI 1)))), (a3, .inl (cI, 32, .inl (va_cpy (cf_mem st wd mw (cl_leave st ua wy (L % 2))) wd (L * 4) (L * 4) 4))), (aM, .inr (2, [.ref aW, .int (cf_cnt st wb (cl_leave st ua wy (L % 2)))])), (aW, .inl (cI, 32, .inl (cf_mem st wd mw (cl_leave st ua wy (L % 2)))))]) := by
  refine mk_start (cc := b_Cache_fill) (maxL := 5) (ret := none) (by decide) (Nat.le_of_ble_eq_true rfl) (fun p e s m below meth c A ls H locs hx hb hml hr hlocks hnm hts hN hown hK hP hD hA hl hS => ?_)
  have hl : lv_has ls 5 [(0, .ref aC), (1, .int (nI L)), (2, .int x)] := hl
  refine lv_aload_n hx hb d_Cache_fill_0 rfl (lv_at hl 0 rfl) ?_
  refine lv_iload_n hx hb d_Cache_fill_1 rfl (lv_at hl 1 rfl) ?_
  refine lv_iconst (v := nI 2) hx hb d_Cache_fill_2 (by decide) ?_
  refine lv_irem hx hb d_Cache_fill_3 (nI_ne0 (by omega) (by omega)) ?_
  refine mk_top (show _ = nI (L % 2) from pk_rem (by omega) (by omega) (by omega)) ?_
  refine mk_calli (X := [(aC, .inr (0, [.ref aM, .int (nI wy), .ref a1, .ref a2, .ref a3, .int us])), (a1, .inl (cI, 8, .inl st)), (a2, .inl (cI, 8, .inl ua)), (a3, .inl (cI, 32, .inl wd)), (aM, .inr (2, [.ref aW, .int wb])), (aW, .inl (cI, 32, .inl mw))]) (pl := []) (wc := [(aC, .inr (0, [.ref aM, .int (nI wy), .ref a1, .ref a2, .ref a3, .int us])), (a1, .inl (cI, 8, .inl st)), (a2, .inl (cI, 8, .inl ua))]) (wr := [(a3, .inl (cI, 32, .inl wd)), (aM, .inr (2, [.ref aW, .int wb])), (aW, .inl (cI, 32, .inl mw))]) (w1 := [(aC, .inr (0, [.ref aM, .int (nI wy), .ref a1, .ref a2, .ref a3, .int us])), (a1, .inl (cI, 8, .inl st)), (a2, .inl (cI, 8, .inl ua))]) (X1 := [(aC, .inr (0, [.ref aM, .int (nI wy), .ref a1, .ref a2, .ref a3, .int us])), (a1, .inl (cI, 8, .inl st)), (a2, .inl (cI, 8, .inl ua)), (a3, .inl (cI, 32, .inl wd)), (aM, .inr (2, [.ref aW, .int wb])), (aW, .inl (cI, 32, .inl mw))]) hP hD hS hA [0, 1, 2] [3, 4, 5] [3, 4, 5, 0, 1, 2] rfl rfl rfl (by decide) (by decide) (by decide)
    (va_runV (b := aC) (As := [.int (nI (L % 2))]) (rest := []) ⟨hx, hb, hml, hown, hts⟩ (c_leave l D cI cO aC aM a1 a2 a3 wy us st ua (L % 2) (by omega) (by first | assumption | omega) H.size) ⟨callB_of 1 hts g_Cache_lineToLeave rfl rfl rfl (hts _ iw_40) (hts _ iw_174) (by decide +kernel) ⟨by decide, by decide⟩, hts _ iw_177, hts _ iw_178⟩ (mk_preV (X := [(aC, .inr (0, [.ref aM, .int (nI wy), .ref a1, .ref a2, .ref a3, .int us])), (a1, .inl (cI, 8, .inl st)), (a2, .inl (cI, 8, .inl ua)), (a3, .inl (cI, 32, .inl wd)), (aM, .inr (2, [.ref aW, .int wb])), (aW, .inl (cI, 32, .inl mw))]) (pl := []) hN hK hP hD [0, 1, 2] (by decide) rfl 0 rfl rfl rfl) rfl rfl hl.1 rfl (lv_room (Nat.le_of_ble_eq_true rfl)) d_Cache_fill_4 ⟨Nat.le_refl _, Nat.le_refl _⟩) (fun H locs hP hD hS => ?_)
  have hP : va_P D vwCl [(aC, .inr (0, [.ref aM, .int (nI wy), .ref a1, .ref a2, .ref a3, .int us])), (a1, .inl (cI, 8, .inl st)), (a2, .inl (cI, 8, .inl ua)), (a3, .inl (cI, 32, .inl wd)), (aM, .inr (2, [.ref aW, .int wb])), (aW, .inl (cI, 32, .inl mw))] H := hP
  have hD : va_D A [(aC, .inr (0, [.ref aM, .int (nI wy), .ref a1, .ref a2, .ref a3, .int us])), (a1, .inl (cI, 8, .inl st)), (a2, .inl (cI, 8, .inl ua)), (a3, .inl (cI, 32, .inl wd)), (aM, .inr (2, [.ref aW, .int wb])), (aW, .inl (cI, 32, .inl mw))] := hD
  refine lv_istore_n hx hb d_Cache_fill_7 rfl hl (by decide) rfl (fun ls hl => ?_)
  have hl : lv_has ls 5 [(3, .int (cl_on (cl_leave st ua wy (L % 2)))), (0, .ref aC), (1, .int (nI L)), (2, .int x)] := hl
  rcases ho : cl_leave st ua wy (L % 2) with _ | o
  · rw [ho] at hl
    have hl : lv_has ls 5 [(3, .int (-1)), (0, .ref aC), (1, .int (nI L)), (2, .int x)] := hl
    refine lv_iload_n hx hb d_Cache_fill_8 rfl (lv_at hl 0 rfl) ?_
    refine lv_iconst (v := (-1)) hx hb d_Cache_fill_9 (by decide) ?_
    refine lv_icmp_eq (tgt := 18) hx hb d_Cache_fill_10 rfl (fun _ => ?_) (fun h => absurd (by decide) h)
    refine lv_iload_n hx hb d_Cache_fill_18 rfl (lv_at hl 2 rfl) ?_
    refine lv_iconst (v := nI 4) hx hb d_Cache_fill_19 (by decide) ?_
    refine lv_imul hx hb d_Cache_fill_20 ?_
    refine mk_top (show _ = nI (L * 4) from pk_mul _ _) ?_
    refine lv_istore hx hb d_Cache_fill_21 hl (by decide) rfl (fun ls hl => ?_)
    have hl : lv_has ls 5 [(4, .int (nI (L * 4))), (3, .int (-1)), (0, .ref aC), (1, .int (nI L)), (2, .int x)] := hl
    refine lv_aload_n hx hb d_Cache_fill_23 rfl (lv_at hl 2 rfl) ?_
    refine va_get (D := D) (ci := 0) (v := .ref aM) (C := R_Cache) (T := T_Cache) (N := 6) hx hb hts in_Cache hown hK hP 0 rfl rfl 0 (by decide) (hts _ iw_66) (fun _ h9 => h9) rfl d_Cache_fill_24 ?_
    refine va_getN (D := D) (ci := 2) (v := .ref aW) (C := R_Mem) (T := T_Mem) (N := 2) hx hb hts in_Mem hown hK hP 4 rfl rfl 0 (by decide) (va_Nw.use rfl (hN _ in_w27)) (fun _ h9 => h9) rfl d_Cache_fill_27 ?_
    refine lv_iload hx hb d_Cache_fill_30 (lv_at hl 0 rfl) ?_
    refine lv_aload_n hx hb d_Cache_fill_32 rfl (lv_at hl 2 rfl) ?_
    refine va_get (D := D) (ci := 0) (v := .ref a3) (C := R_Cache) (T := T_Cache) (N := 6) hx hb hts in_Cache hown hK hP 0 rfl rfl 4 (by decide) (hts _ iw_65) (fun _ h9 => h9) rfl d_Cache_fill_33 ?_
    refine lv_iload hx hb d_Cache_fill_36 (lv_at hl 0 rfl) ?_
    refine lv_iconst (v := nI 4) hx hb d_Cache_fill_38 (by decide) ?_
    refine mk_copy hx hb (hml.trans hl.1.symm) hown (hts _ iw_170) (hts _ iw_366) (hts _ iw_367) (hts _ iw_368) hK hP hD hS 5 3 0 rfl rfl rfl (sp := L * 4) (dp := L * 4) (n := 4) (by omega) (by omega) (by decide) (by decide) (Nat.le_of_ble_eq_true rfl) (Nat.le_of_ble_eq_true rfl) d_Cache_fill_39 (fun H locs hP hD hS => ?_)
    have hP : va_P D vwCl [(aC, .inr (0, [.ref aM, .int (nI wy), .ref a1, .ref a2, .ref a3, .int us])), (a1, .inl (cI, 8, .inl st)), (a2, .inl (cI, 8, .inl ua)), (a3, .inl (cI, 32, .inl (va_cpy mw wd (L * 4) (L * 4) 4))), (aM, .inr (2, [.ref aW, .int wb])), (aW, .inl (cI, 32, .inl mw))] H := hP
    have hD : va_D A [(aC, .inr (0, [.ref aM, .int (nI wy), .ref a1, .ref a2, .ref a3, .int us])), (a1, .inl (cI, 8, .inl st)), (a2, .inl (cI, 8, .inl ua)), (a3, .inl (cI, 32, .inl (va_cpy mw wd (L * 4) (L * 4) 4))), (aM, .inr (2, [.ref aW, .int wb])), (aW, .inl (cI, 32, .inl mw))] := hD
    refine lv_aload_n hx hb d_Cache_fill_42 rfl (lv_at hl 2 rfl) ?_
    refine va_get (D := D) (ci := 0) (v := .ref a1) (C := R_Cache) (T := T_Cache) (N := 6) hx hb hts in_Cache hown hK hP 0 rfl rfl 2 (by decide) (hts _ iw_63) (fun _ h9 => h9) rfl d_Cache_fill_43 ?_
    refine lv_iload_n hx hb d_Cache_fill_46 rfl (lv_at hl 3 rfl) ?_
    refine lv_iload_n hx hb d_Cache_fill_47 rfl (lv_at hl 4 rfl) ?_
    refine mk_iast hx hb hK hP hD hS 1 0 rfl rfl (j := L) (by omega) (by decide) d_Cache_fill_48 (fun H locs hP hD hS => ?_)
    have hP : va_P D vwCl [(aC, .inr (0, [.ref aM, .int (nI wy), .ref a1, .ref a2, .ref a3, .int us])), (a1, .inl (cI, 8, .inl (upd st L x))), (a2, .inl (cI, 8, .inl ua)), (a3, .inl (cI, 32, .inl (va_cpy mw wd (L * 4) (L * 4) 4))), (aM, .inr (2, [.ref aW, .int wb])), (aW, .inl (cI, 32, .inl mw))] H := hP
    have hD : va_D A [(aC, .inr (0, [.ref aM, .int (nI wy), .ref a1, .ref a2, .ref a3, .int us])), (a1, .inl (cI, 8, .inl (upd st L x))), (a2, .inl (cI, 8, .inl ua)), (a3, .inl (cI, 32, .inl (va_cpy mw wd (L * 4) (L * 4) 4))), (aM, .inr (2, [.ref aW, .int wb])), (aW, .inl (cI, 32, .inl mw))] := hD
    refine lv_aload_n hx hb d_Cache_fill_49 rfl (lv_at hl 2 rfl) ?_
    refine lv_iload_n hx hb d_Cache_fill_50 rfl (lv_at hl 3 rfl) ?_
    refine mk_callv (X := [(aC, .inr (0, [.ref aM, .int (nI wy), .ref a1, .ref a2, .ref a3, .int us])), (a1, .inl (cI, 8, .inl (upd st L x))), (a2, .inl (cI, 8, .inl ua)), (a3, .inl (cI, 32, .inl (va_cpy mw wd (L * 4) (L * 4) 4))), (aM, .inr (2, [.ref aW, .int wb])), (aW, .inl (cI, 32, .inl mw))]) (pl := []) (wc := [(aC, .inr (0, [.ref aM, .int (nI wy), .ref a1, .ref a2, .ref a3, .int us])), (a2, .inl (cI, 8, .inl ua))]) (wr := [(a1, .inl (cI, 8, .inl (upd st L x))), (a3, .inl (cI, 32, .inl (va_cpy mw wd (L * 4) (L * 4) 4))), (aM, .inr (2, [.ref aW, .int wb])), (aW, .inl (cI, 32, .inl mw))]) (w1 := [(aC, .inr (0, [.ref aM, .int (nI wy), .ref a1, .ref a2, .ref a3, .int (us + nI 1)])), (a2, .inl (cI, 8, .inl (upd ua L (us + nI 1))))]) (X1 := [(aC, .inr (0, [.ref aM, .int (nI wy), .ref a1, .ref a2, .ref a3, .int (us + nI 1)])), (a1, .inl (cI, 8, .inl (upd st L x))), (a2, .inl (cI, 8, .inl (upd ua L (us + nI 1)))), (a3, .inl (cI, 32, .inl (va_cpy mw wd (L * 4) (L * 4) 4))), (aM, .inr (2, [.ref aW, .int wb])), (aW, .inl (cI, 32, .inl mw))]) hP hD hS hA [0, 2] [1, 3, 4, 5] [4, 0, 5, 1, 2, 3] rfl rfl rfl (by decide) (by decide) (by decide)
      (va_runV (b := aC) (As := [.int (nI L)]) (rest := []) ⟨hx, hb, hml, hown, hts⟩ (c_use l D cI cO aC aM a1 a2 a3 wy us ua L (by first | assumption | omega) H.size) ⟨callB_of 1 hts g_Cache_use rfl rfl rfl (hts _ iw_40) (hts _ iw_132) (by decide +kernel) ⟨by decide, by decide⟩, hts _ iw_99, hts _ iw_100⟩ (mk_preV (X := [(aC, .inr (0, [.ref aM, .int (nI wy), .ref a1, .ref a2, .ref a3, .int us])), (a1, .inl (cI, 8, .inl (upd st L x))), (a2, .inl (cI, 8, .inl ua)), (a3, .inl (cI, 32, .inl (va_cpy mw wd (L * 4) (L * 4) 4))), (aM, .inr (2, [.ref aW, .int wb])), (aW, .inl (cI, 32, .inl mw))]) (pl := []) hN hK hP hD [0, 2] (by decide) rfl 0 rfl rfl rfl) rfl rfl hl.1 rfl (lv_room (Nat.le_of_ble_eq_true rfl)) d_Cache_fill_51 ⟨Nat.le_refl _, Nat.le_refl _⟩) (fun H locs hP hD hS => ?_)
    have hP : va_P D vwCl [(aC, .inr (0, [.ref aM, .int (nI wy), .ref a1, .ref a2, .ref a3, .int (us + nI 1)])), (a1, .inl (cI, 8, .inl (upd st L x))), (a2, .inl (cI, 8, .inl (upd ua L (us + nI 1)))), (a3, .inl (cI, 32, .inl (va_cpy mw wd (L * 4) (L * 4) 4))), (aM, .inr (2, [.ref aW, .int wb])), (aW, .inl (cI, 32, .inl mw))] H := hP
    have hD : va_D A [(aC, .inr (0, [.ref aM, .int (nI wy), .ref a1, .ref a2, .ref a3, .int (us + nI 1)])), (a1, .inl (cI, 8, .inl (upd st L x))), (a2, .inl (cI, 8, .inl (upd ua L (us + nI 1)))), (a3, .inl (cI, 32, .inl (va_cpy mw wd (L * 4) (L * 4) 4))), (aM, .inr (2, [.ref aW, .int wb])), (aW, .inl (cI, 32, .inl mw))] := hD
    exact mk_vret hx hb hr hlocks hK hP hD hS d_Cache_fill_54 rfl
  · have hlo := cl_leave_lt st ua wy (L % 2) o (by omega) ho
    rw [ho] at hl
    have hl : lv_has ls 5 [(3, .int (nI o)), (0, .ref aC), (1, .int (nI L)), (2, .int x)] := hl
    refine lv_iload_n hx hb d_Cache_fill_8 rfl (lv_at hl 0 rfl) ?_
    refine lv_iconst (v := (-1)) hx hb d_Cache_fill_9 (by decide) ?_
    refine lv_icmp_eq (tgt := 18) hx hb d_Cache_fill_10 rfl (fun h => absurd h (nI_m1 (by omega))) (fun _ => ?_)
    refine lv_aload_n hx hb d_Cache_fill_13 rfl (lv_at hl 1 rfl) ?_
    refine lv_iload_n hx hb d_Cache_fill_14 rfl (lv_at hl 0 rfl) ?_
    refine mk_callv (X := [(aC, .inr (0, [.ref aM, .int (nI wy), .ref a1, .ref a2, .ref a3, .int us])), (a1, .inl (cI, 8, .inl st)), (a2, .inl (cI, 8, .inl ua)), (a3, .inl (cI, 32, .inl wd)), (aM, .inr (2, [.ref aW, .int wb])), (aW, .inl (cI, 32, .inl mw))]) (pl := []) (wc := [(aC, .inr (0, [.ref aM, .int (nI wy), .ref a1, .ref a2, .ref a3, .int us])), (a1, .inl (cI, 8, .inl st)), (a3, .inl (cI, 32, .inl wd)), (aM, .inr (2, [.ref aW, .int wb])), (aW, .inl (cI, 32, .inl mw))]) (wr := [(a2, .inl (cI, 8, .inl ua))]) (w1 := [(aC, .inr (0, [.ref aM, .int (nI wy), .ref a1, .ref a2, .ref a3, .int us])), (a1, .inl (cI, 8, .inl (upd st o (nI 0)))), (a3, .inl (cI, 32, .inl wd)), (aM, .inr (2, [.ref aW, .int (cw_cnt st wb o)])), (aW, .inl (cI, 32, .inl (cw_mem st wd mw o)))]) (X1 := [(aC, .inr (0, [.ref aM, .int (nI wy), .ref a1, .ref a2, .ref a3, .int us])), (a1, .inl (cI, 8, .inl (upd st o (nI 0)))), (a2, .inl (cI, 8, .inl ua)), (a3, .inl (cI, 32, .inl wd)), (aM, .inr (2, [.ref aW, .int (cw_cnt st wb o)])), (aW, .inl (cI, 32, .inl (cw_mem st wd mw o)))]) hP hD hS hA [0, 1, 3, 4, 5] [2] [1, 2, 0, 3, 4, 5] rfl rfl rfl (by decide) (by decide) (by decide)
      (va_runV (b := aC) (As := [.int (nI o)]) (rest := []) ⟨hx, hb, hml, hown, hts⟩ (c_drop l D cI cO aC aM a1 a2 a3 wy us aW wb st wd mw o (by omega) H.size) ⟨callB_of 1 hts g_Cache_drop rfl rfl rfl (hts _ iw_40) (hts _ iw_175) (by decide +kernel) ⟨by decide, by decide⟩, hts _ iw_181, hts _ iw_182⟩ (mk_preV (X := [(aC, .inr (0, [.ref aM, .int (nI wy), .ref a1, .ref a2, .ref a3, .int us])), (a1, .inl (cI, 8, .inl st)), (a2, .inl (cI, 8, .inl ua)), (a3, .inl (cI, 32, .inl wd)), (aM, .inr (2, [.ref aW, .int wb])), (aW, .inl (cI, 32, .inl mw))]) (pl := []) hN hK hP hD [0, 1, 3, 4, 5] (by decide) rfl 0 rfl rfl rfl) rfl rfl hl.1 rfl (lv_room (Nat.le_of_ble_eq_true rfl)) d_Cache_fill_15 ⟨Nat.le_refl _, Nat.le_refl _⟩) (fun H locs hP hD hS => ?_)
    have hP : va_P D vwCl [(aC, .inr (0, [.ref aM, .int (nI wy), .ref a1, .ref a2, .ref a3, .int us])), (a1, .inl (cI, 8, .inl (upd st o (nI 0)))), (a2, .inl (cI, 8, .inl ua)), (a3, .inl (cI, 32, .inl wd)), (aM, .inr (2, [.ref aW, .int (cw_cnt st wb o)])), (aW, .inl (cI, 32, .inl (cw_mem st wd mw o)))] H := hP
    have hD : va_D A [(aC, .inr (0, [.ref aM, .int (nI wy), .ref a1, .ref a2, .ref a3, .int us])), (a1, .inl (cI, 8, .inl (upd st o (nI 0)))), (a2, .inl (cI, 8, .inl ua)), (a3, .inl (cI, 32, .inl wd)), (aM, .inr (2, [.ref aW, .int (cw_cnt st wb o)])), (aW, .inl (cI, 32, .inl (cw_mem st wd mw o)))] := hD
    refine lv_iload_n hx hb d_Cache_fill_18 rfl (lv_at hl 2 rfl) ?_
    refine lv_iconst (v := nI 4) hx hb d_Cache_fill_19 (by decide) ?_
    refine lv_imul hx hb d_Cache_fill_20 ?_
    refine mk_top (show _ = nI (L * 4) from pk_mul _ _) ?_
    refine lv_istore hx hb d_Cache_fill_21 hl (by decide) rfl (fun ls hl => ?_)
    have hl : lv_has ls 5 [(4, .int (nI (L * 4))), (3, .int (nI o)), (0, .ref aC), (1, .int (nI L)), (2, .int x)] := hl
    refine lv_aload_n hx hb d_Cache_fill_23 rfl (lv_at hl 2 rfl) ?_
    refine va_get (D := D) (ci := 0) (v := .ref aM) (C := R_Cache) (T := T_Cache) (N := 6) hx hb hts in_Cache hown hK hP 0 rfl rfl 0 (by decide) (hts _ iw_66) (fun _ h9 => h9) rfl d_Cache_fill_24 ?_
    refine va_getN (D := D) (ci := 2) (v := .ref aW) (C := R_Mem) (T := T_Mem) (N := 2) hx hb hts in_Mem hown hK hP 4 rfl rfl 0 (by decide) (va_Nw.use rfl (hN _ in_w27)) (fun _ h9 => h9) rfl d_Cache_fill_27 ?_
    refine lv_iload hx hb d_Cache_fill_30 (lv_at hl 0 rfl) ?_
    refine lv_aload_n hx hb d_Cache_fill_32 rfl (lv_at hl 2 rfl) ?_
    refine va_get (D := D) (ci := 0) (v := .ref a3) (C := R_Cache) (T := T_Cache) (N := 6) hx hb hts in_Cache hown hK hP 0 rfl rfl 4 (by decide) (hts _ iw_65) (fun _ h9 => h9) rfl d_Cache_fill_33 ?_
    refine lv_iload hx hb d_Cache_fill_36 (lv_at hl 0 rfl) ?_
    refine lv_iconst (v := nI 4) hx hb d_Cache_fill_38 (by decide) ?_
    refine mk_copy hx hb (hml.trans hl.1.symm) hown (hts _ iw_170) (hts _ iw_366) (hts _ iw_367) (hts _ iw_368) hK hP hD hS 5 3 0 rfl rfl rfl (sp := L * 4) (dp := L * 4) (n := 4) (by omega) (by omega) (by decide) (by decide) (Nat.le_of_ble_eq_true rfl) (Nat.le_of_ble_eq_true rfl) d_Cache_fill_39 (fun H locs hP hD hS => ?_)
    have hP : va_P D vwCl [(aC, .inr (0, [.ref aM, .int (nI wy), .ref a1, .ref a2, .ref a3, .int us])), (a1, .inl (cI, 8, .inl (upd st o (nI 0)))), (a2, .inl (cI, 8, .inl ua)), (a3, .inl (cI, 32, .inl (va_cpy (cw_mem st wd mw o) wd (L * 4) (L * 4) 4))), (aM, .inr (2, [.ref aW, .int (cw_cnt st wb o)])), (aW, .inl (cI, 32, .inl (cw_mem st wd mw o)))] H := hP
    have hD : va_D A [(aC, .inr (0, [.ref aM, .int (nI wy), .ref a1, .ref a2, .ref a3, .int us])), (a1, .inl (cI, 8, .inl (upd st o (nI 0)))), (a2, .inl (cI, 8, .inl ua)), (a3, .inl (cI, 32, .inl (va_cpy (cw_mem st wd mw o) wd (L * 4) (L * 4) 4))), (aM, .inr (2, [.ref aW, .int (cw_cnt st wb o)])), (aW, .inl (cI, 32, .inl (cw_mem st wd mw o)))] := hD
    refine lv_aload_n hx hb d_Cache_fill_42 rfl (lv_at hl 2 rfl) ?_
    refine va_get (D := D) (ci := 0) (v := .ref a1) (C := R_Cache) (T := T_Cache) (N := 6) hx hb hts in_Cache hown hK hP 0 rfl rfl 2 (by decide) (hts _ iw_63) (fun _ h9 => h9) rfl d_Cache_fill_43 ?_
    refine lv_iload_n hx hb d_Cache_fill_46 rfl (lv_at hl 3 rfl) ?_
    refine lv_iload_n hx hb d_Cache_fill_47 rfl (lv_at hl 4 rfl) ?_
    refine mk_iast hx hb hK hP hD hS 1 0 rfl rfl (j := L) (by omega) (by decide) d_Cache_fill_48 (fun H locs hP hD hS => ?_)
    have hP : va_P D vwCl [(aC, .inr (0, [.ref aM, .int (nI wy), .ref a1, .ref a2, .ref a3, .int us])), (a1, .inl (cI, 8, .inl (upd (upd st o (nI 0)) L x))), (a2, .inl (cI, 8, .inl ua)), (a3, .inl (cI, 32, .inl (va_cpy (cw_mem st wd mw o) wd (L * 4) (L * 4) 4))), (aM, .inr (2, [.ref aW, .int (cw_cnt st wb o)])), (aW, .inl (cI, 32, .inl (cw_mem st wd mw o)))] H := hP
    have hD : va_D A [(aC, .inr (0, [.ref aM, .int (nI wy), .ref a1, .ref a2, .ref a3, .int us])), (a1, .inl (cI, 8, .inl (upd (upd st o (nI 0)) L x))), (a2, .inl (cI, 8, .inl ua)), (a3, .inl (cI, 32, .inl (va_cpy (cw_mem st wd mw o) wd (L * 4) (L * 4) 4))), (aM, .inr (2, [.ref aW, .int (cw_cnt st wb o)])), (aW, .inl (cI, 32, .inl (cw_mem st wd mw o)))] := hD
    refine lv_aload_n hx hb d_Cache_fill_49 rfl (lv_at hl 2 rfl) ?_
    refine lv_iload_n hx hb d_Cache_fill_50 rfl (lv_at hl 3 rfl) ?_
    refine mk_callv (X := [(aC, .inr (0, [.ref aM, .int (nI wy), .ref a1, .ref a2, .ref a3, .int us])), (a1, .inl (cI, 8, .inl (upd (upd st o (nI 0)) L x))), (a2, .inl (cI, 8, .inl ua)), (a3, .inl (cI, 32, .inl (va_cpy (cw_mem st wd mw o) wd (L * 4) (L * 4) 4))), (aM, .inr (2, [.ref aW, .int (cw_cnt st wb o)])), (aW, .inl (cI, 32, .inl (cw_mem st wd mw o)))]) (pl := []) (wc := [(aC, .inr (0, [.ref aM, .int (nI wy), .ref a1, .ref a2, .ref a3, .int us])), (a2, .inl (cI, 8, .inl ua))]) (wr := [(a1, .inl (cI, 8, .inl (upd (upd st o (nI 0)) L x))), (a3, .inl (cI, 32, .inl (va_cpy (cw_mem st wd mw o) wd (L * 4) (L * 4) 4))), (aM, .inr (2, [.ref aW, .int (cw_cnt st wb o)])), (aW, .inl (cI, 32, .inl (cw_mem st wd mw o)))]) (w1 := [(aC, .inr (0, [.ref aM, .int (nI wy), .ref a1, .ref a2, .ref a3, .int (us + nI 1)])), (a2, .inl (cI, 8, .inl (upd ua L (us + nI 1))))]) (X1 := [(aC, .inr (0, [.ref aM, .int (nI wy), .ref a1, .ref a2, .ref a3, .int (us + nI 1)])), (a1, .inl (cI, 8, .inl (upd (upd st o (nI 0)) L x))), (a2, .inl (cI, 8, .inl (upd ua L (us + nI 1)))), (a3, .inl (cI, 32, .inl (va_cpy (cw_mem st wd mw o) wd (L * 4) (L * 4) 4))), (aM, .inr (2, [.ref aW, .int (cw_cnt st wb o)])), (aW, .inl (cI, 32, .inl (cw_mem st wd mw o)))]) hP hD hS hA [0, 2] [1, 3, 4, 5] [4, 0, 5, 1, 2, 3] rfl rfl rfl (by decide) (by decide) (by decide)
      (va_runV (b := aC) (As := [.int (nI L)]) (rest := []) ⟨hx, hb, hml, hown, hts⟩ (c_use l D cI cO aC aM a1 a2 a3 wy us ua L (by first | assumption | omega) H.size) ⟨callB_of 1 hts g_Cache_use rfl rfl rfl (hts _ iw_40) (hts _ iw_132) (by decide +kernel) ⟨by decide, by decide⟩, hts _ iw_99, hts _ iw_100⟩ (mk_preV (X := [(aC, .inr (0, [.ref aM, .int (nI wy), .ref a1, .ref a2, .ref a3, .int us])), (a1, .inl (cI, 8, .inl (upd (upd st o (nI 0)) L x))), (a2, .inl (cI, 8, .inl ua)), (a3, .inl (cI, 32, .inl (va_cpy (cw_mem st wd mw o) wd (L * 4) (L * 4) 4))), (aM, .inr (2, [.ref aW, .int (cw_cnt st wb o)])), (aW, .inl (cI, 32, .inl (cw_mem st wd mw o)))]) (pl := []) hN hK hP hD [0, 2] (by decide) rfl 0 rfl rfl rfl) rfl rfl hl.1 rfl (lv_room (Nat.le_of_ble_eq_true rfl)) d_Cache_fill_51 ⟨Nat.le_refl _, Nat.le_refl _⟩) (fun H locs hP hD hS => ?_)
    have hP : va_P D vwCl [(aC, .inr (0, [.ref aM, .int (nI wy), .ref a1, .ref a2, .ref a3, .int (us + nI 1)])), (a1, .inl (cI, 8, .inl (upd (upd st o (nI 0)) L x))), (a2, .inl (cI, 8, .inl (upd ua L (us + nI 1)))), (a3, .inl (cI, 32, .inl (va_cpy (cw_mem st wd mw o) wd (L * 4) (L * 4) 4))), (aM, .inr (2, [.ref aW, .int (cw_cnt st wb o)])), (aW, .inl (cI, 32, .inl (cw_mem st wd mw o)))] H := hP
    have hD : va_D A [(aC, .inr (0, [.ref aM, .int (nI wy), .ref a1, .ref a2, .ref a3, .int (us + nI 1)])), (a1, .inl (cI, 8, .inl (upd (upd st o (nI 0)) L x))), (a2, .inl (cI, 8, .inl (upd ua L (us + nI 1)))), (a3, .inl (cI, 32, .inl (va_cpy (cw_mem st wd mw o) wd (L * 4) (L * 4) 4))), (aM, .inr (2, [.ref aW, .int (cw_cnt st wb o)])), (aW, .inl (cI, 32, .inl (cw_mem st wd mw o)))] := hD
    exact mk_vret hx hb hr hlocks hK hP hD hS d_Cache_fill_54 rfl
end
section
set_option maxRecDepth 100000 in
set_option maxHeartbeats 4000000 in
theorem c_waits_1 (l : Launch) (D : va_G) (cI cO : ClassId) (aK aC b1 b2 k ra : Nat) (rk rw lw : Int32) (h1 : ¬ rk = 0) : mk_M l y_Core_waits w_Core_waits ({ frames := 0, cells := 0, slots := 0, locals := 0 } : Room) D (tysK cI cO) [.ref aK] [(aK, .inr (1, [.ref aC, .ref b1, .ref b2, .int (nI k), .int rk, .int (nI ra), .int rw, .int lw]))] (mk_Qi D (tysK cI cO) (nI 1) [(aK, .inr (1, [.ref aC, .ref b1, .ref b2, .int (nI k), .int rk, .int (nI ra), .int rw, .int lw]))]) := by
  refine mk_start (cc := b_Core_waits) (maxL := 1) (ret := (some FieldType.boolean)) (by decide) (Nat.le_of_ble_eq_true rfl) (fun p e s m below meth c A ls H locs hx hb hml hr hlocks hnm hts hN hown hK hP hD hA hl hS => ?_)
  have hl : lv_has ls 1 [(0, .ref aK)] := hl
  refine lv_aload_n hx hb d_Core_waits_0 rfl (lv_at hl 0 rfl) ?_
  refine va_get (D := D) (ci := 1) (v := .int rk) (C := R_Core) (T := T_Core) (N := 8) hx hb hts in_Core hown hK hP 0 rfl rfl 4 (by decide) (hts _ iw_73) (fun _ h9 => h9) rfl d_Core_waits_1 ?_
  refine lv_if_eq (tgt := 11) hx hb d_Core_waits_4 rfl (fun h => absurd h h1) (fun _ => ?_)
  refine lv_iconst (v := nI 1) hx hb d_Core_waits_7 (by decide) ?_
  refine lv_goto (tgt := 12) hx hb d_Core_waits_8 rfl ?_
  exact mk_zret hx hb hr hlocks hK hP hD hS d_Core_waits_12 (by decide) rfl rfl
set_option maxRecDepth 100000 in
set_option maxHeartbeats 4000000 in
theorem c_waits_0 (l : Launch) (D : va_G) (cI cO : ClassId) (aK aC b1 b2 k ra : Nat) (rk rw lw : Int32) (h1 : rk = 0) : mk_M l y_Core_waits w_Core_waits ({ frames := 0, cells := 0, slots := 0, locals := 0 } : Room) D (tysK cI cO) [.ref aK] [(aK, .inr (1, [.ref aC, .ref b1, .ref b2, .int (nI k), .int rk, .int (nI ra), .int rw, .int lw]))] (mk_Qi D (tysK cI cO) (nI 0) [(aK, .inr (1, [.ref aC, .ref b1, .ref b2, .int (nI k), .int rk, .int (nI ra), .int rw, .int lw]))]) := by
  refine mk_start (cc := b_Core_waits) (maxL := 1) (ret := (some FieldType.boolean)) (by decide) (Nat.le_of_ble_eq_true rfl) (fun p e s m below meth c A ls H locs hx hb hml hr hlocks hnm hts hN hown hK hP hD hA hl hS => ?_)
  have hl : lv_has ls 1 [(0, .ref aK)] := hl
  refine lv_aload_n hx hb d_Core_waits_0 rfl (lv_at hl 0 rfl) ?_
  refine va_get (D := D) (ci := 1) (v := .int rk) (C := R_Core) (T := T_Core) (N := 8) hx hb hts in_Core hown hK hP 0 rfl rfl 4 (by decide) (hts _ iw_73) (fun _ h9 => h9) rfl d_Core_waits_1 ?_
  refine lv_if_eq (tgt := 11) hx hb d_Core_waits_4 rfl (fun _ => ?_) (fun h => absurd h1 h)
  refine lv_iconst (v := nI 0) hx hb d_Core_waits_11 (by decide) ?_
  exact mk_zret hx hb hr hlocks hK hP hD hS d_Core_waits_12 (by decide) rfl rfl
set_option maxRecDepth 100000 in
set_option maxHeartbeats 4000000 in
theorem c_ask (l : Launch) (D : va_G) (cI cO : ClassId) (aK aC b1 b2 k ra : Nat) (rk rw lw : Int32) (kd : Int32) (j : Nat) (x : Int32) : mk_M l y_Core_ask w_Core_ask ({ frames := 0, cells := 0, slots := 0, locals := 0 } : Room) D (tysK cI cO) [.ref aK, .int kd, .int (nI j), .int x] [(aK, .inr (1, [.ref aC, .ref b1, .ref b2, .int (nI k), .int rk, .int (nI ra), .int rw, .int lw]))] (mk_Qv D (tysK cI cO) [(aK, .inr (1, [.ref aC, .ref b1, .ref b2, .int (nI k), .int kd, .int (nI j), .int x, .int lw]))]) := by
  refine mk_start (cc := b_Core_ask) (maxL := 4) (ret := none) (by decide) (Nat.le_of_ble_eq_true rfl) (fun p e s m below meth c A ls H locs hx hb hml hr hlocks hnm hts hN hown hK hP hD hA hl hS => ?_)
  have hl : lv_has ls 4 [(0, .ref aK), (1, .int kd), (2, .int (nI j)), (3, .int x)] := hl
  refine lv_aload_n hx hb d_Core_ask_0 rfl (lv_at hl 0 rfl) ?_
  refine lv_iload_n hx hb d_Core_ask_1 rfl (lv_at hl 1 rfl) ?_
  refine va_put (D := D) (ci := 1) (v := .int kd) (ty := .int) (C := R_Core) (T := T_Core) (N := 8) hx hb hts in_Core ty_Core tyok_Core nm_Core hown hK hP hD hS 0 rfl rfl 4 (by decide) (hts _ iw_73) (fun _ h9 => h9) rfl (by decide +kernel) rfl rfl (Nat.le_of_ble_eq_true rfl) d_Core_ask_2 (fun H locs hP hD hS => ?_)
  have hP : va_P D vwCl [(aK, .inr (1, [.ref aC, .ref b1, .ref b2, .int (nI k), .int kd, .int (nI ra), .int rw, .int lw]))] H := hP
  have hD : va_D A [(aK, .inr (1, [.ref aC, .ref b1, .ref b2, .int (nI k), .int kd, .int (nI ra), .int rw, .int lw]))] := hD
  refine lv_aload_n hx hb d_Core_ask_5 rfl (lv_at hl 0 rfl) ?_
  refine lv_iload_n hx hb d_Core_ask_6 rfl (lv_at hl 2 rfl) ?_
  refine va_put (D := D) (ci := 1) (v := .int (nI j)) (ty := .int) (C := R_Core) (T := T_Core) (N := 8) hx hb hts in_Core ty_Core tyok_Core nm_Core hown hK hP hD hS 0 rfl rfl 5 (by decide) (hts _ iw_105) (fun _ h9 => h9) rfl (by decide +kernel) rfl rfl (Nat.le_of_ble_eq_true rfl) d_Core_ask_7 (fun H locs hP hD hS => ?_)
  have hP : va_P D vwCl [(aK, .inr (1, [.ref aC, .ref b1, .ref b2, .int (nI k), .int kd, .int (nI j), .int rw, .int lw]))] H := hP
  have hD : va_D A [(aK, .inr (1, [.ref aC, .ref b1, .ref b2, .int (nI k), .int kd, .int (nI j), .int rw, .int lw]))] := hD
  refine lv_aload_n hx hb d_Core_ask_10 rfl (lv_at hl 0 rfl) ?_
  refine lv_iload_n hx hb d_Core_ask_11 rfl (lv_at hl 3 rfl) ?_
  refine va_put (D := D) (ci := 1) (v := .int x) (ty := .int) (C := R_Core) (T := T_Core) (N := 8) hx hb hts in_Core ty_Core tyok_Core nm_Core hown hK hP hD hS 0 rfl rfl 6 (by decide) (hts _ iw_106) (fun _ h9 => h9) rfl (by decide +kernel) rfl rfl (Nat.le_of_ble_eq_true rfl) d_Core_ask_12 (fun H locs hP hD hS => ?_)
  have hP : va_P D vwCl [(aK, .inr (1, [.ref aC, .ref b1, .ref b2, .int (nI k), .int kd, .int (nI j), .int x, .int lw]))] H := hP
  have hD : va_D A [(aK, .inr (1, [.ref aC, .ref b1, .ref b2, .int (nI k), .int kd, .int (nI j), .int x, .int lw]))] := hD
  exact mk_vret hx hb hr hlocks hK hP hD hS d_Core_ask_15 rfl
set_option maxRecDepth 100000 in
set_option maxHeartbeats 4000000 in
theorem c_newest (l : Launch) (D : va_G) (cI cO : ClassId) (aK aC b1 b2 k ra : Nat) (rk rw lw : Int32) (sa : Nat → Int32) (x : Int32) (hk : k ≤ 4) : mk_M l y_Core_newestStoreTo w_Core_newestStoreTo ({ frames := 0, cells := 0, slots := 0, locals := 0 } : Room) D (tysK cI cO) [.ref aK, .int x] [(aK, .inr (1, [.ref aC, .ref b1, .ref b2, .int (nI k), .int rk, .int (nI ra), .int rw, .int lw])), (b1, .inl (cI, 4, .inl sa))] (mk_Qi D (tysK cI cO) (cl_on (cs_new sa x k)) [(aK, .inr (1, [.ref aC, .ref b1, .ref b2, .int (nI k), .int rk, .int (nI ra), .int rw, .int lw])), (b1, .inl (cI, 4, .inl sa))]) := by
  refine mk_start (cc := b_Core_newestStoreTo) (maxL := 3) (ret := (some FieldType.int)) (by decide) (Nat.le_of_ble_eq_true rfl) (fun p e s m below meth c A ls H locs hx hb hml hr hlocks hnm hts hN hown hK hP hD hA hl hS => ?_)
  have hl : lv_has ls 3 [(0, .ref aK), (1, .int x)] := hl
  refine lv_aload_n hx hb d_Core_newestStoreTo_0 rfl (lv_at hl 0 rfl) ?_
  refine va_get (D := D) (ci := 1) (v := .int (nI k)) (C := R_Core) (T := T_Core) (N := 8) hx hb hts in_Core hown hK hP 0 rfl rfl 3 (by decide) (hts _ iw_92) (fun _ h9 => h9) rfl d_Core_newestStoreTo_1 ?_
  refine lv_iconst (v := nI 1) hx hb d_Core_newestStoreTo_4 (by decide) ?_
  refine lv_isub hx hb d_Core_newestStoreTo_5 ?_
  refine lv_istore_n hx hb d_Core_newestStoreTo_6 rfl hl (by decide) rfl (fun ls hl => ?_)
  have hl : lv_has ls 3 [(2, .int ((nI k) - (nI 1))), (0, .ref aK), (1, .int x)] := hl
  have loop : ∀ (fu t : Nat) (ls : Array Slot) (H : Heap) (locs : List Loc), t + fu = k → cs_new sa x k = cs_new sa x (k - t) → lv_has ls 3 [(0, .ref aK), (1, .int x), (2, .int (nI (k - t) - nI 1))] → va_P D vwCl [(aK, .inr (1, [.ref aC, .ref b1, .ref b2, .int (nI k), .int rk, .int (nI ra), .int rw, .int lw])), (b1, .inl (cI, 4, .inl sa))] H → va_D A [(aK, .inr (1, [.ref aC, .ref b1, .ref b2, .int (nI k), .int rk, .int (nI ra), .int rw, .int lw])), (b1, .inl (cI, 4, .inl sa))] → va_S A s.heap H locs → W p l e ({ frames := 0, cells := 0, slots := 0, locals := 0 } : Room) s m [.ref aK, .int x].toArray below meth c H locs 0 0 (MQ below (mk_Qi D (tysK cI cO) (cl_on (cs_new sa x k)) [(aK, .inr (1, [.ref aC, .ref b1, .ref b2, .int (nI k), .int rk, .int (nI ra), .int rw, .int lw])), (b1, .inl (cI, 4, .inl sa))] A) [.ref aK, .int x].toArray s 0 0 A) (F0 m 7 ls []) := by
    intro fu
    induction fu with
    | zero =>
      intro t ls H locs  ht h_0 hl hP hD hS
      have ht1 : k = t := by omega
      subst ht1
      rw [show nI (k - k) - nI 1 = -1 by rw [Nat.sub_self]; decide] at hl
      have hl : lv_has ls 3 [(0, .ref aK), (1, .int x), (2, .int (-1))] := hl
      refine lv_iload_n hx hb d_Core_newestStoreTo_7 rfl (lv_at hl 2 rfl) ?_
      refine lv_if_lt (tgt := 29) hx hb d_Core_newestStoreTo_8 rfl (fun _ => ?_) (fun h => absurd (by decide) h)
      refine lv_iconst (v := (-1)) hx hb d_Core_newestStoreTo_29 (by decide) ?_
      exact mk_iret hx hb hr hlocks hK hP hD hS d_Core_newestStoreTo_30 (by rw [h_0, Nat.sub_self]; rfl) rfl
    | succ fu ih =>
      intro t ls H locs  ht h_0 hl hP hD hS
      have ht0 : t < k := by omega
      obtain ⟨mm, hm⟩ : ∃ mm, k - t = mm + 1 := ⟨k - t - 1, by omega⟩
      have hm1 : k - (t + 1) = mm := by omega
      rw [hm, show nI (mm + 1) - nI 1 = nI mm from pk_sub (by omega)] at hl
      rw [hm] at h_0
      have hl : lv_has ls 3 [(0, .ref aK), (1, .int x), (2, .int (nI mm))] := hl
      refine lv_iload_n hx hb d_Core_newestStoreTo_7 rfl (lv_at hl 2 rfl) ?_
      refine lv_if_lt (tgt := 29) hx hb d_Core_newestStoreTo_8 rfl (fun h => absurd h (nI_pos (by omega))) (fun _ => ?_)
      refine lv_aload_n hx hb d_Core_newestStoreTo_11 rfl (lv_at hl 0 rfl) ?_
      refine va_get (D := D) (ci := 1) (v := .ref b1) (C := R_Core) (T := T_Core) (N := 8) hx hb hts in_Core hown hK hP 0 rfl rfl 1 (by decide) (hts _ iw_71) (fun _ h9 => h9) rfl d_Core_newestStoreTo_12 ?_
      refine lv_iload_n hx hb d_Core_newestStoreTo_15 rfl (lv_at hl 2 rfl) ?_
      refine mk_iald hx hb hK hP 1 0 rfl rfl (j := mm) (by omega) (by decide) d_Core_newestStoreTo_16 ?_
      refine lv_iload_n hx hb d_Core_newestStoreTo_17 rfl (lv_at hl 1 rfl) ?_
      refine lv_icmp_ne (tgt := 23) hx hb d_Core_newestStoreTo_18 rfl (fun h18 => ?_) (fun h18 => ?_)
      · refine lv_iinc (k := 2) (v := nI mm - nI 1) hx hb d_Core_newestStoreTo_23 hl rfl (dec1 _) (by decide) rfl (fun ls hl => ?_)
        have hl : lv_has ls 3 [(2, .int (nI mm - nI 1)), (0, .ref aK), (1, .int x)] := hl
        refine lv_goto (tgt := 7) hx hb d_Core_newestStoreTo_26 rfl ?_
        refine ih (t + 1) ls H locs (by omega) (by rw [h_0, cs_new, if_neg h18, hm1]) ?_ ?_ ?_ hS
        · rw [hm1]; exact lv_sub hl [1, 2, 0] rfl
        · exact hP
        · exact hD
      · refine lv_iload_n hx hb d_Core_newestStoreTo_21 rfl (lv_at hl 2 rfl) ?_
        exact mk_iret hx hb hr hlocks hK hP hD hS d_Core_newestStoreTo_22 (by rw [h_0, cs_new, if_pos h18]; rfl) rfl
  exact loop k 0 ls H locs (by omega) rfl (lv_sub hl [1, 2, 0] rfl) hP hD hS
set_option maxRecDepth 100000 in
set_option maxHeartbeats 4000000 in
theorem c_append (l : Launch) (D : va_G) (cI cO : ClassId) (aK aC b1 b2 k ra : Nat) (rk rw lw : Int32) (sa sw : Nat → Int32) (y x : Int32) (hk : k < 4) : mk_M l y_Core_appendStore w_Core_appendStore ({ frames := 0, cells := 0, slots := 0, locals := 0 } : Room) D (tysK cI cO) [.ref aK, .int y, .int x] [(aK, .inr (1, [.ref aC, .ref b1, .ref b2, .int (nI k), .int rk, .int (nI ra), .int rw, .int lw])), (b1, .inl (cI, 4, .inl sa)), (b2, .inl (cI, 4, .inl sw))] (mk_Qv D (tysK cI cO) [(aK, .inr (1, [.ref aC, .ref b1, .ref b2, .int (nI (k + 1)), .int rk, .int (nI ra), .int rw, .int lw])), (b1, .inl (cI, 4, .inl (upd sa k y))), (b2, .inl (cI, 4, .inl (upd sw k x)))]) := by
  refine mk_start (cc := b_Core_appendStore) (maxL := 3) (ret := none) (by decide) (Nat.le_of_ble_eq_true rfl) (fun p e s m below meth c A ls H locs hx hb hml hr hlocks hnm hts hN hown hK hP hD hA hl hS => ?_)
  have hl : lv_has ls 3 [(0, .ref aK), (1, .int y), (2, .int x)] := hl
  refine lv_aload_n hx hb d_Core_appendStore_0 rfl (lv_at hl 0 rfl) ?_
  refine va_get (D := D) (ci := 1) (v := .ref b1) (C := R_Core) (T := T_Core) (N := 8) hx hb hts in_Core hown hK hP 0 rfl rfl 1 (by decide) (hts _ iw_71) (fun _ h9 => h9) rfl d_Core_appendStore_1 ?_
  refine lv_aload_n hx hb d_Core_appendStore_4 rfl (lv_at hl 0 rfl) ?_
  refine va_get (D := D) (ci := 1) (v := .int (nI k)) (C := R_Core) (T := T_Core) (N := 8) hx hb hts in_Core hown hK hP 0 rfl rfl 3 (by decide) (hts _ iw_92) (fun _ h9 => h9) rfl d_Core_appendStore_5 ?_
  refine lv_iload_n hx hb d_Core_appendStore_8 rfl (lv_at hl 1 rfl) ?_
  refine mk_iast hx hb hK hP hD hS 1 0 rfl rfl (j := k) (by omega) (by decide) d_Core_appendStore_9 (fun H locs hP hD hS => ?_)
  have hP : va_P D vwCl [(aK, .inr (1, [.ref aC, .ref b1, .ref b2, .int (nI k), .int rk, .int (nI ra), .int rw, .int lw])), (b1, .inl (cI, 4, .inl (upd sa k y))), (b2, .inl (cI, 4, .inl sw))] H := hP
  have hD : va_D A [(aK, .inr (1, [.ref aC, .ref b1, .ref b2, .int (nI k), .int rk, .int (nI ra), .int rw, .int lw])), (b1, .inl (cI, 4, .inl (upd sa k y))), (b2, .inl (cI, 4, .inl sw))] := hD
  refine lv_aload_n hx hb d_Core_appendStore_10 rfl (lv_at hl 0 rfl) ?_
  refine va_get (D := D) (ci := 1) (v := .ref b2) (C := R_Core) (T := T_Core) (N := 8) hx hb hts in_Core hown hK hP 0 rfl rfl 2 (by decide) (hts _ iw_72) (fun _ h9 => h9) rfl d_Core_appendStore_11 ?_
  refine lv_aload_n hx hb d_Core_appendStore_14 rfl (lv_at hl 0 rfl) ?_
  refine va_get (D := D) (ci := 1) (v := .int (nI k)) (C := R_Core) (T := T_Core) (N := 8) hx hb hts in_Core hown hK hP 0 rfl rfl 3 (by decide) (hts _ iw_92) (fun _ h9 => h9) rfl d_Core_appendStore_15 ?_
  refine lv_iload_n hx hb d_Core_appendStore_18 rfl (lv_at hl 2 rfl) ?_
  refine mk_iast hx hb hK hP hD hS 2 0 rfl rfl (j := k) (by omega) (by decide) d_Core_appendStore_19 (fun H locs hP hD hS => ?_)
  have hP : va_P D vwCl [(aK, .inr (1, [.ref aC, .ref b1, .ref b2, .int (nI k), .int rk, .int (nI ra), .int rw, .int lw])), (b1, .inl (cI, 4, .inl (upd sa k y))), (b2, .inl (cI, 4, .inl (upd sw k x)))] H := hP
  have hD : va_D A [(aK, .inr (1, [.ref aC, .ref b1, .ref b2, .int (nI k), .int rk, .int (nI ra), .int rw, .int lw])), (b1, .inl (cI, 4, .inl (upd sa k y))), (b2, .inl (cI, 4, .inl (upd sw k x)))] := hD
  refine lv_aload_n hx hb d_Core_appendStore_20 rfl (lv_at hl 0 rfl) ?_
  refine lv_dup hx hb d_Core_appendStore_21 rfl ?_
  refine va_get (D := D) (ci := 1) (v := .int (nI k)) (C := R_Core) (T := T_Core) (N := 8) hx hb hts in_Core hown hK hP 0 rfl rfl 3 (by decide) (hts _ iw_92) (fun _ h9 => h9) rfl d_Core_appendStore_22 ?_
  refine lv_iconst (v := nI 1) hx hb d_Core_appendStore_25 (by decide) ?_
  refine lv_iadd hx hb d_Core_appendStore_26 ?_
  refine mk_top (show _ = nI (k + 1) from nI_add _ _) ?_
  refine va_put (D := D) (ci := 1) (v := .int (nI (k + 1))) (ty := .int) (C := R_Core) (T := T_Core) (N := 8) hx hb hts in_Core ty_Core tyok_Core nm_Core hown hK hP hD hS 0 rfl rfl 3 (by decide) (hts _ iw_92) (fun _ h9 => h9) rfl (by decide +kernel) rfl rfl (Nat.le_of_ble_eq_true rfl) d_Core_appendStore_27 (fun H locs hP hD hS => ?_)
  have hP : va_P D vwCl [(aK, .inr (1, [.ref aC, .ref b1, .ref b2, .int (nI (k + 1)), .int rk, .int (nI ra), .int rw, .int lw])), (b1, .inl (cI, 4, .inl (upd sa k y))), (b2, .inl (cI, 4, .inl (upd sw k x)))] H := hP
  have hD : va_D A [(aK, .inr (1, [.ref aC, .ref b1, .ref b2, .int (nI (k + 1)), .int rk, .int (nI ra), .int rw, .int lw])), (b1, .inl (cI, 4, .inl (upd sa k y))), (b2, .inl (cI, 4, .inl (upd sw k x)))] := hD
  exact mk_vret hx hb hr hlocks hK hP hD hS d_Core_appendStore_30 rfl
set_option maxRecDepth 100000 in
set_option maxHeartbeats 4000000 in
theorem c_remove (l : Launch) (D : va_G) (cI cO : ClassId) (aK aC b1 b2 k ra : Nat) (rk rw lw : Int32) (sa sw : Nat → Int32) (hk0 : 1 ≤ k) (hk : k ≤ 4) : mk_M l y_Core_removeOldestStore w_Core_removeOldestStore ({ frames := 0, cells := 0, slots := 0, locals := 0 } : Room) D (tysK cI cO) [.ref aK] [(aK, .inr (1, [.ref aC, .ref b1, .ref b2, .int (nI k), .int rk, .int (nI ra), .int rw, .int lw])), (b1, .inl (cI, 4, .inl sa)), (b2, .inl (cI, 4, .inl sw))] (mk_Qv D (tysK cI cO) [(aK, .inr (1, [.ref aC, .ref b1, .ref b2, .int (nI (k - 1)), .int rk, .int (nI ra), .int rw, .int lw])), (b1, .inl (cI, 4, .inl (cs_sh sa (k - 1)))), (b2, .inl (cI, 4, .inl (cs_sh sw (k - 1))))]) := by
  refine mk_start (cc := b_Core_removeOldestStore) (maxL := 2) (ret := none) (by decide) (Nat.le_of_ble_eq_true rfl) (fun p e s m below meth c A ls H locs hx hb hml hr hlocks hnm hts hN hown hK hP hD hA hl hS => ?_)
  have hl : lv_has ls 2 [(0, .ref aK)] := hl
  refine lv_iconst (v := nI 1) hx hb d_Core_removeOldestStore_0 (by decide) ?_
  refine lv_istore_n hx hb d_Core_removeOldestStore_1 rfl hl (by decide) rfl (fun ls hl => ?_)
  have hl : lv_has ls 2 [(1, .int (nI 1)), (0, .ref aK)] := hl
  have loop : ∀ (fu t : Nat) (ls : Array Slot) (H : Heap) (locs : List Loc), t + fu = k - 1 → lv_has ls 2 [(0, .ref aK), (1, .int (nI (t + 1)))] → va_P D vwCl [(aK, .inr (1, [.ref aC, .ref b1, .ref b2, .int (nI k), .int rk, .int (nI ra), .int rw, .int lw])), (b1, .inl (cI, 4, .inl (cs_sh sa t))), (b2, .inl (cI, 4, .inl (cs_sh sw t)))] H → va_D A [(aK, .inr (1, [.ref aC, .ref b1, .ref b2, .int (nI k), .int rk, .int (nI ra), .int rw, .int lw])), (b1, .inl (cI, 4, .inl (cs_sh sa t))), (b2, .inl (cI, 4, .inl (cs_sh sw t)))] → va_S A s.heap H locs → W p l e ({ frames := 0, cells := 0, slots := 0, locals := 0 } : Room) s m [.ref aK].toArray below meth c H locs 0 0 (MQ below (mk_Qv D (tysK cI cO) [(aK, .inr (1, [.ref aC, .ref b1, .ref b2, .int (nI (k - 1)), .int rk, .int (nI ra), .int rw, .int lw])), (b1, .inl (cI, 4, .inl (cs_sh sa (k - 1)))), (b2, .inl (cI, 4, .inl (cs_sh sw (k - 1))))] A) [.ref aK].toArray s 0 0 A) (F0 m 2 ls []) := by
    intro fu
    induction fu with
    | zero =>
      intro t ls H locs  ht  hl hP hD hS
      have ht1 : k - 1 = t := by omega
      subst ht1
      refine lv_iload_n hx hb d_Core_removeOldestStore_2 rfl (lv_at hl 1 rfl) ?_
      refine lv_aload_n hx hb d_Core_removeOldestStore_3 rfl (lv_at hl 0 rfl) ?_
      refine va_get (D := D) (ci := 1) (v := .int (nI k)) (C := R_Core) (T := T_Core) (N := 8) hx hb hts in_Core hown hK hP 0 rfl rfl 3 (by decide) (hts _ iw_92) (fun _ h9 => h9) rfl d_Core_removeOldestStore_4 ?_
      refine lv_icmp_ge (tgt := 44) hx hb d_Core_removeOldestStore_7 rfl (fun _ => ?_) (fun h => absurd ((nI_leI (by omega) (by omega)).mpr (by omega)) h)
      refine lv_aload_n hx hb d_Core_removeOldestStore_44 rfl (lv_at hl 0 rfl) ?_
      refine lv_dup hx hb d_Core_removeOldestStore_45 rfl ?_
      refine va_get (D := D) (ci := 1) (v := .int (nI k)) (C := R_Core) (T := T_Core) (N := 8) hx hb hts in_Core hown hK hP 0 rfl rfl 3 (by decide) (hts _ iw_92) (fun _ h9 => h9) rfl d_Core_removeOldestStore_46 ?_
      refine lv_iconst (v := nI 1) hx hb d_Core_removeOldestStore_49 (by decide) ?_
      refine lv_isub hx hb d_Core_removeOldestStore_50 ?_
      refine mk_top (show _ = nI (k - 1) from pk_sub (by omega)) ?_
      refine va_put (D := D) (ci := 1) (v := .int (nI (k - 1))) (ty := .int) (C := R_Core) (T := T_Core) (N := 8) hx hb hts in_Core ty_Core tyok_Core nm_Core hown hK hP hD hS 0 rfl rfl 3 (by decide) (hts _ iw_92) (fun _ h9 => h9) rfl (by decide +kernel) rfl rfl (Nat.le_of_ble_eq_true rfl) d_Core_removeOldestStore_51 (fun H locs hP hD hS => ?_)
      have hP : va_P D vwCl [(aK, .inr (1, [.ref aC, .ref b1, .ref b2, .int (nI (k - 1)), .int rk, .int (nI ra), .int rw, .int lw])), (b1, .inl (cI, 4, .inl (cs_sh sa (k - 1)))), (b2, .inl (cI, 4, .inl (cs_sh sw (k - 1))))] H := hP
      have hD : va_D A [(aK, .inr (1, [.ref aC, .ref b1, .ref b2, .int (nI (k - 1)), .int rk, .int (nI ra), .int rw, .int lw])), (b1, .inl (cI, 4, .inl (cs_sh sa (k - 1)))), (b2, .inl (cI, 4, .inl (cs_sh sw (k - 1))))] := hD
      exact mk_vret hx hb hr hlocks hK hP hD hS d_Core_removeOldestStore_54 rfl
    | succ fu ih =>
      intro t ls H locs  ht  hl hP hD hS
      have ht0 : t < k - 1 := by omega
      refine lv_iload_n hx hb d_Core_removeOldestStore_2 rfl (lv_at hl 1 rfl) ?_
      refine lv_aload_n hx hb d_Core_removeOldestStore_3 rfl (lv_at hl 0 rfl) ?_
      refine va_get (D := D) (ci := 1) (v := .int (nI k)) (C := R_Core) (T := T_Core) (N := 8) hx hb hts in_Core hown hK hP 0 rfl rfl 3 (by decide) (hts _ iw_92) (fun _ h9 => h9) rfl d_Core_removeOldestStore_4 ?_
      refine lv_icmp_ge (tgt := 44) hx hb d_Core_removeOldestStore_7 rfl (fun h => absurd h (fun q => absurd ((nI_leI (by omega) (by omega)).mp q) (by omega))) (fun _ => ?_)
      refine lv_aload_n hx hb d_Core_removeOldestStore_10 rfl (lv_at hl 0 rfl) ?_
      refine va_get (D := D) (ci := 1) (v := .ref b1) (C := R_Core) (T := T_Core) (N := 8) hx hb hts in_Core hown hK hP 0 rfl rfl 1 (by decide) (hts _ iw_71) (fun _ h9 => h9) rfl d_Core_removeOldestStore_11 ?_
      refine lv_iload_n hx hb d_Core_removeOldestStore_14 rfl (lv_at hl 1 rfl) ?_
      refine lv_iconst (v := nI 1) hx hb d_Core_removeOldestStore_15 (by decide) ?_
      refine lv_isub hx hb d_Core_removeOldestStore_16 ?_
      refine mk_top (show _ = nI ((t + 1) - 1) from pk_sub (by omega)) ?_
      refine mk_top (show _ = nI t from rfl) ?_
      refine lv_aload_n hx hb d_Core_removeOldestStore_17 rfl (lv_at hl 0 rfl) ?_
      refine va_get (D := D) (ci := 1) (v := .ref b1) (C := R_Core) (T := T_Core) (N := 8) hx hb hts in_Core hown hK hP 0 rfl rfl 1 (by decide) (hts _ iw_71) (fun _ h9 => h9) rfl d_Core_removeOldestStore_18 ?_
      refine lv_iload_n hx hb d_Core_removeOldestStore_21 rfl (lv_at hl 1 rfl) ?_
      refine mk_iald hx hb hK hP 1 0 rfl rfl (j := t + 1) (by omega) (by decide) d_Core_removeOldestStore_22 ?_
      refine mk_iast hx hb hK hP hD hS 1 0 rfl rfl (j := t) (by omega) (by decide) d_Core_removeOldestStore_23 (fun H locs hP hD hS => ?_)
      have hP : va_P D vwCl [(aK, .inr (1, [.ref aC, .ref b1, .ref b2, .int (nI k), .int rk, .int (nI ra), .int rw, .int lw])), (b1, .inl (cI, 4, .inl (upd (cs_sh sa t) t ((cs_sh sa t) (t + 1))))), (b2, .inl (cI, 4, .inl (cs_sh sw t)))] H := hP
      have hD : va_D A [(aK, .inr (1, [.ref aC, .ref b1, .ref b2, .int (nI k), .int rk, .int (nI ra), .int rw, .int lw])), (b1, .inl (cI, 4, .inl (upd (cs_sh sa t) t ((cs_sh sa t) (t + 1))))), (b2, .inl (cI, 4, .inl (cs_sh sw t)))] := hD
      refine lv_aload_n hx hb d_Core_removeOldestStore_24 rfl (lv_at hl 0 rfl) ?_
      refine va_get (D := D) (ci := 1) (v := .ref b2) (C := R_Core) (T := T_Core) (N := 8) hx hb hts in_Core hown hK hP 0 rfl rfl 2 (by decide) (hts _ iw_72) (fun _ h9 => h9) rfl d_Core_removeOldestStore_25 ?_
      refine lv_iload_n hx hb d_Core_removeOldestStore_28 rfl (lv_at hl 1 rfl) ?_
      refine lv_iconst (v := nI 1) hx hb d_Core_removeOldestStore_29 (by decide) ?_
      refine lv_isub hx hb d_Core_removeOldestStore_30 ?_
      refine mk_top (show _ = nI ((t + 1) - 1) from pk_sub (by omega)) ?_
      refine mk_top (show _ = nI t from rfl) ?_
      refine lv_aload_n hx hb d_Core_removeOldestStore_31 rfl (lv_at hl 0 rfl) ?_
      refine va_get (D := D) (ci := 1) (v := .ref b2) (C := R_Core) (T := T_Core) (N := 8) hx hb hts in_Core hown hK hP 0 rfl rfl 2 (by decide) (hts _ iw_72) (fun _ h9 => h9) rfl d_Core_removeOldestStore_32 ?_
      refine lv_iload_n hx hb d_Core_removeOldestStore_35 rfl (lv_at hl 1 rfl) ?_
      refine mk_iald hx hb hK hP 2 0 rfl rfl (j := t + 1) (by omega) (by decide) d_Core_removeOldestStore_36 ?_
      refine mk_iast hx hb hK hP hD hS 2 0 rfl rfl (j := t) (by omega) (by decide) d_Core_removeOldestStore_37 (fun H locs hP hD hS => ?_)
      have hP : va_P D vwCl [(aK, .inr (1, [.ref aC, .ref b1, .ref b2, .int (nI k), .int rk, .int (nI ra), .int rw, .int lw])), (b1, .inl (cI, 4, .inl (upd (cs_sh sa t) t ((cs_sh sa t) (t + 1))))), (b2, .inl (cI, 4, .inl (upd (cs_sh sw t) t ((cs_sh sw t) (t + 1)))))] H := hP
      have hD : va_D A [(aK, .inr (1, [.ref aC, .ref b1, .ref b2, .int (nI k), .int rk, .int (nI ra), .int rw, .int lw])), (b1, .inl (cI, 4, .inl (upd (cs_sh sa t) t ((cs_sh sa t) (t + 1))))), (b2, .inl (cI, 4, .inl (upd (cs_sh sw t) t ((cs_sh sw t) (t + 1)))))] := hD
      refine lv_iinc (k := 1) (v := nI ((t + 1) + 1)) hx hb d_Core_removeOldestStore_38 hl rfl (nI_1 _) (by decide) rfl (fun ls hl => ?_)
      have hl : lv_has ls 2 [(1, .int (nI ((t + 1) + 1))), (0, .ref aK)] := hl
      refine lv_goto (tgt := 2) hx hb d_Core_removeOldestStore_41 rfl ?_
      refine ih (t + 1) ls H locs (by omega) ?_ ?_ ?_ hS
      · exact lv_sub hl [1, 0] rfl
      · rw [← cs_sh_s sa t, ← cs_sh_s sw t]; exact hP
      · rw [← cs_sh_s sa t, ← cs_sh_s sw t]; exact hD
  exact loop (k - 1) 0 ls H locs (by omega) (lv_sub hl [1, 0] rfl) (by rw [cs_sh_0, cs_sh_0]; exact hP) (by rw [cs_sh_0, cs_sh_0]; exact hD) hS
set_option maxRecDepth 100000 in
set_option maxHeartbeats 4000000 in
theorem c_change_own (l : Launch) (D : va_G) (cI cO : ClassId) (aK aC b1 b2 k ra : Nat) (rk rw lw : Int32) (aM a1 a2 a3 wy : Nat) (us : Int32) (st ua wd : Nat → Int32) (sa sw : Nat → Int32) (j : Nat) (x : Int32) (hj : j < 32) (hk0 : 1 ≤ k) (hk : k ≤ 4) : mk_M l y_Core_change w_Core_change ({ frames := 2, cells := 0, slots := 0, locals := 44 } : Room) D (tysK cI cO) [.ref aK, .int (nI 2), .int (nI j), .int x] [(aK, .inr (1, [.ref aC, .ref b1, .ref b2, .int (nI k), .int rk, .int (nI ra), .int rw, .int lw])), (b1, .inl (cI, 4, .inl sa)), (b2, .inl (cI, 4, .inl sw)), (aC, .inr (0, [.ref aM, .int (nI wy), .ref a1, .ref a2, .ref a3, .int us])), (a1, .inl (cI, 8, .inl st)), (a2, .inl (cI, 8, .inl ua)), (a3, .inl (cI, 32, .inl wd))] (mk_Qv D (tysK cI cO) [(aK, .inr (1, [.ref aC, .ref b1, .ref b2, .int (nI (k - 1)), .int rk, .int (nI ra), .int rw, .int lw])), (b1, .inl (cI, 4, .inl (cs_sh sa (k - 1)))), (b2, .inl (cI, 4, .inl (cs_sh sw (k - 1)))), (aC, .inr (0, [.ref aM, .int (nI wy), .ref a1, .ref a2, .ref a3, .int (us + nI 1)])), (a1, .inl (cI, 8, .inl (upd st (j / 4) (nI 3)))), (a2, .inl (cI, 8, .inl (upd ua (j / 4) (us + nI 1)))), (a3, .inl (cI, 32, .inl (upd wd j (x))))]) := by
  refine mk_start (cc := b_Core_change) (maxL := 5) (ret := none) (by decide) (Nat.le_of_ble_eq_true rfl) (fun p e s m below meth c A ls H locs hx hb hml hr hlocks hnm hts hN hown hK hP hD hA hl hS => ?_)
  have hl : lv_has ls 5 [(0, .ref aK), (1, .int (nI 2)), (2, .int (nI j)), (3, .int x)] := hl
  refine lv_iload_n hx hb d_Core_change_0 rfl (lv_at hl 1 rfl) ?_
  refine lv_iconst (v := nI 2) hx hb d_Core_change_1 (by decide) ?_
  refine lv_icmp_ne (tgt := 19) hx hb d_Core_change_2 rfl (fun h => absurd (by decide) h) (fun _ => ?_)
  refine lv_aload_n hx hb d_Core_change_5 rfl (lv_at hl 0 rfl) ?_
  refine va_get (D := D) (ci := 1) (v := .ref aC) (C := R_Core) (T := T_Core) (N := 8) hx hb hts in_Core hown hK hP 0 rfl rfl 0 (by decide) (hts _ iw_74) (fun _ h9 => h9) rfl d_Core_change_6 ?_
  refine lv_iload_n hx hb d_Core_change_9 rfl (lv_at hl 2 rfl) ?_
  refine lv_iload_n hx hb d_Core_change_10 rfl (lv_at hl 3 rfl) ?_
  refine mk_callv (X := [(aK, .inr (1, [.ref aC, .ref b1, .ref b2, .int (nI k), .int rk, .int (nI ra), .int rw, .int lw])), (b1, .inl (cI, 4, .inl sa)), (b2, .inl (cI, 4, .inl sw)), (aC, .inr (0, [.ref aM, .int (nI wy), .ref a1, .ref a2, .ref a3, .int us])), (a1, .inl (cI, 8, .inl st)), (a2, .inl (cI, 8, .inl ua)), (a3, .inl (cI, 32, .inl wd))]) (pl := []) (wc := [(aC, .inr (0, [.ref aM, .int (nI wy), .ref a1, .ref a2, .ref a3, .int us])), (a1, .inl (cI, 8, .inl st)), (a2, .inl (cI, 8, .inl ua)), (a3, .inl (cI, 32, .inl wd))]) (wr := [(aK, .inr (1, [.ref aC, .ref b1, .ref b2, .int (nI k), .int rk, .int (nI ra), .int rw, .int lw])), (b1, .inl (cI, 4, .inl sa)), (b2, .inl (cI, 4, .inl sw))]) (w1 := [(aC, .inr (0, [.ref aM, .int (nI wy), .ref a1, .ref a2, .ref a3, .int (us + nI 1)])), (a1, .inl (cI, 8, .inl (upd st (j / 4) (nI 3)))), (a2, .inl (cI, 8, .inl (upd ua (j / 4) (us + nI 1)))), (a3, .inl (cI, 32, .inl (upd wd j x)))]) (X1 := [(aK, .inr (1, [.ref aC, .ref b1, .ref b2, .int (nI k), .int rk, .int (nI ra), .int rw, .int lw])), (b1, .inl (cI, 4, .inl sa)), (b2, .inl (cI, 4, .inl sw)), (aC, .inr (0, [.ref aM, .int (nI wy), .ref a1, .ref a2, .ref a3, .int (us + nI 1)])), (a1, .inl (cI, 8, .inl (upd st (j / 4) (nI 3)))), (a2, .inl (cI, 8, .inl (upd ua (j / 4) (us + nI 1)))), (a3, .inl (cI, 32, .inl (upd wd j x)))]) hP hD hS hA [3, 4, 5, 6] [0, 1, 2] [0, 1, 2, 3, 4, 5, 6] rfl rfl rfl (by decide) (by decide) (by decide)
    (va_runVN (b := aC) (As := [.int (nI j), .int x]) (rest := []) ⟨hx, hb, hml, hown, hts⟩ (c_put l D cI cO aC aM a1 a2 a3 wy us st ua wd j x (by first | assumption | omega) H.size) ⟨va_cnB 2 hts g_Cache_put rfl rfl rfl (hN _ in_w18) (hts _ iw_40) (by decide +kernel) ⟨by decide, by decide⟩, hts _ iw_130, hts _ iw_131⟩ (mk_preV (X := [(aK, .inr (1, [.ref aC, .ref b1, .ref b2, .int (nI k), .int rk, .int (nI ra), .int rw, .int lw])), (b1, .inl (cI, 4, .inl sa)), (b2, .inl (cI, 4, .inl sw)), (aC, .inr (0, [.ref aM, .int (nI wy), .ref a1, .ref a2, .ref a3, .int us])), (a1, .inl (cI, 8, .inl st)), (a2, .inl (cI, 8, .inl ua)), (a3, .inl (cI, 32, .inl wd))]) (pl := []) hN hK hP hD [3, 4, 5, 6] (by decide) rfl 3 rfl rfl rfl) rfl rfl hl.1 rfl (lv_room (Nat.le_of_ble_eq_true rfl)) d_Core_change_11 ⟨Nat.le_refl _, Nat.le_refl _⟩) (fun H locs hP hD hS => ?_)
  have hP : va_P D vwCl [(aK, .inr (1, [.ref aC, .ref b1, .ref b2, .int (nI k), .int rk, .int (nI ra), .int rw, .int lw])), (b1, .inl (cI, 4, .inl sa)), (b2, .inl (cI, 4, .inl sw)), (aC, .inr (0, [.ref aM, .int (nI wy), .ref a1, .ref a2, .ref a3, .int (us + nI 1)])), (a1, .inl (cI, 8, .inl (upd st (j / 4) (nI 3)))), (a2, .inl (cI, 8, .inl (upd ua (j / 4) (us + nI 1)))), (a3, .inl (cI, 32, .inl (upd wd j x)))] H := hP
  have hD : va_D A [(aK, .inr (1, [.ref aC, .ref b1, .ref b2, .int (nI k), .int rk, .int (nI ra), .int rw, .int lw])), (b1, .inl (cI, 4, .inl sa)), (b2, .inl (cI, 4, .inl sw)), (aC, .inr (0, [.ref aM, .int (nI wy), .ref a1, .ref a2, .ref a3, .int (us + nI 1)])), (a1, .inl (cI, 8, .inl (upd st (j / 4) (nI 3)))), (a2, .inl (cI, 8, .inl (upd ua (j / 4) (us + nI 1)))), (a3, .inl (cI, 32, .inl (upd wd j x)))] := hD
  refine lv_aload_n hx hb d_Core_change_14 rfl (lv_at hl 0 rfl) ?_
  refine mk_callv (X := [(aK, .inr (1, [.ref aC, .ref b1, .ref b2, .int (nI k), .int rk, .int (nI ra), .int rw, .int lw])), (b1, .inl (cI, 4, .inl sa)), (b2, .inl (cI, 4, .inl sw)), (aC, .inr (0, [.ref aM, .int (nI wy), .ref a1, .ref a2, .ref a3, .int (us + nI 1)])), (a1, .inl (cI, 8, .inl (upd st (j / 4) (nI 3)))), (a2, .inl (cI, 8, .inl (upd ua (j / 4) (us + nI 1)))), (a3, .inl (cI, 32, .inl (upd wd j x)))]) (pl := []) (wc := [(aK, .inr (1, [.ref aC, .ref b1, .ref b2, .int (nI k), .int rk, .int (nI ra), .int rw, .int lw])), (b1, .inl (cI, 4, .inl sa)), (b2, .inl (cI, 4, .inl sw))]) (wr := [(aC, .inr (0, [.ref aM, .int (nI wy), .ref a1, .ref a2, .ref a3, .int (us + nI 1)])), (a1, .inl (cI, 8, .inl (upd st (j / 4) (nI 3)))), (a2, .inl (cI, 8, .inl (upd ua (j / 4) (us + nI 1)))), (a3, .inl (cI, 32, .inl (upd wd j x)))]) (w1 := [(aK, .inr (1, [.ref aC, .ref b1, .ref b2, .int (nI (k - 1)), .int rk, .int (nI ra), .int rw, .int lw])), (b1, .inl (cI, 4, .inl (cs_sh sa (k - 1)))), (b2, .inl (cI, 4, .inl (cs_sh sw (k - 1))))]) (X1 := [(aK, .inr (1, [.ref aC, .ref b1, .ref b2, .int (nI (k - 1)), .int rk, .int (nI ra), .int rw, .int lw])), (b1, .inl (cI, 4, .inl (cs_sh sa (k - 1)))), (b2, .inl (cI, 4, .inl (cs_sh sw (k - 1)))), (aC, .inr (0, [.ref aM, .int (nI wy), .ref a1, .ref a2, .ref a3, .int (us + nI 1)])), (a1, .inl (cI, 8, .inl (upd st (j / 4) (nI 3)))), (a2, .inl (cI, 8, .inl (upd ua (j / 4) (us + nI 1)))), (a3, .inl (cI, 32, .inl (upd wd j x)))]) hP hD hS hA [0, 1, 2] [3, 4, 5, 6] [4, 5, 6, 0, 1, 2, 3] rfl rfl rfl (by decide) (by decide) (by decide)
    (va_runV (b := aK) (As := []) (rest := []) ⟨hx, hb, hml, hown, hts⟩ (c_remove l D cI cO aK aC b1 b2 k ra rk rw lw sa sw (by first | assumption | omega) (by first | assumption | omega) H.size) ⟨callB_of 0 hts g_Core_removeOldestStore rfl rfl rfl (hts _ iw_41) (hts _ iw_127) (by decide +kernel) ⟨by decide, by decide⟩, hts _ iw_134, hts _ iw_135⟩ (mk_preV (X := [(aK, .inr (1, [.ref aC, .ref b1, .ref b2, .int (nI k), .int rk, .int (nI ra), .int rw, .int lw])), (b1, .inl (cI, 4, .inl sa)), (b2, .inl (cI, 4, .inl sw)), (aC, .inr (0, [.ref aM, .int (nI wy), .ref a1, .ref a2, .ref a3, .int (us + nI 1)])), (a1, .inl (cI, 8, .inl (upd st (j / 4) (nI 3)))), (a2, .inl (cI, 8, .inl (upd ua (j / 4) (us + nI 1)))), (a3, .inl (cI, 32, .inl (upd wd j x)))]) (pl := []) hN hK hP hD [0, 1, 2] (by decide) rfl 0 rfl rfl rfl) rfl rfl hl.1 rfl (lv_room (Nat.le_of_ble_eq_true rfl)) d_Core_change_15 ⟨Nat.le_refl _, Nat.le_refl _⟩) (fun H locs hP hD hS => ?_)
  have hP : va_P D vwCl [(aK, .inr (1, [.ref aC, .ref b1, .ref b2, .int (nI (k - 1)), .int rk, .int (nI ra), .int rw, .int lw])), (b1, .inl (cI, 4, .inl (cs_sh sa (k - 1)))), (b2, .inl (cI, 4, .inl (cs_sh sw (k - 1)))), (aC, .inr (0, [.ref aM, .int (nI wy), .ref a1, .ref a2, .ref a3, .int (us + nI 1)])), (a1, .inl (cI, 8, .inl (upd st (j / 4) (nI 3)))), (a2, .inl (cI, 8, .inl (upd ua (j / 4) (us + nI 1)))), (a3, .inl (cI, 32, .inl (upd wd j x)))] H := hP
  have hD : va_D A [(aK, .inr (1, [.ref aC, .ref b1, .ref b2, .int (nI (k - 1)), .int rk, .int (nI ra), .int rw, .int lw])), (b1, .inl (cI, 4, .inl (cs_sh sa (k - 1)))), (b2, .inl (cI, 4, .inl (cs_sh sw (k - 1)))), (aC, .inr (0, [.ref aM, .int (nI wy), .ref a1, .ref a2, .ref a3, .int (us + nI 1)])), (a1, .inl (cI, 8, .inl (upd st (j / 4) (nI 3)))), (a2, .inl (cI, 8, .inl (upd ua (j / 4) (us + nI 1)))), (a3, .inl (cI, 32, .inl (upd wd j x)))] := hD
  exact mk_vret hx hb hr hlocks hK hP hD hS d_Core_change_18 rfl
set_option maxRecDepth 100000 in
set_option maxHeartbeats 4000000 in
theorem c_change_tr (l : Launch) (D : va_G) (cI cO : ClassId) (aK aC b1 b2 k ra : Nat) (rk rw lw : Int32) (aM a1 a2 a3 wy : Nat) (us : Int32) (st ua wd : Nat → Int32) (j : Nat) (x : Int32) (hj : j < 32) : mk_M l y_Core_change w_Core_change ({ frames := 2, cells := 0, slots := 0, locals := 44 } : Room) D (tysK cI cO) [.ref aK, .int (nI 3), .int (nI j), .int x] [(aK, .inr (1, [.ref aC, .ref b1, .ref b2, .int (nI k), .int rk, .int (nI ra), .int rw, .int lw])), (aC, .inr (0, [.ref aM, .int (nI wy), .ref a1, .ref a2, .ref a3, .int us])), (a1, .inl (cI, 8, .inl st)), (a2, .inl (cI, 8, .inl ua)), (a3, .inl (cI, 32, .inl wd))] (mk_Qv D (tysK cI cO) [(aK, .inr (1, [.ref aC, .ref b1, .ref b2, .int (nI k), .int rk, .int (nI ra), .int rw, .int (wd j)])), (aC, .inr (0, [.ref aM, .int (nI wy), .ref a1, .ref a2, .ref a3, .int (us + nI 1)])), (a1, .inl (cI, 8, .inl (upd st (j / 4) (nI 3)))), (a2, .inl (cI, 8, .inl (upd ua (j / 4) (us + nI 1)))), (a3, .inl (cI, 32, .inl (upd wd j (x))))]) := by
  refine mk_start (cc := b_Core_change) (maxL := 5) (ret := none) (by decide) (Nat.le_of_ble_eq_true rfl) (fun p e s m below meth c A ls H locs hx hb hml hr hlocks hnm hts hN hown hK hP hD hA hl hS => ?_)
  have hl : lv_has ls 5 [(0, .ref aK), (1, .int (nI 3)), (2, .int (nI j)), (3, .int x)] := hl
  refine lv_iload_n hx hb d_Core_change_0 rfl (lv_at hl 1 rfl) ?_
  refine lv_iconst (v := nI 2) hx hb d_Core_change_1 (by decide) ?_
  refine lv_icmp_ne (tgt := 19) hx hb d_Core_change_2 rfl (fun _ => ?_) (fun h => absurd h (by decide))
  refine lv_aload_n hx hb d_Core_change_19 rfl (lv_at hl 0 rfl) ?_
  refine va_get (D := D) (ci := 1) (v := .ref aC) (C := R_Core) (T := T_Core) (N := 8) hx hb hts in_Core hown hK hP 0 rfl rfl 0 (by decide) (hts _ iw_74) (fun _ h9 => h9) rfl d_Core_change_20 ?_
  refine va_getN (D := D) (ci := 0) (v := .ref a3) (C := R_Cache) (T := T_Cache) (N := 6) hx hb hts in_Cache hown hK hP 1 rfl rfl 4 (by decide) (va_Nw.use rfl (hN _ in_w19)) (fun _ h9 => h9) rfl d_Core_change_23 ?_
  refine lv_iload_n hx hb d_Core_change_26 rfl (lv_at hl 2 rfl) ?_
  refine mk_iald hx hb hK hP 4 0 rfl rfl (j := j) (by omega) (by decide) d_Core_change_27 ?_
  refine lv_istore hx hb d_Core_change_28 hl (by decide) rfl (fun ls hl => ?_)
  have hl : lv_has ls 5 [(4, .int (wd j)), (0, .ref aK), (1, .int (nI 3)), (2, .int (nI j)), (3, .int x)] := hl
  refine lv_aload_n hx hb d_Core_change_30 rfl (lv_at hl 1 rfl) ?_
  refine lv_iload hx hb d_Core_change_31 (lv_at hl 0 rfl) ?_
  refine va_put (D := D) (ci := 1) (v := .int (wd j)) (ty := .int) (C := R_Core) (T := T_Core) (N := 8) hx hb hts in_Core ty_Core tyok_Core nm_Core hown hK hP hD hS 0 rfl rfl 7 (by decide) (hts _ iw_128) (fun _ h9 => h9) rfl (by decide +kernel) rfl rfl (Nat.le_of_ble_eq_true rfl) d_Core_change_33 (fun H locs hP hD hS => ?_)
  have hP : va_P D vwCl [(aK, .inr (1, [.ref aC, .ref b1, .ref b2, .int (nI k), .int rk, .int (nI ra), .int rw, .int (wd j)])), (aC, .inr (0, [.ref aM, .int (nI wy), .ref a1, .ref a2, .ref a3, .int us])), (a1, .inl (cI, 8, .inl st)), (a2, .inl (cI, 8, .inl ua)), (a3, .inl (cI, 32, .inl wd))] H := hP
  have hD : va_D A [(aK, .inr (1, [.ref aC, .ref b1, .ref b2, .int (nI k), .int rk, .int (nI ra), .int rw, .int (wd j)])), (aC, .inr (0, [.ref aM, .int (nI wy), .ref a1, .ref a2, .ref a3, .int us])), (a1, .inl (cI, 8, .inl st)), (a2, .inl (cI, 8, .inl ua)), (a3, .inl (cI, 32, .inl wd))] := hD
  refine lv_aload_n hx hb d_Core_change_36 rfl (lv_at hl 1 rfl) ?_
  refine va_get (D := D) (ci := 1) (v := .ref aC) (C := R_Core) (T := T_Core) (N := 8) hx hb hts in_Core hown hK hP 0 rfl rfl 0 (by decide) (hts _ iw_74) (fun _ h9 => h9) rfl d_Core_change_37 ?_
  refine lv_iload_n hx hb d_Core_change_40 rfl (lv_at hl 3 rfl) ?_
  refine lv_iload_n hx hb d_Core_change_41 rfl (lv_at hl 2 rfl) ?_
  refine lv_iconst (v := nI 4) hx hb d_Core_change_42 (by decide) ?_
  refine lv_icmp_ne (tgt := 53) hx hb d_Core_change_43 rfl (fun _ => ?_) (fun h => absurd h (by decide))
  refine lv_iload_n hx hb d_Core_change_53 rfl (lv_at hl 4 rfl) ?_
  refine mk_callv (X := [(aK, .inr (1, [.ref aC, .ref b1, .ref b2, .int (nI k), .int rk, .int (nI ra), .int rw, .int (wd j)])), (aC, .inr (0, [.ref aM, .int (nI wy), .ref a1, .ref a2, .ref a3, .int us])), (a1, .inl (cI, 8, .inl st)), (a2, .inl (cI, 8, .inl ua)), (a3, .inl (cI, 32, .inl wd))]) (pl := []) (wc := [(aC, .inr (0, [.ref aM, .int (nI wy), .ref a1, .ref a2, .ref a3, .int us])), (a1, .inl (cI, 8, .inl st)), (a2, .inl (cI, 8, .inl ua)), (a3, .inl (cI, 32, .inl wd))]) (wr := [(aK, .inr (1, [.ref aC, .ref b1, .ref b2, .int (nI k), .int rk, .int (nI ra), .int rw, .int (wd j)]))]) (w1 := [(aC, .inr (0, [.ref aM, .int (nI wy), .ref a1, .ref a2, .ref a3, .int (us + nI 1)])), (a1, .inl (cI, 8, .inl (upd st (j / 4) (nI 3)))), (a2, .inl (cI, 8, .inl (upd ua (j / 4) (us + nI 1)))), (a3, .inl (cI, 32, .inl (upd wd j x)))]) (X1 := [(aK, .inr (1, [.ref aC, .ref b1, .ref b2, .int (nI k), .int rk, .int (nI ra), .int rw, .int (wd j)])), (aC, .inr (0, [.ref aM, .int (nI wy), .ref a1, .ref a2, .ref a3, .int (us + nI 1)])), (a1, .inl (cI, 8, .inl (upd st (j / 4) (nI 3)))), (a2, .inl (cI, 8, .inl (upd ua (j / 4) (us + nI 1)))), (a3, .inl (cI, 32, .inl (upd wd j x)))]) hP hD hS hA [1, 2, 3, 4] [0] [0, 1, 2, 3, 4] rfl rfl rfl (by decide) (by decide) (by decide)
    (va_runVN (b := aC) (As := [.int (nI j), .int x]) (rest := []) ⟨hx, hb, hml, hown, hts⟩ (c_put l D cI cO aC aM a1 a2 a3 wy us st ua wd j x (by first | assumption | omega) H.size) ⟨va_cnB 2 hts g_Cache_put rfl rfl rfl (hN _ in_w18) (hts _ iw_40) (by decide +kernel) ⟨by decide, by decide⟩, hts _ iw_130, hts _ iw_131⟩ (mk_preV (X := [(aK, .inr (1, [.ref aC, .ref b1, .ref b2, .int (nI k), .int rk, .int (nI ra), .int rw, .int (wd j)])), (aC, .inr (0, [.ref aM, .int (nI wy), .ref a1, .ref a2, .ref a3, .int us])), (a1, .inl (cI, 8, .inl st)), (a2, .inl (cI, 8, .inl ua)), (a3, .inl (cI, 32, .inl wd))]) (pl := []) hN hK hP hD [1, 2, 3, 4] (by decide) rfl 1 rfl rfl rfl) rfl rfl hl.1 rfl (lv_room (Nat.le_of_ble_eq_true rfl)) d_Core_change_54 ⟨Nat.le_refl _, Nat.le_refl _⟩) (fun H locs hP hD hS => ?_)
  have hP : va_P D vwCl [(aK, .inr (1, [.ref aC, .ref b1, .ref b2, .int (nI k), .int rk, .int (nI ra), .int rw, .int (wd j)])), (aC, .inr (0, [.ref aM, .int (nI wy), .ref a1, .ref a2, .ref a3, .int (us + nI 1)])), (a1, .inl (cI, 8, .inl (upd st (j / 4) (nI 3)))), (a2, .inl (cI, 8, .inl (upd ua (j / 4) (us + nI 1)))), (a3, .inl (cI, 32, .inl (upd wd j x)))] H := hP
  have hD : va_D A [(aK, .inr (1, [.ref aC, .ref b1, .ref b2, .int (nI k), .int rk, .int (nI ra), .int rw, .int (wd j)])), (aC, .inr (0, [.ref aM, .int (nI wy), .ref a1, .ref a2, .ref a3, .int (us + nI 1)])), (a1, .inl (cI, 8, .inl (upd st (j / 4) (nI 3)))), (a2, .inl (cI, 8, .inl (upd ua (j / 4) (us + nI 1)))), (a3, .inl (cI, 32, .inl (upd wd j x)))] := hD
  exact mk_vret hx hb hr hlocks hK hP hD hS d_Core_change_57 rfl
set_option maxRecDepth 100000 in
set_option maxHeartbeats 4000000 in
theorem c_change_ra (l : Launch) (D : va_G) (cI cO : ClassId) (aK aC b1 b2 k ra : Nat) (rk rw lw : Int32) (aM a1 a2 a3 wy : Nat) (us : Int32) (st ua wd : Nat → Int32) (j : Nat) (x : Int32) (hj : j < 32) : mk_M l y_Core_change w_Core_change ({ frames := 2, cells := 0, slots := 0, locals := 44 } : Room) D (tysK cI cO) [.ref aK, .int (nI 4), .int (nI j), .int x] [(aK, .inr (1, [.ref aC, .ref b1, .ref b2, .int (nI k), .int rk, .int (nI ra), .int rw, .int lw])), (aC, .inr (0, [.ref aM, .int (nI wy), .ref a1, .ref a2, .ref a3, .int us])), (a1, .inl (cI, 8, .inl st)), (a2, .inl (cI, 8, .inl ua)), (a3, .inl (cI, 32, .inl wd))] (mk_Qv D (tysK cI cO) [(aK, .inr (1, [.ref aC, .ref b1, .ref b2, .int (nI k), .int rk, .int (nI ra), .int rw, .int (wd j)])), (aC, .inr (0, [.ref aM, .int (nI wy), .ref a1, .ref a2, .ref a3, .int (us + nI 1)])), (a1, .inl (cI, 8, .inl (upd st (j / 4) (nI 3)))), (a2, .inl (cI, 8, .inl (upd ua (j / 4) (us + nI 1)))), (a3, .inl (cI, 32, .inl (upd wd j (wd j + x))))]) := by
  refine mk_start (cc := b_Core_change) (maxL := 5) (ret := none) (by decide) (Nat.le_of_ble_eq_true rfl) (fun p e s m below meth c A ls H locs hx hb hml hr hlocks hnm hts hN hown hK hP hD hA hl hS => ?_)
  have hl : lv_has ls 5 [(0, .ref aK), (1, .int (nI 4)), (2, .int (nI j)), (3, .int x)] := hl
  refine lv_iload_n hx hb d_Core_change_0 rfl (lv_at hl 1 rfl) ?_
  refine lv_iconst (v := nI 2) hx hb d_Core_change_1 (by decide) ?_
  refine lv_icmp_ne (tgt := 19) hx hb d_Core_change_2 rfl (fun _ => ?_) (fun h => absurd h (by decide))
  refine lv_aload_n hx hb d_Core_change_19 rfl (lv_at hl 0 rfl) ?_
  refine va_get (D := D) (ci := 1) (v := .ref aC) (C := R_Core) (T := T_Core) (N := 8) hx hb hts in_Core hown hK hP 0 rfl rfl 0 (by decide) (hts _ iw_74) (fun _ h9 => h9) rfl d_Core_change_20 ?_
  refine va_getN (D := D) (ci := 0) (v := .ref a3) (C := R_Cache) (T := T_Cache) (N := 6) hx hb hts in_Cache hown hK hP 1 rfl rfl 4 (by decide) (va_Nw.use rfl (hN _ in_w19)) (fun _ h9 => h9) rfl d_Core_change_23 ?_
  refine lv_iload_n hx hb d_Core_change_26 rfl (lv_at hl 2 rfl) ?_
  refine mk_iald hx hb hK hP 4 0 rfl rfl (j := j) (by omega) (by decide) d_Core_change_27 ?_
  refine lv_istore hx hb d_Core_change_28 hl (by decide) rfl (fun ls hl => ?_)
  have hl : lv_has ls 5 [(4, .int (wd j)), (0, .ref aK), (1, .int (nI 4)), (2, .int (nI j)), (3, .int x)] := hl
  refine lv_aload_n hx hb d_Core_change_30 rfl (lv_at hl 1 rfl) ?_
  refine lv_iload hx hb d_Core_change_31 (lv_at hl 0 rfl) ?_
  refine va_put (D := D) (ci := 1) (v := .int (wd j)) (ty := .int) (C := R_Core) (T := T_Core) (N := 8) hx hb hts in_Core ty_Core tyok_Core nm_Core hown hK hP hD hS 0 rfl rfl 7 (by decide) (hts _ iw_128) (fun _ h9 => h9) rfl (by decide +kernel) rfl rfl (Nat.le_of_ble_eq_true rfl) d_Core_change_33 (fun H locs hP hD hS => ?_)
  have hP : va_P D vwCl [(aK, .inr (1, [.ref aC, .ref b1, .ref b2, .int (nI k), .int rk, .int (nI ra), .int rw, .int (wd j)])), (aC, .inr (0, [.ref aM, .int (nI wy), .ref a1, .ref a2, .ref a3, .int us])), (a1, .inl (cI, 8, .inl st)), (a2, .inl (cI, 8, .inl ua)), (a3, .inl (cI, 32, .inl wd))] H := hP
  have hD : va_D A [(aK, .inr (1, [.ref aC, .ref b1, .ref b2, .int (nI k), .int rk, .int (nI ra), .int rw, .int (wd j)])), (aC, .inr (0, [.ref aM, .int (nI wy), .ref a1, .ref a2, .ref a3, .int us])), (a1, .inl (cI, 8, .inl st)), (a2, .inl (cI, 8, .inl ua)), (a3, .inl (cI, 32, .inl wd))] := hD
  refine lv_aload_n hx hb d_Core_change_36 rfl (lv_at hl 1 rfl) ?_
  refine va_get (D := D) (ci := 1) (v := .ref aC) (C := R_Core) (T := T_Core) (N := 8) hx hb hts in_Core hown hK hP 0 rfl rfl 0 (by decide) (hts _ iw_74) (fun _ h9 => h9) rfl d_Core_change_37 ?_
  refine lv_iload_n hx hb d_Core_change_40 rfl (lv_at hl 3 rfl) ?_
  refine lv_iload_n hx hb d_Core_change_41 rfl (lv_at hl 2 rfl) ?_
  refine lv_iconst (v := nI 4) hx hb d_Core_change_42 (by decide) ?_
  refine lv_icmp_ne (tgt := 53) hx hb d_Core_change_43 rfl (fun h => absurd (by decide) h) (fun _ => ?_)
  refine lv_iload hx hb d_Core_change_46 (lv_at hl 0 rfl) ?_
  refine lv_iload_n hx hb d_Core_change_48 rfl (lv_at hl 4 rfl) ?_
  refine lv_iadd hx hb d_Core_change_49 ?_
  refine lv_goto (tgt := 54) hx hb d_Core_change_50 rfl ?_
  refine mk_callv (X := [(aK, .inr (1, [.ref aC, .ref b1, .ref b2, .int (nI k), .int rk, .int (nI ra), .int rw, .int (wd j)])), (aC, .inr (0, [.ref aM, .int (nI wy), .ref a1, .ref a2, .ref a3, .int us])), (a1, .inl (cI, 8, .inl st)), (a2, .inl (cI, 8, .inl ua)), (a3, .inl (cI, 32, .inl wd))]) (pl := []) (wc := [(aC, .inr (0, [.ref aM, .int (nI wy), .ref a1, .ref a2, .ref a3, .int us])), (a1, .inl (cI, 8, .inl st)), (a2, .inl (cI, 8, .inl ua)), (a3, .inl (cI, 32, .inl wd))]) (wr := [(aK, .inr (1, [.ref aC, .ref b1, .ref b2, .int (nI k), .int rk, .int (nI ra), .int rw, .int (wd j)]))]) (w1 := [(aC, .inr (0, [.ref aM, .int (nI wy), .ref a1, .ref a2, .ref a3, .int (us + nI 1)])), (a1, .inl (cI, 8, .inl (upd st (j / 4) (nI 3)))), (a2, .inl (cI, 8, .inl (upd ua (j / 4) (us + nI 1)))), (a3, .inl (cI, 32, .inl (upd wd j ((wd j) + x))))]) (X1 := [(aK, .inr (1, [.ref aC, .ref b1, .ref b2, .int (nI k), .int rk, .int (nI ra), .int rw, .int (wd j)])), (aC, .inr (0, [.ref aM, .int (nI wy), .ref a1, .ref a2, .ref a3, .int (us + nI 1)])), (a1, .inl (cI, 8, .inl (upd st (j / 4) (nI 3)))), (a2, .inl (cI, 8, .inl (upd ua (j / 4) (us + nI 1)))), (a3, .inl (cI, 32, .inl (upd wd j ((wd j) + x))))]) hP hD hS hA [1, 2, 3, 4] [0] [0, 1, 2, 3, 4] rfl rfl rfl (by decide) (by decide) (by decide)
    (va_runVN (b := aC) (As := [.int (nI j), .int ((wd j) + x)]) (rest := []) ⟨hx, hb, hml, hown, hts⟩ (c_put l D cI cO aC aM a1 a2 a3 wy us st ua wd j ((wd j) + x) (by first | assumption | omega) H.size) ⟨va_cnB 2 hts g_Cache_put rfl rfl rfl (hN _ in_w18) (hts _ iw_40) (by decide +kernel) ⟨by decide, by decide⟩, hts _ iw_130, hts _ iw_131⟩ (mk_preV (X := [(aK, .inr (1, [.ref aC, .ref b1, .ref b2, .int (nI k), .int rk, .int (nI ra), .int rw, .int (wd j)])), (aC, .inr (0, [.ref aM, .int (nI wy), .ref a1, .ref a2, .ref a3, .int us])), (a1, .inl (cI, 8, .inl st)), (a2, .inl (cI, 8, .inl ua)), (a3, .inl (cI, 32, .inl wd))]) (pl := []) hN hK hP hD [1, 2, 3, 4] (by decide) rfl 1 rfl rfl rfl) rfl rfl hl.1 rfl (lv_room (Nat.le_of_ble_eq_true rfl)) d_Core_change_54 ⟨Nat.le_refl _, Nat.le_refl _⟩) (fun H locs hP hD hS => ?_)
  have hP : va_P D vwCl [(aK, .inr (1, [.ref aC, .ref b1, .ref b2, .int (nI k), .int rk, .int (nI ra), .int rw, .int (wd j)])), (aC, .inr (0, [.ref aM, .int (nI wy), .ref a1, .ref a2, .ref a3, .int (us + nI 1)])), (a1, .inl (cI, 8, .inl (upd st (j / 4) (nI 3)))), (a2, .inl (cI, 8, .inl (upd ua (j / 4) (us + nI 1)))), (a3, .inl (cI, 32, .inl (upd wd j ((wd j) + x))))] H := hP
  have hD : va_D A [(aK, .inr (1, [.ref aC, .ref b1, .ref b2, .int (nI k), .int rk, .int (nI ra), .int rw, .int (wd j)])), (aC, .inr (0, [.ref aM, .int (nI wy), .ref a1, .ref a2, .ref a3, .int (us + nI 1)])), (a1, .inl (cI, 8, .inl (upd st (j / 4) (nI 3)))), (a2, .inl (cI, 8, .inl (upd ua (j / 4) (us + nI 1)))), (a3, .inl (cI, 32, .inl (upd wd j ((wd j) + x))))] := hD
  exact mk_vret hx hb hr hlocks hK hP hD hS d_Core_change_57 rfl
set_option maxRecDepth 100000 in
set_option maxHeartbeats 4000000 in
theorem c_coa_ask (l : Launch) (D : va_G) (cI cO : ClassId) (aK aC b1 b2 k ra : Nat) (rk rw lw : Int32) (aM a1 a2 a3 wy : Nat) (us : Int32) (st : Nat → Int32) (kd : Int32) (j : Nat) (x : Int32) (hj : j < 32) (h1 : ¬ st (j / 4) = nI 2) (h2 : ¬ st (j / 4) = nI 3) : mk_M l y_Core_changeOrAsk w_Core_changeOrAsk ({ frames := 1, cells := 0, slots := 0, locals := 23 } : Room) D (tysK cI cO) [.ref aK, .int kd, .int (nI j), .int x] [(aK, .inr (1, [.ref aC, .ref b1, .ref b2, .int (nI k), .int rk, .int (nI ra), .int rw, .int lw])), (aC, .inr (0, [.ref aM, .int (nI wy), .ref a1, .ref a2, .ref a3, .int us])), (a1, .inl (cI, 8, .inl st))] (mk_Qi D (tysK cI cO) (nI 1) [(aK, .inr (1, [.ref aC, .ref b1, .ref b2, .int (nI k), .int kd, .int (nI j), .int x, .int lw])), (aC, .inr (0, [.ref aM, .int (nI wy), .ref a1, .ref a2, .ref a3, .int us])), (a1, .inl (cI, 8, .inl st))]) := by
  refine mk_start (cc := b_Core_changeOrAsk) (maxL := 4) (ret := (some FieldType.int)) (by decide) (Nat.le_of_ble_eq_true rfl) (fun p e s m below meth c A ls H locs hx hb hml hr hlocks hnm hts hN hown hK hP hD hA hl hS => ?_)
  have hl : lv_has ls 4 [(0, .ref aK), (1, .int kd), (2, .int (nI j)), (3, .int x)] := hl
  refine lv_aload_n hx hb d_Core_changeOrAsk_0 rfl (lv_at hl 0 rfl) ?_
  refine va_get (D := D) (ci := 1) (v := .ref aC) (C := R_Core) (T := T_Core) (N := 8) hx hb hts in_Core hown hK hP 0 rfl rfl 0 (by decide) (hts _ iw_74) (fun _ h9 => h9) rfl d_Core_changeOrAsk_1 ?_
  refine lv_iload_n hx hb d_Core_changeOrAsk_4 rfl (lv_at hl 2 rfl) ?_
  refine mk_calli (X := [(aK, .inr (1, [.ref aC, .ref b1, .ref b2, .int (nI k), .int rk, .int (nI ra), .int rw, .int lw])), (aC, .inr (0, [.ref aM, .int (nI wy), .ref a1, .ref a2, .ref a3, .int us])), (a1, .inl (cI, 8, .inl st))]) (pl := []) (wc := []) (wr := [(aK, .inr (1, [.ref aC, .ref b1, .ref b2, .int (nI k), .int rk, .int (nI ra), .int rw, .int lw])), (aC, .inr (0, [.ref aM, .int (nI wy), .ref a1, .ref a2, .ref a3, .int us])), (a1, .inl (cI, 8, .inl st))]) (w1 := []) (X1 := [(aK, .inr (1, [.ref aC, .ref b1, .ref b2, .int (nI k), .int rk, .int (nI ra), .int rw, .int lw])), (aC, .inr (0, [.ref aM, .int (nI wy), .ref a1, .ref a2, .ref a3, .int us])), (a1, .inl (cI, 8, .inl st))]) hP hD hS hA [] [0, 1, 2] [0, 1, 2] rfl rfl rfl (by decide) (by decide) (by decide)
    (va_runSN (As := [.int (nI j)]) (rest := [.ref aC]) ⟨hx, hb, hml, hown, hts⟩ (c_lineOf l D cI cO j (by first | assumption | omega) H.size) ⟨va_cnB 1 hts g_Bus_lineOf rfl rfl rfl (hN _ in_w16) (hts _ iw_39) (by decide +kernel) ⟨by decide, by decide⟩, hts _ iw_94, trivial⟩ (mk_preS (X := [(aK, .inr (1, [.ref aC, .ref b1, .ref b2, .int (nI k), .int rk, .int (nI ra), .int rw, .int lw])), (aC, .inr (0, [.ref aM, .int (nI wy), .ref a1, .ref a2, .ref a3, .int us])), (a1, .inl (cI, 8, .inl st))]) (pl := []) hN hK hP hD [] (by decide) rfl) rfl rfl hl.1 rfl (lv_room (Nat.le_of_ble_eq_true rfl)) d_Core_changeOrAsk_5 ⟨Nat.le_refl _, Nat.le_refl _⟩) (fun H locs hP hD hS => ?_)
  have hP : va_P D vwCl [(aK, .inr (1, [.ref aC, .ref b1, .ref b2, .int (nI k), .int rk, .int (nI ra), .int rw, .int lw])), (aC, .inr (0, [.ref aM, .int (nI wy), .ref a1, .ref a2, .ref a3, .int us])), (a1, .inl (cI, 8, .inl st))] H := hP
  have hD : va_D A [(aK, .inr (1, [.ref aC, .ref b1, .ref b2, .int (nI k), .int rk, .int (nI ra), .int rw, .int lw])), (aC, .inr (0, [.ref aM, .int (nI wy), .ref a1, .ref a2, .ref a3, .int us])), (a1, .inl (cI, 8, .inl st))] := hD
  refine mk_calli (X := [(aK, .inr (1, [.ref aC, .ref b1, .ref b2, .int (nI k), .int rk, .int (nI ra), .int rw, .int lw])), (aC, .inr (0, [.ref aM, .int (nI wy), .ref a1, .ref a2, .ref a3, .int us])), (a1, .inl (cI, 8, .inl st))]) (pl := []) (wc := [(aC, .inr (0, [.ref aM, .int (nI wy), .ref a1, .ref a2, .ref a3, .int us])), (a1, .inl (cI, 8, .inl st))]) (wr := [(aK, .inr (1, [.ref aC, .ref b1, .ref b2, .int (nI k), .int rk, .int (nI ra), .int rw, .int lw]))]) (w1 := [(aC, .inr (0, [.ref aM, .int (nI wy), .ref a1, .ref a2, .ref a3, .int us])), (a1, .inl (cI, 8, .inl st))]) (X1 := [(aK, .inr (1, [.ref aC, .ref b1, .ref b2, .int (nI k), .int rk, .int (nI ra), .int rw, .int lw])), (aC, .inr (0, [.ref aM, .int (nI wy), .ref a1, .ref a2, .ref a3, .int us])), (a1, .inl (cI, 8, .inl st))]) hP hD hS hA [1, 2] [0] [0, 1, 2] rfl rfl rfl (by decide) (by decide) (by decide)
    (va_runVN (b := aC) (As := [.int (nI (j / 4))]) (rest := []) ⟨hx, hb, hml, hown, hts⟩ (c_owns_0 l D cI cO aC aM a1 a2 a3 wy us st (j / 4) (by omega) (by first | assumption | omega) (by first | assumption | omega) H.size) ⟨va_cnB 1 hts g_Cache_owns rfl rfl rfl (hN _ in_w17) (hts _ iw_40) (by decide +kernel) ⟨by decide, by decide⟩, hts _ iw_122, hts _ iw_123⟩ (mk_preV (X := [(aK, .inr (1, [.ref aC, .ref b1, .ref b2, .int (nI k), .int rk, .int (nI ra), .int rw, .int lw])), (aC, .inr (0, [.ref aM, .int (nI wy), .ref a1, .ref a2, .ref a3, .int us])), (a1, .inl (cI, 8, .inl st))]) (pl := []) hN hK hP hD [1, 2] (by decide) rfl 1 rfl rfl rfl) rfl rfl hl.1 rfl (lv_room (Nat.le_of_ble_eq_true rfl)) d_Core_changeOrAsk_8 ⟨Nat.le_refl _, Nat.le_refl _⟩) (fun H locs hP hD hS => ?_)
  have hP : va_P D vwCl [(aK, .inr (1, [.ref aC, .ref b1, .ref b2, .int (nI k), .int rk, .int (nI ra), .int rw, .int lw])), (aC, .inr (0, [.ref aM, .int (nI wy), .ref a1, .ref a2, .ref a3, .int us])), (a1, .inl (cI, 8, .inl st))] H := hP
  have hD : va_D A [(aK, .inr (1, [.ref aC, .ref b1, .ref b2, .int (nI k), .int rk, .int (nI ra), .int rw, .int lw])), (aC, .inr (0, [.ref aM, .int (nI wy), .ref a1, .ref a2, .ref a3, .int us])), (a1, .inl (cI, 8, .inl st))] := hD
  refine lv_if_eq (tgt := 23) hx hb d_Core_changeOrAsk_11 rfl (fun _ => ?_) (fun h => absurd (by decide) h)
  refine lv_aload_n hx hb d_Core_changeOrAsk_23 rfl (lv_at hl 0 rfl) ?_
  refine lv_iload_n hx hb d_Core_changeOrAsk_24 rfl (lv_at hl 1 rfl) ?_
  refine lv_iload_n hx hb d_Core_changeOrAsk_25 rfl (lv_at hl 2 rfl) ?_
  refine lv_iload_n hx hb d_Core_changeOrAsk_26 rfl (lv_at hl 3 rfl) ?_
  refine mk_callv (X := [(aK, .inr (1, [.ref aC, .ref b1, .ref b2, .int (nI k), .int rk, .int (nI ra), .int rw, .int lw])), (aC, .inr (0, [.ref aM, .int (nI wy), .ref a1, .ref a2, .ref a3, .int us])), (a1, .inl (cI, 8, .inl st))]) (pl := []) (wc := [(aK, .inr (1, [.ref aC, .ref b1, .ref b2, .int (nI k), .int rk, .int (nI ra), .int rw, .int lw]))]) (wr := [(aC, .inr (0, [.ref aM, .int (nI wy), .ref a1, .ref a2, .ref a3, .int us])), (a1, .inl (cI, 8, .inl st))]) (w1 := [(aK, .inr (1, [.ref aC, .ref b1, .ref b2, .int (nI k), .int kd, .int (nI j), .int x, .int lw]))]) (X1 := [(aK, .inr (1, [.ref aC, .ref b1, .ref b2, .int (nI k), .int kd, .int (nI j), .int x, .int lw])), (aC, .inr (0, [.ref aM, .int (nI wy), .ref a1, .ref a2, .ref a3, .int us])), (a1, .inl (cI, 8, .inl st))]) hP hD hS hA [0] [1, 2] [2, 0, 1] rfl rfl rfl (by decide) (by decide) (by decide)
    (va_runV (b := aK) (As := [.int kd, .int (nI j), .int x]) (rest := []) ⟨hx, hb, hml, hown, hts⟩ (c_ask l D cI cO aK aC b1 b2 k ra rk rw lw kd j x H.size) ⟨callB_of 3 hts g_Core_ask rfl rfl rfl (hts _ iw_41) (hts _ iw_120) (by decide +kernel) ⟨by decide, by decide⟩, hts _ iw_103, hts _ iw_104⟩ (mk_preV (X := [(aK, .inr (1, [.ref aC, .ref b1, .ref b2, .int (nI k), .int rk, .int (nI ra), .int rw, .int lw])), (aC, .inr (0, [.ref aM, .int (nI wy), .ref a1, .ref a2, .ref a3, .int us])), (a1, .inl (cI, 8, .inl st))]) (pl := []) hN hK hP hD [0] (by decide) rfl 0 rfl rfl rfl) rfl rfl hl.1 rfl (lv_room (Nat.le_of_ble_eq_true rfl)) d_Core_changeOrAsk_27 ⟨Nat.le_refl _, Nat.le_refl _⟩) (fun H locs hP hD hS => ?_)
  have hP : va_P D vwCl [(aK, .inr (1, [.ref aC, .ref b1, .ref b2, .int (nI k), .int kd, .int (nI j), .int x, .int lw])), (aC, .inr (0, [.ref aM, .int (nI wy), .ref a1, .ref a2, .ref a3, .int us])), (a1, .inl (cI, 8, .inl st))] H := hP
  have hD : va_D A [(aK, .inr (1, [.ref aC, .ref b1, .ref b2, .int (nI k), .int kd, .int (nI j), .int x, .int lw])), (aC, .inr (0, [.ref aM, .int (nI wy), .ref a1, .ref a2, .ref a3, .int us])), (a1, .inl (cI, 8, .inl st))] := hD
  refine lv_iconst (v := nI 1) hx hb d_Core_changeOrAsk_30 (by decide) ?_
  exact mk_iret hx hb hr hlocks hK hP hD hS d_Core_changeOrAsk_31 rfl rfl
set_option maxRecDepth 100000 in
set_option maxHeartbeats 4000000 in
theorem c_coa_own (l : Launch) (D : va_G) (cI cO : ClassId) (aK aC b1 b2 k ra : Nat) (rk rw lw : Int32) (aM a1 a2 a3 wy : Nat) (us : Int32) (st ua wd : Nat → Int32) (sa sw : Nat → Int32) (j : Nat) (x : Int32) (hj : j < 32) (hk0 : 1 ≤ k) (hk : k ≤ 4) (h1 : st (j / 4) = nI 2 ∨ st (j / 4) = nI 3) : mk_M l y_Core_changeOrAsk w_Core_changeOrAsk ({ frames := 3, cells := 0, slots := 0, locals := 68 } : Room) D (tysK cI cO) [.ref aK, .int (nI 2), .int (nI j), .int x] [(aK, .inr (1, [.ref aC, .ref b1, .ref b2, .int (nI k), .int rk, .int (nI ra), .int rw, .int lw])), (b1, .inl (cI, 4, .inl sa)), (b2, .inl (cI, 4, .inl sw)), (aC, .inr (0, [.ref aM, .int (nI wy), .ref a1, .ref a2, .ref a3, .int us])), (a1, .inl (cI, 8, .inl st)), (a2, .inl (cI, 8, .inl ua)), (a3, .inl (cI, 32, .inl wd))] (mk_Qi D (tysK cI cO) (nI 0) [(aK, .inr (1, [.ref aC, .ref b1, .ref b2, .int (nI (k - 1)), .int rk, .int (nI ra), .int rw, .int lw])), (b1, .inl (cI, 4, .inl (cs_sh sa (k - 1)))), (b2, .inl (cI, 4, .inl (cs_sh sw (k - 1)))), (aC, .inr (0, [.ref aM, .int (nI wy), .ref a1, .ref a2, .ref a3, .int (us + nI 1)])), (a1, .inl (cI, 8, .inl (upd st (j / 4) (nI 3)))), (a2, .inl (cI, 8, .inl (upd ua (j / 4) (us + nI 1)))), (a3, .inl (cI, 32, .inl (upd wd j (x))))]) := by
  refine mk_start (cc := b_Core_changeOrAsk) (maxL := 4) (ret := (some FieldType.int)) (by decide) (Nat.le_of_ble_eq_true rfl) (fun p e s m below meth c A ls H locs hx hb hml hr hlocks hnm hts hN hown hK hP hD hA hl hS => ?_)
  have hl : lv_has ls 4 [(0, .ref aK), (1, .int (nI 2)), (2, .int (nI j)), (3, .int x)] := hl
  refine lv_aload_n hx hb d_Core_changeOrAsk_0 rfl (lv_at hl 0 rfl) ?_
  refine va_get (D := D) (ci := 1) (v := .ref aC) (C := R_Core) (T := T_Core) (N := 8) hx hb hts in_Core hown hK hP 0 rfl rfl 0 (by decide) (hts _ iw_74) (fun _ h9 => h9) rfl d_Core_changeOrAsk_1 ?_
  refine lv_iload_n hx hb d_Core_changeOrAsk_4 rfl (lv_at hl 2 rfl) ?_
  refine mk_calli (X := [(aK, .inr (1, [.ref aC, .ref b1, .ref b2, .int (nI k), .int rk, .int (nI ra), .int rw, .int lw])), (b1, .inl (cI, 4, .inl sa)), (b2, .inl (cI, 4, .inl sw)), (aC, .inr (0, [.ref aM, .int (nI wy), .ref a1, .ref a2, .ref a3, .int us])), (a1, .inl (cI, 8, .inl st)), (a2, .inl (cI, 8, .inl ua)), (a3, .inl (cI, 32, .inl wd))]) (pl := []) (wc := []) (wr := [(aK, .inr (1, [.ref aC, .ref b1, .ref b2, .int (nI k), .int rk, .int (nI ra), .int rw, .int lw])), (b1, .inl (cI, 4, .inl sa)), (b2, .inl (cI, 4, .inl sw)), (aC, .inr (0, [.ref aM, .int (nI wy), .ref a1, .ref a2, .ref a3, .int us])), (a1, .inl (cI, 8, .inl st)), (a2, .inl (cI, 8, .inl ua)), (a3, .inl (cI, 32, .inl wd))]) (w1 := []) (X1 := [(aK, .inr (1, [.ref aC, .ref b1, .ref b2, .int (nI k), .int rk, .int (nI ra), .int rw, .int lw])), (b1, .inl (cI, 4, .inl sa)), (b2, .inl (cI, 4, .inl sw)), (aC, .inr (0, [.ref aM, .int (nI wy), .ref a1, .ref a2, .ref a3, .int us])), (a1, .inl (cI, 8, .inl st)), (a2, .inl (cI, 8, .inl ua)), (a3, .inl (cI, 32, .inl wd))]) hP hD hS hA [] [0, 1, 2, 3, 4, 5, 6] [0, 1, 2, 3, 4, 5, 6] rfl rfl rfl (by decide) (by decide) (by decide)
    (va_runSN (As := [.int (nI j)]) (rest := [.ref aC]) ⟨hx, hb, hml, hown, hts⟩ (c_lineOf l D cI cO j (by first | assumption | omega) H.size) ⟨va_cnB 1 hts g_Bus_lineOf rfl rfl rfl (hN _ in_w16) (hts _ iw_39) (by decide +kernel) ⟨by decide, by decide⟩, hts _ iw_94, trivial⟩ (mk_preS (X := [(aK, .inr (1, [.ref aC, .ref b1, .ref b2, .int (nI k), .int rk, .int (nI ra), .int rw, .int lw])), (b1, .inl (cI, 4, .inl sa)), (b2, .inl (cI, 4, .inl sw)), (aC, .inr (0, [.ref aM, .int (nI wy), .ref a1, .ref a2, .ref a3, .int us])), (a1, .inl (cI, 8, .inl st)), (a2, .inl (cI, 8, .inl ua)), (a3, .inl (cI, 32, .inl wd))]) (pl := []) hN hK hP hD [] (by decide) rfl) rfl rfl hl.1 rfl (lv_room (Nat.le_of_ble_eq_true rfl)) d_Core_changeOrAsk_5 ⟨Nat.le_refl _, Nat.le_refl _⟩) (fun H locs hP hD hS => ?_)
  have hP : va_P D vwCl [(aK, .inr (1, [.ref aC, .ref b1, .ref b2, .int (nI k), .int rk, .int (nI ra), .int rw, .int lw])), (b1, .inl (cI, 4, .inl sa)), (b2, .inl (cI, 4, .inl sw)), (aC, .inr (0, [.ref aM, .int (nI wy), .ref a1, .ref a2, .ref a3, .int us])), (a1, .inl (cI, 8, .inl st)), (a2, .inl (cI, 8, .inl ua)), (a3, .inl (cI, 32, .inl wd))] H := hP
  have hD : va_D A [(aK, .inr (1, [.ref aC, .ref b1, .ref b2, .int (nI k), .int rk, .int (nI ra), .int rw, .int lw])), (b1, .inl (cI, 4, .inl sa)), (b2, .inl (cI, 4, .inl sw)), (aC, .inr (0, [.ref aM, .int (nI wy), .ref a1, .ref a2, .ref a3, .int us])), (a1, .inl (cI, 8, .inl st)), (a2, .inl (cI, 8, .inl ua)), (a3, .inl (cI, 32, .inl wd))] := hD
  refine mk_calli (X := [(aK, .inr (1, [.ref aC, .ref b1, .ref b2, .int (nI k), .int rk, .int (nI ra), .int rw, .int lw])), (b1, .inl (cI, 4, .inl sa)), (b2, .inl (cI, 4, .inl sw)), (aC, .inr (0, [.ref aM, .int (nI wy), .ref a1, .ref a2, .ref a3, .int us])), (a1, .inl (cI, 8, .inl st)), (a2, .inl (cI, 8, .inl ua)), (a3, .inl (cI, 32, .inl wd))]) (pl := []) (wc := [(aC, .inr (0, [.ref aM, .int (nI wy), .ref a1, .ref a2, .ref a3, .int us])), (a1, .inl (cI, 8, .inl st))]) (wr := [(aK, .inr (1, [.ref aC, .ref b1, .ref b2, .int (nI k), .int rk, .int (nI ra), .int rw, .int lw])), (b1, .inl (cI, 4, .inl sa)), (b2, .inl (cI, 4, .inl sw)), (a2, .inl (cI, 8, .inl ua)), (a3, .inl (cI, 32, .inl wd))]) (w1 := [(aC, .inr (0, [.ref aM, .int (nI wy), .ref a1, .ref a2, .ref a3, .int us])), (a1, .inl (cI, 8, .inl st))]) (X1 := [(aK, .inr (1, [.ref aC, .ref b1, .ref b2, .int (nI k), .int rk, .int (nI ra), .int rw, .int lw])), (b1, .inl (cI, 4, .inl sa)), (b2, .inl (cI, 4, .inl sw)), (aC, .inr (0, [.ref aM, .int (nI wy), .ref a1, .ref a2, .ref a3, .int us])), (a1, .inl (cI, 8, .inl st)), (a2, .inl (cI, 8, .inl ua)), (a3, .inl (cI, 32, .inl wd))]) hP hD hS hA [3, 4] [0, 1, 2, 5, 6] [0, 1, 2, 5, 6, 3, 4] rfl rfl rfl (by decide) (by decide) (by decide)
    (va_runVN (b := aC) (As := [.int (nI (j / 4))]) (rest := []) ⟨hx, hb, hml, hown, hts⟩ (c_owns_1 l D cI cO aC aM a1 a2 a3 wy us st (j / 4) (by omega) (by first | assumption | omega) H.size) ⟨va_cnB 1 hts g_Cache_owns rfl rfl rfl (hN _ in_w17) (hts _ iw_40) (by decide +kernel) ⟨by decide, by decide⟩, hts _ iw_122, hts _ iw_123⟩ (mk_preV (X := [(aK, .inr (1, [.ref aC, .ref b1, .ref b2, .int (nI k), .int rk, .int (nI ra), .int rw, .int lw])), (b1, .inl (cI, 4, .inl sa)), (b2, .inl (cI, 4, .inl sw)), (aC, .inr (0, [.ref aM, .int (nI wy), .ref a1, .ref a2, .ref a3, .int us])), (a1, .inl (cI, 8, .inl st)), (a2, .inl (cI, 8, .inl ua)), (a3, .inl (cI, 32, .inl wd))]) (pl := []) hN hK hP hD [3, 4] (by decide) rfl 3 rfl rfl rfl) rfl rfl hl.1 rfl (lv_room (Nat.le_of_ble_eq_true rfl)) d_Core_changeOrAsk_8 ⟨Nat.le_refl _, Nat.le_refl _⟩) (fun H locs hP hD hS => ?_)
  have hP : va_P D vwCl [(aK, .inr (1, [.ref aC, .ref b1, .ref b2, .int (nI k), .int rk, .int (nI ra), .int rw, .int lw])), (b1, .inl (cI, 4, .inl sa)), (b2, .inl (cI, 4, .inl sw)), (aC, .inr (0, [.ref aM, .int (nI wy), .ref a1, .ref a2, .ref a3, .int us])), (a1, .inl (cI, 8, .inl st)), (a2, .inl (cI, 8, .inl ua)), (a3, .inl (cI, 32, .inl wd))] H := hP
  have hD : va_D A [(aK, .inr (1, [.ref aC, .ref b1, .ref b2, .int (nI k), .int rk, .int (nI ra), .int rw, .int lw])), (b1, .inl (cI, 4, .inl sa)), (b2, .inl (cI, 4, .inl sw)), (aC, .inr (0, [.ref aM, .int (nI wy), .ref a1, .ref a2, .ref a3, .int us])), (a1, .inl (cI, 8, .inl st)), (a2, .inl (cI, 8, .inl ua)), (a3, .inl (cI, 32, .inl wd))] := hD
  refine lv_if_eq (tgt := 23) hx hb d_Core_changeOrAsk_11 rfl (fun h => absurd h (by decide)) (fun _ => ?_)
  refine lv_aload_n hx hb d_Core_changeOrAsk_14 rfl (lv_at hl 0 rfl) ?_
  refine lv_iload_n hx hb d_Core_changeOrAsk_15 rfl (lv_at hl 1 rfl) ?_
  refine lv_iload_n hx hb d_Core_changeOrAsk_16 rfl (lv_at hl 2 rfl) ?_
  refine lv_iload_n hx hb d_Core_changeOrAsk_17 rfl (lv_at hl 3 rfl) ?_
  refine mk_callv (X := [(aK, .inr (1, [.ref aC, .ref b1, .ref b2, .int (nI k), .int rk, .int (nI ra), .int rw, .int lw])), (b1, .inl (cI, 4, .inl sa)), (b2, .inl (cI, 4, .inl sw)), (aC, .inr (0, [.ref aM, .int (nI wy), .ref a1, .ref a2, .ref a3, .int us])), (a1, .inl (cI, 8, .inl st)), (a2, .inl (cI, 8, .inl ua)), (a3, .inl (cI, 32, .inl wd))]) (pl := []) (wc := [(aK, .inr (1, [.ref aC, .ref b1, .ref b2, .int (nI k), .int rk, .int (nI ra), .int rw, .int lw])), (b1, .inl (cI, 4, .inl sa)), (b2, .inl (cI, 4, .inl sw)), (aC, .inr (0, [.ref aM, .int (nI wy), .ref a1, .ref a2, .ref a3, .int us])), (a1, .inl (cI, 8, .inl st)), (a2, .inl (cI, 8, .inl ua)), (a3, .inl (cI, 32, .inl wd))]) (wr := []) (w1 := [(aK, .inr (1, [.ref aC, .ref b1, .ref b2, .int (nI (k - 1)), .int rk, .int (nI ra), .int rw, .int lw])), (b1, .inl (cI, 4, .inl (cs_sh sa (k - 1)))), (b2, .inl (cI, 4, .inl (cs_sh sw (k - 1)))), (aC, .inr (0, [.ref aM, .int (nI wy), .ref a1, .ref a2, .ref a3, .int (us + nI 1)])), (a1, .inl (cI, 8, .inl (upd st (j / 4) (nI 3)))), (a2, .inl (cI, 8, .inl (upd ua (j / 4) (us + nI 1)))), (a3, .inl (cI, 32, .inl (upd wd j (x))))]) (X1 := [(aK, .inr (1, [.ref aC, .ref b1, .ref b2, .int (nI (k - 1)), .int rk, .int (nI ra), .int rw, .int lw])), (b1, .inl (cI, 4, .inl (cs_sh sa (k - 1)))), (b2, .inl (cI, 4, .inl (cs_sh sw (k - 1)))), (aC, .inr (0, [.ref aM, .int (nI wy), .ref a1, .ref a2, .ref a3, .int (us + nI 1)])), (a1, .inl (cI, 8, .inl (upd st (j / 4) (nI 3)))), (a2, .inl (cI, 8, .inl (upd ua (j / 4) (us + nI 1)))), (a3, .inl (cI, 32, .inl (upd wd j (x))))]) hP hD hS hA [0, 1, 2, 3, 4, 5, 6] [] [0, 1, 2, 3, 4, 5, 6] rfl rfl rfl (by decide) (by decide) (by decide)
    (va_runV (b := aK) (As := [.int (nI 2), .int (nI j), .int x]) (rest := []) ⟨hx, hb, hml, hown, hts⟩ (c_change_own l D cI cO aK aC b1 b2 k ra rk rw lw aM a1 a2 a3 wy us st ua wd sa sw j x (by first | assumption | omega) (by first | assumption | omega) (by first | assumption | omega) H.size) ⟨callB_of 3 hts g_Core_change rfl rfl rfl (hts _ iw_41) (hts _ iw_119) (by decide +kernel) ⟨by decide, by decide⟩, hts _ iw_125, hts _ iw_126⟩ (mk_preV (X := [(aK, .inr (1, [.ref aC, .ref b1, .ref b2, .int (nI k), .int rk, .int (nI ra), .int rw, .int lw])), (b1, .inl (cI, 4, .inl sa)), (b2, .inl (cI, 4, .inl sw)), (aC, .inr (0, [.ref aM, .int (nI wy), .ref a1, .ref a2, .ref a3, .int us])), (a1, .inl (cI, 8, .inl st)), (a2, .inl (cI, 8, .inl ua)), (a3, .inl (cI, 32, .inl wd))]) (pl := []) hN hK hP hD [0, 1, 2, 3, 4, 5, 6] (by decide) rfl 0 rfl rfl rfl) rfl rfl hl.1 rfl (lv_room (Nat.le_of_ble_eq_true rfl)) d_Core_changeOrAsk_18 ⟨Nat.le_refl _, Nat.le_refl _⟩) (fun H locs hP hD hS => ?_)
  have hP : va_P D vwCl [(aK, .inr (1, [.ref aC, .ref b1, .ref b2, .int (nI (k - 1)), .int rk, .int (nI ra), .int rw, .int lw])), (b1, .inl (cI, 4, .inl (cs_sh sa (k - 1)))), (b2, .inl (cI, 4, .inl (cs_sh sw (k - 1)))), (aC, .inr (0, [.ref aM, .int (nI wy), .ref a1, .ref a2, .ref a3, .int (us + nI 1)])), (a1, .inl (cI, 8, .inl (upd st (j / 4) (nI 3)))), (a2, .inl (cI, 8, .inl (upd ua (j / 4) (us + nI 1)))), (a3, .inl (cI, 32, .inl (upd wd j (x))))] H := hP
  have hD : va_D A [(aK, .inr (1, [.ref aC, .ref b1, .ref b2, .int (nI (k - 1)), .int rk, .int (nI ra), .int rw, .int lw])), (b1, .inl (cI, 4, .inl (cs_sh sa (k - 1)))), (b2, .inl (cI, 4, .inl (cs_sh sw (k - 1)))), (aC, .inr (0, [.ref aM, .int (nI wy), .ref a1, .ref a2, .ref a3, .int (us + nI 1)])), (a1, .inl (cI, 8, .inl (upd st (j / 4) (nI 3)))), (a2, .inl (cI, 8, .inl (upd ua (j / 4) (us + nI 1)))), (a3, .inl (cI, 32, .inl (upd wd j (x))))] := hD
  refine lv_iconst (v := nI 0) hx hb d_Core_changeOrAsk_21 (by decide) ?_
  exact mk_iret hx hb hr hlocks hK hP hD hS d_Core_changeOrAsk_22 rfl rfl
set_option maxRecDepth 100000 in
set_option maxHeartbeats 4000000 in
theorem c_coa_tr (l : Launch) (D : va_G) (cI cO : ClassId) (aK aC b1 b2 k ra : Nat) (rk rw lw : Int32) (aM a1 a2 a3 wy : Nat) (us : Int32) (st ua wd : Nat → Int32) (j : Nat) (x : Int32) (hj : j < 32) (h1 : st (j / 4) = nI 2 ∨ st (j / 4) = nI 3) : mk_M l y_Core_changeOrAsk w_Core_changeOrAsk ({ frames := 3, cells := 0, slots := 0, locals := 68 } : Room) D (tysK cI cO) [.ref aK, .int (nI 3), .int (nI j), .int x] [(aK, .inr (1, [.ref aC, .ref b1, .ref b2, .int (nI k), .int rk, .int (nI ra), .int rw, .int lw])), (aC, .inr (0, [.ref aM, .int (nI wy), .ref a1, .ref a2, .ref a3, .int us])), (a1, .inl (cI, 8, .inl st)), (a2, .inl (cI, 8, .inl ua)), (a3, .inl (cI, 32, .inl wd))] (mk_Qi D (tysK cI cO) (nI 0) [(aK, .inr (1, [.ref aC, .ref b1, .ref b2, .int (nI k), .int rk, .int (nI ra), .int rw, .int (wd j)])), (aC, .inr (0, [.ref aM, .int (nI wy), .ref a1, .ref a2, .ref a3, .int (us + nI 1)])), (a1, .inl (cI, 8, .inl (upd st (j / 4) (nI 3)))), (a2, .inl (cI, 8, .inl (upd ua (j / 4) (us + nI 1)))), (a3, .inl (cI, 32, .inl (upd wd j (x))))]) := by
  refine mk_start (cc := b_Core_changeOrAsk) (maxL := 4) (ret := (some FieldType.int)) (by decide) (Nat.le_of_ble_eq_true rfl) (fun p e s m below meth c A ls H locs hx hb hml hr hlocks hnm hts hN hown hK hP hD hA hl hS => ?_)
  have hl : lv_has ls 4 [(0, .ref aK), (1, .int (nI 3)), (2, .int (nI j)), (3, .int x)] := hl
  refine lv_aload_n hx hb d_Core_changeOrAsk_0 rfl (lv_at hl 0 rfl) ?_
  refine va_get (D := D) (ci := 1) (v := .ref aC) (C := R_Core) (T := T_Core) (N := 8) hx hb hts in_Core hown hK hP 0 rfl rfl 0 (by decide) (hts _ iw_74) (fun _ h9 => h9) rfl d_Core_changeOrAsk_1 ?_
  refine lv_iload_n hx hb d_Core_changeOrAsk_4 rfl (lv_at hl 2 rfl) ?_
  refine mk_calli (X := [(aK, .inr (1, [.ref aC, .ref b1, .ref b2, .int (nI k), .int rk, .int (nI ra), .int rw, .int lw])), (aC, .inr (0, [.ref aM, .int (nI wy), .ref a1, .ref a2, .ref a3, .int us])), (a1, .inl (cI, 8, .inl st)), (a2, .inl (cI, 8, .inl ua)), (a3, .inl (cI, 32, .inl wd))]) (pl := []) (wc := []) (wr := [(aK, .inr (1, [.ref aC, .ref b1, .ref b2, .int (nI k), .int rk, .int (nI ra), .int rw, .int lw])), (aC, .inr (0, [.ref aM, .int (nI wy), .ref a1, .ref a2, .ref a3, .int us])), (a1, .inl (cI, 8, .inl st)), (a2, .inl (cI, 8, .inl ua)), (a3, .inl (cI, 32, .inl wd))]) (w1 := []) (X1 := [(aK, .inr (1, [.ref aC, .ref b1, .ref b2, .int (nI k), .int rk, .int (nI ra), .int rw, .int lw])), (aC, .inr (0, [.ref aM, .int (nI wy), .ref a1, .ref a2, .ref a3, .int us])), (a1, .inl (cI, 8, .inl st)), (a2, .inl (cI, 8, .inl ua)), (a3, .inl (cI, 32, .inl wd))]) hP hD hS hA [] [0, 1, 2, 3, 4] [0, 1, 2, 3, 4] rfl rfl rfl (by decide) (by decide) (by decide)
    (va_runSN (As := [.int (nI j)]) (rest := [.ref aC]) ⟨hx, hb, hml, hown, hts⟩ (c_lineOf l D cI cO j (by first | assumption | omega) H.size) ⟨va_cnB 1 hts g_Bus_lineOf rfl rfl rfl (hN _ in_w16) (hts _ iw_39) (by decide +kernel) ⟨by decide, by decide⟩, hts _ iw_94, trivial⟩ (mk_preS (X := [(aK, .inr (1, [.ref aC, .ref b1, .ref b2, .int (nI k), .int rk, .int (nI ra), .int rw, .int lw])), (aC, .inr (0, [.ref aM, .int (nI wy), .ref a1, .ref a2, .ref a3, .int us])), (a1, .inl (cI, 8, .inl st)), (a2, .inl (cI, 8, .inl ua)), (a3, .inl (cI, 32, .inl wd))]) (pl := []) hN hK hP hD [] (by decide) rfl) rfl rfl hl.1 rfl (lv_room (Nat.le_of_ble_eq_true rfl)) d_Core_changeOrAsk_5 ⟨Nat.le_refl _, Nat.le_refl _⟩) (fun H locs hP hD hS => ?_)
  have hP : va_P D vwCl [(aK, .inr (1, [.ref aC, .ref b1, .ref b2, .int (nI k), .int rk, .int (nI ra), .int rw, .int lw])), (aC, .inr (0, [.ref aM, .int (nI wy), .ref a1, .ref a2, .ref a3, .int us])), (a1, .inl (cI, 8, .inl st)), (a2, .inl (cI, 8, .inl ua)), (a3, .inl (cI, 32, .inl wd))] H := hP
  have hD : va_D A [(aK, .inr (1, [.ref aC, .ref b1, .ref b2, .int (nI k), .int rk, .int (nI ra), .int rw, .int lw])), (aC, .inr (0, [.ref aM, .int (nI wy), .ref a1, .ref a2, .ref a3, .int us])), (a1, .inl (cI, 8, .inl st)), (a2, .inl (cI, 8, .inl ua)), (a3, .inl (cI, 32, .inl wd))] := hD
  refine mk_calli (X := [(aK, .inr (1, [.ref aC, .ref b1, .ref b2, .int (nI k), .int rk, .int (nI ra), .int rw, .int lw])), (aC, .inr (0, [.ref aM, .int (nI wy), .ref a1, .ref a2, .ref a3, .int us])), (a1, .inl (cI, 8, .inl st)), (a2, .inl (cI, 8, .inl ua)), (a3, .inl (cI, 32, .inl wd))]) (pl := []) (wc := [(aC, .inr (0, [.ref aM, .int (nI wy), .ref a1, .ref a2, .ref a3, .int us])), (a1, .inl (cI, 8, .inl st))]) (wr := [(aK, .inr (1, [.ref aC, .ref b1, .ref b2, .int (nI k), .int rk, .int (nI ra), .int rw, .int lw])), (a2, .inl (cI, 8, .inl ua)), (a3, .inl (cI, 32, .inl wd))]) (w1 := [(aC, .inr (0, [.ref aM, .int (nI wy), .ref a1, .ref a2, .ref a3, .int us])), (a1, .inl (cI, 8, .inl st))]) (X1 := [(aK, .inr (1, [.ref aC, .ref b1, .ref b2, .int (nI k), .int rk, .int (nI ra), .int rw, .int lw])), (aC, .inr (0, [.ref aM, .int (nI wy), .ref a1, .ref a2, .ref a3, .int us])), (a1, .inl (cI, 8, .inl st)), (a2, .inl (cI, 8, .inl ua)), (a3, .inl (cI, 32, .inl wd))]) hP hD hS hA [1, 2] [0, 3, 4] [0, 3, 4, 1, 2] rfl rfl rfl (by decide) (by decide) (by decide)
    (va_runVN (b := aC) (As := [.int (nI (j / 4))]) (rest := []) ⟨hx, hb, hml, hown, hts⟩ (c_owns_1 l D cI cO aC aM a1 a2 a3 wy us st (j / 4) (by omega) (by first | assumption | omega) H.size) ⟨va_cnB 1 hts g_Cache_owns rfl rfl rfl (hN _ in_w17) (hts _ iw_40) (by decide +kernel) ⟨by decide, by decide⟩, hts _ iw_122, hts _ iw_123⟩ (mk_preV (X := [(aK, .inr (1, [.ref aC, .ref b1, .ref b2, .int (nI k), .int rk, .int (nI ra), .int rw, .int lw])), (aC, .inr (0, [.ref aM, .int (nI wy), .ref a1, .ref a2, .ref a3, .int us])), (a1, .inl (cI, 8, .inl st)), (a2, .inl (cI, 8, .inl ua)), (a3, .inl (cI, 32, .inl wd))]) (pl := []) hN hK hP hD [1, 2] (by decide) rfl 1 rfl rfl rfl) rfl rfl hl.1 rfl (lv_room (Nat.le_of_ble_eq_true rfl)) d_Core_changeOrAsk_8 ⟨Nat.le_refl _, Nat.le_refl _⟩) (fun H locs hP hD hS => ?_)
  have hP : va_P D vwCl [(aK, .inr (1, [.ref aC, .ref b1, .ref b2, .int (nI k), .int rk, .int (nI ra), .int rw, .int lw])), (aC, .inr (0, [.ref aM, .int (nI wy), .ref a1, .ref a2, .ref a3, .int us])), (a1, .inl (cI, 8, .inl st)), (a2, .inl (cI, 8, .inl ua)), (a3, .inl (cI, 32, .inl wd))] H := hP
  have hD : va_D A [(aK, .inr (1, [.ref aC, .ref b1, .ref b2, .int (nI k), .int rk, .int (nI ra), .int rw, .int lw])), (aC, .inr (0, [.ref aM, .int (nI wy), .ref a1, .ref a2, .ref a3, .int us])), (a1, .inl (cI, 8, .inl st)), (a2, .inl (cI, 8, .inl ua)), (a3, .inl (cI, 32, .inl wd))] := hD
  refine lv_if_eq (tgt := 23) hx hb d_Core_changeOrAsk_11 rfl (fun h => absurd h (by decide)) (fun _ => ?_)
  refine lv_aload_n hx hb d_Core_changeOrAsk_14 rfl (lv_at hl 0 rfl) ?_
  refine lv_iload_n hx hb d_Core_changeOrAsk_15 rfl (lv_at hl 1 rfl) ?_
  refine lv_iload_n hx hb d_Core_changeOrAsk_16 rfl (lv_at hl 2 rfl) ?_
  refine lv_iload_n hx hb d_Core_changeOrAsk_17 rfl (lv_at hl 3 rfl) ?_
  refine mk_callv (X := [(aK, .inr (1, [.ref aC, .ref b1, .ref b2, .int (nI k), .int rk, .int (nI ra), .int rw, .int lw])), (aC, .inr (0, [.ref aM, .int (nI wy), .ref a1, .ref a2, .ref a3, .int us])), (a1, .inl (cI, 8, .inl st)), (a2, .inl (cI, 8, .inl ua)), (a3, .inl (cI, 32, .inl wd))]) (pl := []) (wc := [(aK, .inr (1, [.ref aC, .ref b1, .ref b2, .int (nI k), .int rk, .int (nI ra), .int rw, .int lw])), (aC, .inr (0, [.ref aM, .int (nI wy), .ref a1, .ref a2, .ref a3, .int us])), (a1, .inl (cI, 8, .inl st)), (a2, .inl (cI, 8, .inl ua)), (a3, .inl (cI, 32, .inl wd))]) (wr := []) (w1 := [(aK, .inr (1, [.ref aC, .ref b1, .ref b2, .int (nI k), .int rk, .int (nI ra), .int rw, .int (wd j)])), (aC, .inr (0, [.ref aM, .int (nI wy), .ref a1, .ref a2, .ref a3, .int (us + nI 1)])), (a1, .inl (cI, 8, .inl (upd st (j / 4) (nI 3)))), (a2, .inl (cI, 8, .inl (upd ua (j / 4) (us + nI 1)))), (a3, .inl (cI, 32, .inl (upd wd j (x))))]) (X1 := [(aK, .inr (1, [.ref aC, .ref b1, .ref b2, .int (nI k), .int rk, .int (nI ra), .int rw, .int (wd j)])), (aC, .inr (0, [.ref aM, .int (nI wy), .ref a1, .ref a2, .ref a3, .int (us + nI 1)])), (a1, .inl (cI, 8, .inl (upd st (j / 4) (nI 3)))), (a2, .inl (cI, 8, .inl (upd ua (j / 4) (us + nI 1)))), (a3, .inl (cI, 32, .inl (upd wd j (x))))]) hP hD hS hA [0, 1, 2, 3, 4] [] [0, 1, 2, 3, 4] rfl rfl rfl (by decide) (by decide) (by decide)
    (va_runV (b := aK) (As := [.int (nI 3), .int (nI j), .int x]) (rest := []) ⟨hx, hb, hml, hown, hts⟩ (c_change_tr l D cI cO aK aC b1 b2 k ra rk rw lw aM a1 a2 a3 wy us st ua wd j x (by first | assumption | omega) H.size) ⟨callB_of 3 hts g_Core_change rfl rfl rfl (hts _ iw_41) (hts _ iw_119) (by decide +kernel) ⟨by decide, by decide⟩, hts _ iw_125, hts _ iw_126⟩ (mk_preV (X := [(aK, .inr (1, [.ref aC, .ref b1, .ref b2, .int (nI k), .int rk, .int (nI ra), .int rw, .int lw])), (aC, .inr (0, [.ref aM, .int (nI wy), .ref a1, .ref a2, .ref a3, .int us])), (a1, .inl (cI, 8, .inl st)), (a2, .inl (cI, 8, .inl ua)), (a3, .inl (cI, 32, .inl wd))]) (pl := []) hN hK hP hD [0, 1, 2, 3, 4] (by decide) rfl 0 rfl rfl rfl) rfl rfl hl.1 rfl (lv_room (Nat.le_of_ble_eq_true rfl)) d_Core_changeOrAsk_18 ⟨Nat.le_refl _, Nat.le_refl _⟩) (fun H locs hP hD hS => ?_)
  have hP : va_P D vwCl [(aK, .inr (1, [.ref aC, .ref b1, .ref b2, .int (nI k), .int rk, .int (nI ra), .int rw, .int (wd j)])), (aC, .inr (0, [.ref aM, .int (nI wy), .ref a1, .ref a2, .ref a3, .int (us + nI 1)])), (a1, .inl (cI, 8, .inl (upd st (j / 4) (nI 3)))), (a2, .inl (cI, 8, .inl (upd ua (j / 4) (us + nI 1)))), (a3, .inl (cI, 32, .inl (upd wd j (x))))] H := hP
  have hD : va_D A [(aK, .inr (1, [.ref aC, .ref b1, .ref b2, .int (nI k), .int rk, .int (nI ra), .int rw, .int (wd j)])), (aC, .inr (0, [.ref aM, .int (nI wy), .ref a1, .ref a2, .ref a3, .int (us + nI 1)])), (a1, .inl (cI, 8, .inl (upd st (j / 4) (nI 3)))), (a2, .inl (cI, 8, .inl (upd ua (j / 4) (us + nI 1)))), (a3, .inl (cI, 32, .inl (upd wd j (x))))] := hD
  refine lv_iconst (v := nI 0) hx hb d_Core_changeOrAsk_21 (by decide) ?_
  exact mk_iret hx hb hr hlocks hK hP hD hS d_Core_changeOrAsk_22 rfl rfl
set_option maxRecDepth 100000 in
set_option maxHeartbeats 4000000 in
theorem c_coa_ra (l : Launch) (D : va_G) (cI cO : ClassId) (aK aC b1 b2 k ra : Nat) (rk rw lw : Int32) (aM a1 a2 a3 wy : Nat) (us : Int32) (st ua wd : Nat → Int32) (j : Nat) (x : Int32) (hj : j < 32) (h1 : st (j / 4) = nI 2 ∨ st (j / 4) = nI 3) : mk_M l y_Core_changeOrAsk w_Core_changeOrAsk ({ frames := 3, cells := 0, slots := 0, locals := 68 } : Room) D (tysK cI cO) [.ref aK, .int (nI 4), .int (nI j), .int x] [(aK, .inr (1, [.ref aC, .ref b1, .ref b2, .int (nI k), .int rk, .int (nI ra), .int rw, .int lw])), (aC, .inr (0, [.ref aM, .int (nI wy), .ref a1, .ref a2, .ref a3, .int us])), (a1, .inl (cI, 8, .inl st)), (a2, .inl (cI, 8, .inl ua)), (a3, .inl (cI, 32, .inl wd))] (mk_Qi D (tysK cI cO) (nI 0) [(aK, .inr (1, [.ref aC, .ref b1, .ref b2, .int (nI k), .int rk, .int (nI ra), .int rw, .int (wd j)])), (aC, .inr (0, [.ref aM, .int (nI wy), .ref a1, .ref a2, .ref a3, .int (us + nI 1)])), (a1, .inl (cI, 8, .inl (upd st (j / 4) (nI 3)))), (a2, .inl (cI, 8, .inl (upd ua (j / 4) (us + nI 1)))), (a3, .inl (cI, 32, .inl (upd wd j (wd j + x))))]) := by
  refine mk_start (cc := b_Core_changeOrAsk) (maxL := 4) (ret := (some FieldType.int)) (by decide) (Nat.le_of_ble_eq_true rfl) (fun p e s m below meth c A ls H locs hx hb hml hr hlocks hnm hts hN hown hK hP hD hA hl hS => ?_)
  have hl : lv_has ls 4 [(0, .ref aK), (1, .int (nI 4)), (2, .int (nI j)), (3, .int x)] := hl
  refine lv_aload_n hx hb d_Core_changeOrAsk_0 rfl (lv_at hl 0 rfl) ?_
  refine va_get (D := D) (ci := 1) (v := .ref aC) (C := R_Core) (T := T_Core) (N := 8) hx hb hts in_Core hown hK hP 0 rfl rfl 0 (by decide) (hts _ iw_74) (fun _ h9 => h9) rfl d_Core_changeOrAsk_1 ?_
  refine lv_iload_n hx hb d_Core_changeOrAsk_4 rfl (lv_at hl 2 rfl) ?_
  refine mk_calli (X := [(aK, .inr (1, [.ref aC, .ref b1, .ref b2, .int (nI k), .int rk, .int (nI ra), .int rw, .int lw])), (aC, .inr (0, [.ref aM, .int (nI wy), .ref a1, .ref a2, .ref a3, .int us])), (a1, .inl (cI, 8, .inl st)), (a2, .inl (cI, 8, .inl ua)), (a3, .inl (cI, 32, .inl wd))]) (pl := []) (wc := []) (wr := [(aK, .inr (1, [.ref aC, .ref b1, .ref b2, .int (nI k), .int rk, .int (nI ra), .int rw, .int lw])), (aC, .inr (0, [.ref aM, .int (nI wy), .ref a1, .ref a2, .ref a3, .int us])), (a1, .inl (cI, 8, .inl st)), (a2, .inl (cI, 8, .inl ua)), (a3, .inl (cI, 32, .inl wd))]) (w1 := []) (X1 := [(aK, .inr (1, [.ref aC, .ref b1, .ref b2, .int (nI k), .int rk, .int (nI ra), .int rw, .int lw])), (aC, .inr (0, [.ref aM, .int (nI wy), .ref a1, .ref a2, .ref a3, .int us])), (a1, .inl (cI, 8, .inl st)), (a2, .inl (cI, 8, .inl ua)), (a3, .inl (cI, 32, .inl wd))]) hP hD hS hA [] [0, 1, 2, 3, 4] [0, 1, 2, 3, 4] rfl rfl rfl (by decide) (by decide) (by decide)
    (va_runSN (As := [.int (nI j)]) (rest := [.ref aC]) ⟨hx, hb, hml, hown, hts⟩ (c_lineOf l D cI cO j (by first | assumption | omega) H.size) ⟨va_cnB 1 hts g_Bus_lineOf rfl rfl rfl (hN _ in_w16) (hts _ iw_39) (by decide +kernel) ⟨by decide, by decide⟩, hts _ iw_94, trivial⟩ (mk_preS (X := [(aK, .inr (1, [.ref aC, .ref b1, .ref b2, .int (nI k), .int rk, .int (nI ra), .int rw, .int lw])), (aC, .inr (0, [.ref aM, .int (nI wy), .ref a1, .ref a2, .ref a3, .int us])), (a1, .inl (cI, 8, .inl st)), (a2, .inl (cI, 8, .inl ua)), (a3, .inl (cI, 32, .inl wd))]) (pl := []) hN hK hP hD [] (by decide) rfl) rfl rfl hl.1 rfl (lv_room (Nat.le_of_ble_eq_true rfl)) d_Core_changeOrAsk_5 ⟨Nat.le_refl _, Nat.le_refl _⟩) (fun H locs hP hD hS => ?_)
  have hP : va_P D vwCl [(aK, .inr (1, [.ref aC, .ref b1, .ref b2, .int (nI k), .int rk, .int (nI ra), .int rw, .int lw])), (aC, .inr (0, [.ref aM, .int (nI wy), .ref a1, .ref a2, .ref a3, .int us])), (a1, .inl (cI, 8, .inl st)), (a2, .inl (cI, 8, .inl ua)), (a3, .inl (cI, 32, .inl wd))] H := hP
  have hD : va_D A [(aK, .inr (1, [.ref aC, .ref b1, .ref b2, .int (nI k), .int rk, .int (nI ra), .int rw, .int lw])), (aC, .inr (0, [.ref aM, .int (nI wy), .ref a1, .ref a2, .ref a3, .int us])), (a1, .inl (cI, 8, .inl st)), (a2, .inl (cI, 8, .inl ua)), (a3, .inl (cI, 32, .inl wd))] := hD
  refine mk_calli (X := [(aK, .inr (1, [.ref aC, .ref b1, .ref b2, .int (nI k), .int rk, .int (nI ra), .int rw, .int lw])), (aC, .inr (0, [.ref aM, .int (nI wy), .ref a1, .ref a2, .ref a3, .int us])), (a1, .inl (cI, 8, .inl st)), (a2, .inl (cI, 8, .inl ua)), (a3, .inl (cI, 32, .inl wd))]) (pl := []) (wc := [(aC, .inr (0, [.ref aM, .int (nI wy), .ref a1, .ref a2, .ref a3, .int us])), (a1, .inl (cI, 8, .inl st))]) (wr := [(aK, .inr (1, [.ref aC, .ref b1, .ref b2, .int (nI k), .int rk, .int (nI ra), .int rw, .int lw])), (a2, .inl (cI, 8, .inl ua)), (a3, .inl (cI, 32, .inl wd))]) (w1 := [(aC, .inr (0, [.ref aM, .int (nI wy), .ref a1, .ref a2, .ref a3, .int us])), (a1, .inl (cI, 8, .inl st))]) (X1 := [(aK, .inr (1, [.ref aC, .ref b1, .ref b2, .int (nI k), .int rk, .int (nI ra), .int rw, .int lw])), (aC, .inr (0, [.ref aM, .int (nI wy), .ref a1, .ref a2, .ref a3, .int us])), (a1, .inl (cI, 8, .inl st)), (a2, .inl (cI, 8, .inl ua)), (a3, .inl (cI, 32, .inl wd))]) hP hD hS hA [1, 2] [0, 3, 4] [0, 3, 4, 1, 2] rfl rfl rfl (by decide) (by decide) (by decide)
    (va_runVN (b := aC) (As := [.int (nI (j / 4))]) (rest := []) ⟨hx, hb, hml, hown, hts⟩ (c_owns_1 l D cI cO aC aM a1 a2 a3 wy us st (j / 4) (by omega) (by first | assumption | omega) H.size) ⟨va_cnB 1 hts g_Cache_owns rfl rfl rfl (hN _ in_w17) (hts _ iw_40) (by decide +kernel) ⟨by decide, by decide⟩, hts _ iw_122, hts _ iw_123⟩ (mk_preV (X := [(aK, .inr (1, [.ref aC, .ref b1, .ref b2, .int (nI k), .int rk, .int (nI ra), .int rw, .int lw])), (aC, .inr (0, [.ref aM, .int (nI wy), .ref a1, .ref a2, .ref a3, .int us])), (a1, .inl (cI, 8, .inl st)), (a2, .inl (cI, 8, .inl ua)), (a3, .inl (cI, 32, .inl wd))]) (pl := []) hN hK hP hD [1, 2] (by decide) rfl 1 rfl rfl rfl) rfl rfl hl.1 rfl (lv_room (Nat.le_of_ble_eq_true rfl)) d_Core_changeOrAsk_8 ⟨Nat.le_refl _, Nat.le_refl _⟩) (fun H locs hP hD hS => ?_)
  have hP : va_P D vwCl [(aK, .inr (1, [.ref aC, .ref b1, .ref b2, .int (nI k), .int rk, .int (nI ra), .int rw, .int lw])), (aC, .inr (0, [.ref aM, .int (nI wy), .ref a1, .ref a2, .ref a3, .int us])), (a1, .inl (cI, 8, .inl st)), (a2, .inl (cI, 8, .inl ua)), (a3, .inl (cI, 32, .inl wd))] H := hP
  have hD : va_D A [(aK, .inr (1, [.ref aC, .ref b1, .ref b2, .int (nI k), .int rk, .int (nI ra), .int rw, .int lw])), (aC, .inr (0, [.ref aM, .int (nI wy), .ref a1, .ref a2, .ref a3, .int us])), (a1, .inl (cI, 8, .inl st)), (a2, .inl (cI, 8, .inl ua)), (a3, .inl (cI, 32, .inl wd))] := hD
  refine lv_if_eq (tgt := 23) hx hb d_Core_changeOrAsk_11 rfl (fun h => absurd h (by decide)) (fun _ => ?_)
  refine lv_aload_n hx hb d_Core_changeOrAsk_14 rfl (lv_at hl 0 rfl) ?_
  refine lv_iload_n hx hb d_Core_changeOrAsk_15 rfl (lv_at hl 1 rfl) ?_
  refine lv_iload_n hx hb d_Core_changeOrAsk_16 rfl (lv_at hl 2 rfl) ?_
  refine lv_iload_n hx hb d_Core_changeOrAsk_17 rfl (lv_at hl 3 rfl) ?_
  refine mk_callv (X := [(aK, .inr (1, [.ref aC, .ref b1, .ref b2, .int (nI k), .int rk, .int (nI ra), .int rw, .int lw])), (aC, .inr (0, [.ref aM, .int (nI wy), .ref a1, .ref a2, .ref a3, .int us])), (a1, .inl (cI, 8, .inl st)), (a2, .inl (cI, 8, .inl ua)), (a3, .inl (cI, 32, .inl wd))]) (pl := []) (wc := [(aK, .inr (1, [.ref aC, .ref b1, .ref b2, .int (nI k), .int rk, .int (nI ra), .int rw, .int lw])), (aC, .inr (0, [.ref aM, .int (nI wy), .ref a1, .ref a2, .ref a3, .int us])), (a1, .inl (cI, 8, .inl st)), (a2, .inl (cI, 8, .inl ua)), (a3, .inl (cI, 32, .inl wd))]) (wr := []) (w1 := [(aK, .inr (1, [.ref aC, .ref b1, .ref b2, .int (nI k), .int rk, .int (nI ra), .int rw, .int (wd j)])), (aC, .inr (0, [.ref aM, .int (nI wy), .ref a1, .ref a2, .ref a3, .int (us + nI 1)])), (a1, .inl (cI, 8, .inl (upd st (j / 4) (nI 3)))), (a2, .inl (cI, 8, .inl (upd ua (j / 4) (us + nI 1)))), (a3, .inl (cI, 32, .inl (upd wd j (wd j + x))))]) (X1 := [(aK, .inr (1, [.ref aC, .ref b1, .ref b2, .int (nI k), .int rk, .int (nI ra), .int rw, .int (wd j)])), (aC, .inr (0, [.ref aM, .int (nI wy), .ref a1, .ref a2, .ref a3, .int (us + nI 1)])), (a1, .inl (cI, 8, .inl (upd st (j / 4) (nI 3)))), (a2, .inl (cI, 8, .inl (upd ua (j / 4) (us + nI 1)))), (a3, .inl (cI, 32, .inl (upd wd j (wd j + x))))]) hP hD hS hA [0, 1, 2, 3, 4] [] [0, 1, 2, 3, 4] rfl rfl rfl (by decide) (by decide) (by decide)
    (va_runV (b := aK) (As := [.int (nI 4), .int (nI j), .int x]) (rest := []) ⟨hx, hb, hml, hown, hts⟩ (c_change_ra l D cI cO aK aC b1 b2 k ra rk rw lw aM a1 a2 a3 wy us st ua wd j x (by first | assumption | omega) H.size) ⟨callB_of 3 hts g_Core_change rfl rfl rfl (hts _ iw_41) (hts _ iw_119) (by decide +kernel) ⟨by decide, by decide⟩, hts _ iw_125, hts _ iw_126⟩ (mk_preV (X := [(aK, .inr (1, [.ref aC, .ref b1, .ref b2, .int (nI k), .int rk, .int (nI ra), .int rw, .int lw])), (aC, .inr (0, [.ref aM, .int (nI wy), .ref a1, .ref a2, .ref a3, .int us])), (a1, .inl (cI, 8, .inl st)), (a2, .inl (cI, 8, .inl ua)), (a3, .inl (cI, 32, .inl wd))]) (pl := []) hN hK hP hD [0, 1, 2, 3, 4] (by decide) rfl 0 rfl rfl rfl) rfl rfl hl.1 rfl (lv_room (Nat.le_of_ble_eq_true rfl)) d_Core_changeOrAsk_18 ⟨Nat.le_refl _, Nat.le_refl _⟩) (fun H locs hP hD hS => ?_)
  have hP : va_P D vwCl [(aK, .inr (1, [.ref aC, .ref b1, .ref b2, .int (nI k), .int rk, .int (nI ra), .int rw, .int (wd j)])), (aC, .inr (0, [.ref aM, .int (nI wy), .ref a1, .ref a2, .ref a3, .int (us + nI 1)])), (a1, .inl (cI, 8, .inl (upd st (j / 4) (nI 3)))), (a2, .inl (cI, 8, .inl (upd ua (j / 4) (us + nI 1)))), (a3, .inl (cI, 32, .inl (upd wd j (wd j + x))))] H := hP
  have hD : va_D A [(aK, .inr (1, [.ref aC, .ref b1, .ref b2, .int (nI k), .int rk, .int (nI ra), .int rw, .int (wd j)])), (aC, .inr (0, [.ref aM, .int (nI wy), .ref a1, .ref a2, .ref a3, .int (us + nI 1)])), (a1, .inl (cI, 8, .inl (upd st (j / 4) (nI 3)))), (a2, .inl (cI, 8, .inl (upd ua (j / 4) (us + nI 1)))), (a3, .inl (cI, 32, .inl (upd wd j (wd j + x))))] := hD
  refine lv_iconst (v := nI 0) hx hb d_Core_changeOrAsk_21 (by decide) ?_
  exact mk_iret hx hb hr hlocks hK hP hD hS d_Core_changeOrAsk_22 rfl rfl
end
section
set_option maxRecDepth 100000 in
set_option maxHeartbeats 4000000 in
theorem c_isCore_1 (l : Launch) (D : va_G) (cI cO : ClassId) (aB aM aR n sl : Nat) (sv iv ug : Int32) (g : Nat → Option Nat) (i : Nat) (hn : n ≤ 4) (hi : i < n) : mk_M l y_Bus_isCore w_Bus_isCore ({ frames := 0, cells := 0, slots := 0, locals := 0 } : Room) D (tysK cI cO) [.ref aB, .int (nI i)] [(aB, .inr (3, [.ref aM, .ref aR, .int (nI sl), .int sv, .int iv, .int ug])), (aR, .inl (cO, n, .inr (.inr (.inr (.inr g)))))] (mk_Qi D (tysK cI cO) (nI 1) [(aB, .inr (3, [.ref aM, .ref aR, .int (nI sl), .int sv, .int iv, .int ug])), (aR, .inl (cO, n, .inr (.inr (.inr (.inr g)))))]) := by
  refine mk_start (cc := b_Bus_isCore) (maxL := 2) (ret := (some FieldType.boolean)) (by decide) (Nat.le_of_ble_eq_true rfl) (fun p e s m below meth c A ls H locs hx hb hml hr hlocks hnm hts hN hown hK hP hD hA hl hS => ?_)
  have hl : lv_has ls 2 [(0, .ref aB), (1, .int (nI i))] := hl
  refine lv_iload_n hx hb d_Bus_isCore_0 rfl (lv_at hl 1 rfl) ?_
  refine lv_if_lt (tgt := 17) hx hb d_Bus_isCore_1 rfl (fun h => absurd h (nI_pos (by omega))) (fun _ => ?_)
  refine lv_iload_n hx hb d_Bus_isCore_4 rfl (lv_at hl 1 rfl) ?_
  refine lv_aload_n hx hb d_Bus_isCore_5 rfl (lv_at hl 0 rfl) ?_
  refine va_get (D := D) (ci := 3) (v := .ref aR) (C := R_Bus) (T := T_Bus) (N := 6) hx hb hts in_Bus hown hK hP 0 rfl rfl 1 (by decide) (hts _ iw_53) (fun _ h9 => h9) rfl d_Bus_isCore_6 ?_
  refine va_alen (v := nI n) hx hb hK hP 1 1 rfl rfl rfl d_Bus_isCore_9 ?_
  refine lv_icmp_ge (tgt := 17) hx hb d_Bus_isCore_10 rfl (fun h => absurd h (fun q => absurd ((nI_leI (by omega) (by omega)).mp q) (by omega))) (fun _ => ?_)
  refine lv_iconst (v := nI 1) hx hb d_Bus_isCore_13 (by decide) ?_
  refine lv_goto (tgt := 18) hx hb d_Bus_isCore_14 rfl ?_
  exact mk_zret hx hb hr hlocks hK hP hD hS d_Bus_isCore_18 (by decide) rfl rfl
set_option maxRecDepth 100000 in
set_option maxHeartbeats 4000000 in
theorem c_isCore_0 (l : Launch) (D : va_G) (cI cO : ClassId) (aB aM aR n sl : Nat) (sv iv ug : Int32) (g : Nat → Option Nat) (x : Int32) (hn : n ≤ 4) (hx0 : ¬ vp_in x n) : mk_M l y_Bus_isCore w_Bus_isCore ({ frames := 0, cells := 0, slots := 0, locals := 0 } : Room) D (tysK cI cO) [.ref aB, .int x] [(aB, .inr (3, [.ref aM, .ref aR, .int (nI sl), .int sv, .int iv, .int ug])), (aR, .inl (cO, n, .inr (.inr (.inr (.inr g)))))] (mk_Qi D (tysK cI cO) (nI 0) [(aB, .inr (3, [.ref aM, .ref aR, .int (nI sl), .int sv, .int iv, .int ug])), (aR, .inl (cO, n, .inr (.inr (.inr (.inr g)))))]) := by
  refine mk_start (cc := b_Bus_isCore) (maxL := 2) (ret := (some FieldType.boolean)) (by decide) (Nat.le_of_ble_eq_true rfl) (fun p e s m below meth c A ls H locs hx hb hml hr hlocks hnm hts hN hown hK hP hD hA hl hS => ?_)
  have hl : lv_has ls 2 [(0, .ref aB), (1, .int x)] := hl
  refine lv_iload_n hx hb d_Bus_isCore_0 rfl (lv_at hl 1 rfl) ?_
  refine lv_if_lt (tgt := 17) hx hb d_Bus_isCore_1 rfl (fun h1 => ?_) (fun h1 => ?_)
  · refine lv_iconst (v := nI 0) hx hb d_Bus_isCore_17 (by decide) ?_
    exact mk_zret hx hb hr hlocks hK hP hD hS d_Bus_isCore_18 (by decide) rfl rfl
  · refine lv_iload_n hx hb d_Bus_isCore_4 rfl (lv_at hl 1 rfl) ?_
    refine lv_aload_n hx hb d_Bus_isCore_5 rfl (lv_at hl 0 rfl) ?_
    refine va_get (D := D) (ci := 3) (v := .ref aR) (C := R_Bus) (T := T_Bus) (N := 6) hx hb hts in_Bus hown hK hP 0 rfl rfl 1 (by decide) (hts _ iw_53) (fun _ h9 => h9) rfl d_Bus_isCore_6 ?_
    refine va_alen (v := nI n) hx hb hK hP 1 1 rfl rfl rfl d_Bus_isCore_9 ?_
    refine lv_icmp_ge (tgt := 17) hx hb d_Bus_isCore_10 rfl (fun _ => ?_) (fun h => absurd (vp_hi (by omega) hx0 h1) h)
    refine lv_iconst (v := nI 0) hx hb d_Bus_isCore_17 (by decide) ?_
    exact mk_zret hx hb hr hlocks hK hP hD hS d_Bus_isCore_18 (by decide) rfl rfl
set_option maxRecDepth 100000 in
set_option maxHeartbeats 4000000 in
theorem c_load_bc (l : Launch) (D : va_G) (cI cO : ClassId) (aB aM aR n sl : Nat) (sv iv ug : Int32) (g : Nat → Option Nat) (x : Int32) (y0 : Int32) (hn : n ≤ 4) (hx0 : ¬ vp_in x n) : mk_M l y_Bus_load w_Bus_load ({ frames := 1, cells := 0, slots := 0, locals := 21 } : Room) D (tysK cI cO) [.ref aB, .int x, .int y0] [(aB, .inr (3, [.ref aM, .ref aR, .int (nI sl), .int sv, .int iv, .int ug])), (aR, .inl (cO, n, .inr (.inr (.inr (.inr g)))))] (mk_Qi D (tysK cI cO) (-1) [(aB, .inr (3, [.ref aM, .ref aR, .int (nI sl), .int sv, .int iv, .int ug])), (aR, .inl (cO, n, .inr (.inr (.inr (.inr g)))))]) := by
  refine mk_start (cc := b_Bus_load) (maxL := 5) (ret := (some FieldType.int)) (by decide) (Nat.le_of_ble_eq_true rfl) (fun p e s m below meth c A ls H locs hx hb hml hr hlocks hnm hts hN hown hK hP hD hA hl hS => ?_)
  have hl : lv_has ls 5 [(0, .ref aB), (1, .int x), (2, .int y0)] := hl
  refine lv_aload_n hx hb d_Bus_load_0 rfl (lv_at hl 0 rfl) ?_
  refine lv_iload_n hx hb d_Bus_load_1 rfl (lv_at hl 1 rfl) ?_
  refine mk_calli (X := [(aB, .inr (3, [.ref aM, .ref aR, .int (nI sl), .int sv, .int iv, .int ug])), (aR, .inl (cO, n, .inr (.inr (.inr (.inr g)))))]) (pl := []) (wc := [(aB, .inr (3, [.ref aM, .ref aR, .int (nI sl), .int sv, .int iv, .int ug])), (aR, .inl (cO, n, .inr (.inr (.inr (.inr g)))))]) (wr := []) (w1 := [(aB, .inr (3, [.ref aM, .ref aR, .int (nI sl), .int sv, .int iv, .int ug])), (aR, .inl (cO, n, .inr (.inr (.inr (.inr g)))))]) (X1 := [(aB, .inr (3, [.ref aM, .ref aR, .int (nI sl), .int sv, .int iv, .int ug])), (aR, .inl (cO, n, .inr (.inr (.inr (.inr g)))))]) hP hD hS hA [0, 1] [] [0, 1] rfl rfl rfl (by decide) (by decide) (by decide)
    (va_runV (b := aB) (As := [.int x]) (rest := []) ⟨hx, hb, hml, hown, hts⟩ (c_isCore_0 l D cI cO aB aM aR n sl sv iv ug g x (by first | assumption | omega) (by first | assumption | omega) H.size) ⟨callB_of 1 hts g_Bus_isCore rfl rfl rfl (hts _ iw_39) (hts _ iw_78) (by decide +kernel) ⟨by decide, by decide⟩, hts _ iw_82, hts _ iw_83⟩ (mk_preV (X := [(aB, .inr (3, [.ref aM, .ref aR, .int (nI sl), .int sv, .int iv, .int ug])), (aR, .inl (cO, n, .inr (.inr (.inr (.inr g)))))]) (pl := []) hN hK hP hD [0, 1] (by decide) rfl 0 rfl rfl rfl) rfl rfl hl.1 rfl (lv_room (Nat.le_of_ble_eq_true rfl)) d_Bus_load_2 ⟨Nat.le_refl _, Nat.le_refl _⟩) (fun H locs hP hD hS => ?_)
  have hP : va_P D vwCl [(aB, .inr (3, [.ref aM, .ref aR, .int (nI sl), .int sv, .int iv, .int ug])), (aR, .inl (cO, n, .inr (.inr (.inr (.inr g)))))] H := hP
  have hD : va_D A [(aB, .inr (3, [.ref aM, .ref aR, .int (nI sl), .int sv, .int iv, .int ug])), (aR, .inl (cO, n, .inr (.inr (.inr (.inr g)))))] := hD
  refine lv_if_eq (tgt := 15) hx hb d_Bus_load_5 rfl (fun _ => ?_) (fun h => absurd (by decide) h)
  refine lv_iconst (v := (-1)) hx hb d_Bus_load_15 (by decide) ?_
  exact mk_iret hx hb hr hlocks hK hP hD hS d_Bus_load_16 rfl rfl
set_option maxRecDepth 100000 in
set_option maxHeartbeats 4000000 in
theorem c_store_bc (l : Launch) (D : va_G) (cI cO : ClassId) (aB aM aR n sl : Nat) (sv iv ug : Int32) (g : Nat → Option Nat) (x : Int32) (y0 y1 : Int32) (hn : n ≤ 4) (hx0 : ¬ vp_in x n) : mk_M l y_Bus_store w_Bus_store ({ frames := 1, cells := 0, slots := 0, locals := 21 } : Room) D (tysK cI cO) [.ref aB, .int x, .int y0, .int y1] [(aB, .inr (3, [.ref aM, .ref aR, .int (nI sl), .int sv, .int iv, .int ug])), (aR, .inl (cO, n, .inr (.inr (.inr (.inr g)))))] (mk_Qi D (tysK cI cO) (-1) [(aB, .inr (3, [.ref aM, .ref aR, .int (nI sl), .int sv, .int iv, .int ug])), (aR, .inl (cO, n, .inr (.inr (.inr (.inr g)))))]) := by
  refine mk_start (cc := b_Bus_store) (maxL := 5) (ret := (some FieldType.int)) (by decide) (Nat.le_of_ble_eq_true rfl) (fun p e s m below meth c A ls H locs hx hb hml hr hlocks hnm hts hN hown hK hP hD hA hl hS => ?_)
  have hl : lv_has ls 5 [(0, .ref aB), (1, .int x), (2, .int y0), (3, .int y1)] := hl
  refine lv_aload_n hx hb d_Bus_store_0 rfl (lv_at hl 0 rfl) ?_
  refine lv_iload_n hx hb d_Bus_store_1 rfl (lv_at hl 1 rfl) ?_
  refine mk_calli (X := [(aB, .inr (3, [.ref aM, .ref aR, .int (nI sl), .int sv, .int iv, .int ug])), (aR, .inl (cO, n, .inr (.inr (.inr (.inr g)))))]) (pl := []) (wc := [(aB, .inr (3, [.ref aM, .ref aR, .int (nI sl), .int sv, .int iv, .int ug])), (aR, .inl (cO, n, .inr (.inr (.inr (.inr g)))))]) (wr := []) (w1 := [(aB, .inr (3, [.ref aM, .ref aR, .int (nI sl), .int sv, .int iv, .int ug])), (aR, .inl (cO, n, .inr (.inr (.inr (.inr g)))))]) (X1 := [(aB, .inr (3, [.ref aM, .ref aR, .int (nI sl), .int sv, .int iv, .int ug])), (aR, .inl (cO, n, .inr (.inr (.inr (.inr g)))))]) hP hD hS hA [0, 1] [] [0, 1] rfl rfl rfl (by decide) (by decide) (by decide)
    (va_runV (b := aB) (As := [.int x]) (rest := []) ⟨hx, hb, hml, hown, hts⟩ (c_isCore_0 l D cI cO aB aM aR n sl sv iv ug g x (by first | assumption | omega) (by first | assumption | omega) H.size) ⟨callB_of 1 hts g_Bus_isCore rfl rfl rfl (hts _ iw_39) (hts _ iw_78) (by decide +kernel) ⟨by decide, by decide⟩, hts _ iw_82, hts _ iw_83⟩ (mk_preV (X := [(aB, .inr (3, [.ref aM, .ref aR, .int (nI sl), .int sv, .int iv, .int ug])), (aR, .inl (cO, n, .inr (.inr (.inr (.inr g)))))]) (pl := []) hN hK hP hD [0, 1] (by decide) rfl 0 rfl rfl rfl) rfl rfl hl.1 rfl (lv_room (Nat.le_of_ble_eq_true rfl)) d_Bus_store_2 ⟨Nat.le_refl _, Nat.le_refl _⟩) (fun H locs hP hD hS => ?_)
  have hP : va_P D vwCl [(aB, .inr (3, [.ref aM, .ref aR, .int (nI sl), .int sv, .int iv, .int ug])), (aR, .inl (cO, n, .inr (.inr (.inr (.inr g)))))] H := hP
  have hD : va_D A [(aB, .inr (3, [.ref aM, .ref aR, .int (nI sl), .int sv, .int iv, .int ug])), (aR, .inl (cO, n, .inr (.inr (.inr (.inr g)))))] := hD
  refine lv_if_eq (tgt := 15) hx hb d_Bus_store_5 rfl (fun _ => ?_) (fun h => absurd (by decide) h)
  refine lv_iconst (v := (-1)) hx hb d_Bus_store_15 (by decide) ?_
  exact mk_iret hx hb hr hlocks hK hP hD hS d_Bus_store_16 rfl rfl
set_option maxRecDepth 100000 in
set_option maxHeartbeats 4000000 in
theorem c_drain_bc (l : Launch) (D : va_G) (cI cO : ClassId) (aB aM aR n sl : Nat) (sv iv ug : Int32) (g : Nat → Option Nat) (x : Int32) (hn : n ≤ 4) (hx0 : ¬ vp_in x n) : mk_M l y_Bus_drain w_Bus_drain ({ frames := 1, cells := 0, slots := 0, locals := 21 } : Room) D (tysK cI cO) [.ref aB, .int x] [(aB, .inr (3, [.ref aM, .ref aR, .int (nI sl), .int sv, .int iv, .int ug])), (aR, .inl (cO, n, .inr (.inr (.inr (.inr g)))))] (mk_Qi D (tysK cI cO) (-1) [(aB, .inr (3, [.ref aM, .ref aR, .int (nI sl), .int sv, .int iv, .int ug])), (aR, .inl (cO, n, .inr (.inr (.inr (.inr g)))))]) := by
  refine mk_start (cc := b_Bus_drain) (maxL := 3) (ret := (some FieldType.int)) (by decide) (Nat.le_of_ble_eq_true rfl) (fun p e s m below meth c A ls H locs hx hb hml hr hlocks hnm hts hN hown hK hP hD hA hl hS => ?_)
  have hl : lv_has ls 3 [(0, .ref aB), (1, .int x)] := hl
  refine lv_aload_n hx hb d_Bus_drain_0 rfl (lv_at hl 0 rfl) ?_
  refine lv_iload_n hx hb d_Bus_drain_1 rfl (lv_at hl 1 rfl) ?_
  refine mk_calli (X := [(aB, .inr (3, [.ref aM, .ref aR, .int (nI sl), .int sv, .int iv, .int ug])), (aR, .inl (cO, n, .inr (.inr (.inr (.inr g)))))]) (pl := []) (wc := [(aB, .inr (3, [.ref aM, .ref aR, .int (nI sl), .int sv, .int iv, .int ug])), (aR, .inl (cO, n, .inr (.inr (.inr (.inr g)))))]) (wr := []) (w1 := [(aB, .inr (3, [.ref aM, .ref aR, .int (nI sl), .int sv, .int iv, .int ug])), (aR, .inl (cO, n, .inr (.inr (.inr (.inr g)))))]) (X1 := [(aB, .inr (3, [.ref aM, .ref aR, .int (nI sl), .int sv, .int iv, .int ug])), (aR, .inl (cO, n, .inr (.inr (.inr (.inr g)))))]) hP hD hS hA [0, 1] [] [0, 1] rfl rfl rfl (by decide) (by decide) (by decide)
    (va_runV (b := aB) (As := [.int x]) (rest := []) ⟨hx, hb, hml, hown, hts⟩ (c_isCore_0 l D cI cO aB aM aR n sl sv iv ug g x (by first | assumption | omega) (by first | assumption | omega) H.size) ⟨callB_of 1 hts g_Bus_isCore rfl rfl rfl (hts _ iw_39) (hts _ iw_78) (by decide +kernel) ⟨by decide, by decide⟩, hts _ iw_82, hts _ iw_83⟩ (mk_preV (X := [(aB, .inr (3, [.ref aM, .ref aR, .int (nI sl), .int sv, .int iv, .int ug])), (aR, .inl (cO, n, .inr (.inr (.inr (.inr g)))))]) (pl := []) hN hK hP hD [0, 1] (by decide) rfl 0 rfl rfl rfl) rfl rfl hl.1 rfl (lv_room (Nat.le_of_ble_eq_true rfl)) d_Bus_drain_2 ⟨Nat.le_refl _, Nat.le_refl _⟩) (fun H locs hP hD hS => ?_)
  have hP : va_P D vwCl [(aB, .inr (3, [.ref aM, .ref aR, .int (nI sl), .int sv, .int iv, .int ug])), (aR, .inl (cO, n, .inr (.inr (.inr (.inr g)))))] H := hP
  have hD : va_D A [(aB, .inr (3, [.ref aM, .ref aR, .int (nI sl), .int sv, .int iv, .int ug])), (aR, .inl (cO, n, .inr (.inr (.inr (.inr g)))))] := hD
  refine lv_if_ne (tgt := 10) hx hb d_Bus_drain_5 rfl (fun h => absurd (by decide) h) (fun _ => ?_)
  refine lv_iconst (v := (-1)) hx hb d_Bus_drain_8 (by decide) ?_
  exact mk_iret hx hb hr hlocks hK hP hD hS d_Bus_drain_9 rfl rfl
set_option maxRecDepth 100000 in
set_option maxHeartbeats 4000000 in
theorem c_evict_bc (l : Launch) (D : va_G) (cI cO : ClassId) (aB aM aR n sl : Nat) (sv iv ug : Int32) (g : Nat → Option Nat) (x : Int32) (y0 : Int32) (hn : n ≤ 4) (hx0 : ¬ vp_in x n) : mk_M l y_Bus_evict w_Bus_evict ({ frames := 1, cells := 0, slots := 0, locals := 21 } : Room) D (tysK cI cO) [.ref aB, .int x, .int y0] [(aB, .inr (3, [.ref aM, .ref aR, .int (nI sl), .int sv, .int iv, .int ug])), (aR, .inl (cO, n, .inr (.inr (.inr (.inr g)))))] (mk_Qi D (tysK cI cO) (-1) [(aB, .inr (3, [.ref aM, .ref aR, .int (nI sl), .int sv, .int iv, .int ug])), (aR, .inl (cO, n, .inr (.inr (.inr (.inr g)))))]) := by
  refine mk_start (cc := b_Bus_evict) (maxL := 5) (ret := (some FieldType.int)) (by decide) (Nat.le_of_ble_eq_true rfl) (fun p e s m below meth c A ls H locs hx hb hml hr hlocks hnm hts hN hown hK hP hD hA hl hS => ?_)
  have hl : lv_has ls 5 [(0, .ref aB), (1, .int x), (2, .int y0)] := hl
  refine lv_aload_n hx hb d_Bus_evict_0 rfl (lv_at hl 0 rfl) ?_
  refine lv_iload_n hx hb d_Bus_evict_1 rfl (lv_at hl 1 rfl) ?_
  refine mk_calli (X := [(aB, .inr (3, [.ref aM, .ref aR, .int (nI sl), .int sv, .int iv, .int ug])), (aR, .inl (cO, n, .inr (.inr (.inr (.inr g)))))]) (pl := []) (wc := [(aB, .inr (3, [.ref aM, .ref aR, .int (nI sl), .int sv, .int iv, .int ug])), (aR, .inl (cO, n, .inr (.inr (.inr (.inr g)))))]) (wr := []) (w1 := [(aB, .inr (3, [.ref aM, .ref aR, .int (nI sl), .int sv, .int iv, .int ug])), (aR, .inl (cO, n, .inr (.inr (.inr (.inr g)))))]) (X1 := [(aB, .inr (3, [.ref aM, .ref aR, .int (nI sl), .int sv, .int iv, .int ug])), (aR, .inl (cO, n, .inr (.inr (.inr (.inr g)))))]) hP hD hS hA [0, 1] [] [0, 1] rfl rfl rfl (by decide) (by decide) (by decide)
    (va_runV (b := aB) (As := [.int x]) (rest := []) ⟨hx, hb, hml, hown, hts⟩ (c_isCore_0 l D cI cO aB aM aR n sl sv iv ug g x (by first | assumption | omega) (by first | assumption | omega) H.size) ⟨callB_of 1 hts g_Bus_isCore rfl rfl rfl (hts _ iw_39) (hts _ iw_78) (by decide +kernel) ⟨by decide, by decide⟩, hts _ iw_82, hts _ iw_83⟩ (mk_preV (X := [(aB, .inr (3, [.ref aM, .ref aR, .int (nI sl), .int sv, .int iv, .int ug])), (aR, .inl (cO, n, .inr (.inr (.inr (.inr g)))))]) (pl := []) hN hK hP hD [0, 1] (by decide) rfl 0 rfl rfl rfl) rfl rfl hl.1 rfl (lv_room (Nat.le_of_ble_eq_true rfl)) d_Bus_evict_2 ⟨Nat.le_refl _, Nat.le_refl _⟩) (fun H locs hP hD hS => ?_)
  have hP : va_P D vwCl [(aB, .inr (3, [.ref aM, .ref aR, .int (nI sl), .int sv, .int iv, .int ug])), (aR, .inl (cO, n, .inr (.inr (.inr (.inr g)))))] H := hP
  have hD : va_D A [(aB, .inr (3, [.ref aM, .ref aR, .int (nI sl), .int sv, .int iv, .int ug])), (aR, .inl (cO, n, .inr (.inr (.inr (.inr g)))))] := hD
  refine lv_if_eq (tgt := 15) hx hb d_Bus_evict_5 rfl (fun _ => ?_) (fun h => absurd (by decide) h)
  refine lv_iconst (v := (-1)) hx hb d_Bus_evict_15 (by decide) ?_
  exact mk_iret hx hb hr hlocks hK hP hD hS d_Bus_evict_16 rfl rfl
set_option maxRecDepth 100000 in
set_option maxHeartbeats 4000000 in
theorem c_last_bc (l : Launch) (D : va_G) (cI cO : ClassId) (aB aM aR n sl : Nat) (sv iv ug : Int32) (g : Nat → Option Nat) (x : Int32) (hn : n ≤ 4) (hx0 : ¬ vp_in x n) : mk_M l y_Bus_last w_Bus_last ({ frames := 1, cells := 0, slots := 0, locals := 21 } : Room) D (tysK cI cO) [.ref aB, .int x] [(aB, .inr (3, [.ref aM, .ref aR, .int (nI sl), .int sv, .int iv, .int ug])), (aR, .inl (cO, n, .inr (.inr (.inr (.inr g)))))] (mk_Qi D (tysK cI cO) (nI 0) [(aB, .inr (3, [.ref aM, .ref aR, .int (nI sl), .int sv, .int iv, .int ug])), (aR, .inl (cO, n, .inr (.inr (.inr (.inr g)))))]) := by
  refine mk_start (cc := b_Bus_last) (maxL := 2) (ret := (some FieldType.int)) (by decide) (Nat.le_of_ble_eq_true rfl) (fun p e s m below meth c A ls H locs hx hb hml hr hlocks hnm hts hN hown hK hP hD hA hl hS => ?_)
  have hl : lv_has ls 2 [(0, .ref aB), (1, .int x)] := hl
  refine lv_aload_n hx hb d_Bus_last_0 rfl (lv_at hl 0 rfl) ?_
  refine lv_iload_n hx hb d_Bus_last_1 rfl (lv_at hl 1 rfl) ?_
  refine mk_calli (X := [(aB, .inr (3, [.ref aM, .ref aR, .int (nI sl), .int sv, .int iv, .int ug])), (aR, .inl (cO, n, .inr (.inr (.inr (.inr g)))))]) (pl := []) (wc := [(aB, .inr (3, [.ref aM, .ref aR, .int (nI sl), .int sv, .int iv, .int ug])), (aR, .inl (cO, n, .inr (.inr (.inr (.inr g)))))]) (wr := []) (w1 := [(aB, .inr (3, [.ref aM, .ref aR, .int (nI sl), .int sv, .int iv, .int ug])), (aR, .inl (cO, n, .inr (.inr (.inr (.inr g)))))]) (X1 := [(aB, .inr (3, [.ref aM, .ref aR, .int (nI sl), .int sv, .int iv, .int ug])), (aR, .inl (cO, n, .inr (.inr (.inr (.inr g)))))]) hP hD hS hA [0, 1] [] [0, 1] rfl rfl rfl (by decide) (by decide) (by decide)
    (va_runV (b := aB) (As := [.int x]) (rest := []) ⟨hx, hb, hml, hown, hts⟩ (c_isCore_0 l D cI cO aB aM aR n sl sv iv ug g x (by first | assumption | omega) (by first | assumption | omega) H.size) ⟨callB_of 1 hts g_Bus_isCore rfl rfl rfl (hts _ iw_39) (hts _ iw_78) (by decide +kernel) ⟨by decide, by decide⟩, hts _ iw_82, hts _ iw_83⟩ (mk_preV (X := [(aB, .inr (3, [.ref aM, .ref aR, .int (nI sl), .int sv, .int iv, .int ug])), (aR, .inl (cO, n, .inr (.inr (.inr (.inr g)))))]) (pl := []) hN hK hP hD [0, 1] (by decide) rfl 0 rfl rfl rfl) rfl rfl hl.1 rfl (lv_room (Nat.le_of_ble_eq_true rfl)) d_Bus_last_2 ⟨Nat.le_refl _, Nat.le_refl _⟩) (fun H locs hP hD hS => ?_)
  have hP : va_P D vwCl [(aB, .inr (3, [.ref aM, .ref aR, .int (nI sl), .int sv, .int iv, .int ug])), (aR, .inl (cO, n, .inr (.inr (.inr (.inr g)))))] H := hP
  have hD : va_D A [(aB, .inr (3, [.ref aM, .ref aR, .int (nI sl), .int sv, .int iv, .int ug])), (aR, .inl (cO, n, .inr (.inr (.inr (.inr g)))))] := hD
  refine lv_if_eq (tgt := 20) hx hb d_Bus_last_5 rfl (fun _ => ?_) (fun h => absurd (by decide) h)
  refine lv_iconst (v := nI 0) hx hb d_Bus_last_20 (by decide) ?_
  exact mk_iret hx hb hr hlocks hK hP hD hS d_Bus_last_21 rfl rfl
set_option maxRecDepth 100000 in
set_option maxHeartbeats 4000000 in
theorem c_request_bc (l : Launch) (D : va_G) (cI cO : ClassId) (aB aM aR n sl : Nat) (sv iv ug : Int32) (g : Nat → Option Nat) (x : Int32) (hn : n ≤ 4) (hx0 : ¬ vp_in x n) : mk_M l y_Bus_request w_Bus_request ({ frames := 1, cells := 0, slots := 0, locals := 21 } : Room) D (tysK cI cO) [.ref aB, .int x] [(aB, .inr (3, [.ref aM, .ref aR, .int (nI sl), .int sv, .int iv, .int ug])), (aR, .inl (cO, n, .inr (.inr (.inr (.inr g)))))] (mk_Qi D (tysK cI cO) (-1) [(aB, .inr (3, [.ref aM, .ref aR, .int (nI sl), .int sv, .int iv, .int ug])), (aR, .inl (cO, n, .inr (.inr (.inr (.inr g)))))]) := by
  refine mk_start (cc := b_Bus_request) (maxL := 3) (ret := (some FieldType.int)) (by decide) (Nat.le_of_ble_eq_true rfl) (fun p e s m below meth c A ls H locs hx hb hml hr hlocks hnm hts hN hown hK hP hD hA hl hS => ?_)
  have hl : lv_has ls 3 [(0, .ref aB), (1, .int x)] := hl
  refine lv_aload_n hx hb d_Bus_request_0 rfl (lv_at hl 0 rfl) ?_
  refine lv_iload_n hx hb d_Bus_request_1 rfl (lv_at hl 1 rfl) ?_
  refine mk_calli (X := [(aB, .inr (3, [.ref aM, .ref aR, .int (nI sl), .int sv, .int iv, .int ug])), (aR, .inl (cO, n, .inr (.inr (.inr (.inr g)))))]) (pl := []) (wc := [(aB, .inr (3, [.ref aM, .ref aR, .int (nI sl), .int sv, .int iv, .int ug])), (aR, .inl (cO, n, .inr (.inr (.inr (.inr g)))))]) (wr := []) (w1 := [(aB, .inr (3, [.ref aM, .ref aR, .int (nI sl), .int sv, .int iv, .int ug])), (aR, .inl (cO, n, .inr (.inr (.inr (.inr g)))))]) (X1 := [(aB, .inr (3, [.ref aM, .ref aR, .int (nI sl), .int sv, .int iv, .int ug])), (aR, .inl (cO, n, .inr (.inr (.inr (.inr g)))))]) hP hD hS hA [0, 1] [] [0, 1] rfl rfl rfl (by decide) (by decide) (by decide)
    (va_runV (b := aB) (As := [.int x]) (rest := []) ⟨hx, hb, hml, hown, hts⟩ (c_isCore_0 l D cI cO aB aM aR n sl sv iv ug g x (by first | assumption | omega) (by first | assumption | omega) H.size) ⟨callB_of 1 hts g_Bus_isCore rfl rfl rfl (hts _ iw_39) (hts _ iw_78) (by decide +kernel) ⟨by decide, by decide⟩, hts _ iw_82, hts _ iw_83⟩ (mk_preV (X := [(aB, .inr (3, [.ref aM, .ref aR, .int (nI sl), .int sv, .int iv, .int ug])), (aR, .inl (cO, n, .inr (.inr (.inr (.inr g)))))]) (pl := []) hN hK hP hD [0, 1] (by decide) rfl 0 rfl rfl rfl) rfl rfl hl.1 rfl (lv_room (Nat.le_of_ble_eq_true rfl)) d_Bus_request_2 ⟨Nat.le_refl _, Nat.le_refl _⟩) (fun H locs hP hD hS => ?_)
  have hP : va_P D vwCl [(aB, .inr (3, [.ref aM, .ref aR, .int (nI sl), .int sv, .int iv, .int ug])), (aR, .inl (cO, n, .inr (.inr (.inr (.inr g)))))] H := hP
  have hD : va_D A [(aB, .inr (3, [.ref aM, .ref aR, .int (nI sl), .int sv, .int iv, .int ug])), (aR, .inl (cO, n, .inr (.inr (.inr (.inr g)))))] := hD
  refine lv_if_ne (tgt := 10) hx hb d_Bus_request_5 rfl (fun h => absurd (by decide) h) (fun _ => ?_)
  refine lv_iconst (v := (-1)) hx hb d_Bus_request_8 (by decide) ?_
  exact mk_iret hx hb hr hlocks hK hP hD hS d_Bus_request_9 rfl rfl
set_option maxRecDepth 100000 in
set_option maxHeartbeats 4000000 in
theorem c_buffered_bc (l : Launch) (D : va_G) (cI cO : ClassId) (aB aM aR n sl : Nat) (sv iv ug : Int32) (g : Nat → Option Nat) (x : Int32) (hn : n ≤ 4) (hx0 : ¬ vp_in x n) : mk_M l y_Bus_buffered w_Bus_buffered ({ frames := 1, cells := 0, slots := 0, locals := 21 } : Room) D (tysK cI cO) [.ref aB, .int x] [(aB, .inr (3, [.ref aM, .ref aR, .int (nI sl), .int sv, .int iv, .int ug])), (aR, .inl (cO, n, .inr (.inr (.inr (.inr g)))))] (mk_Qi D (tysK cI cO) (-1) [(aB, .inr (3, [.ref aM, .ref aR, .int (nI sl), .int sv, .int iv, .int ug])), (aR, .inl (cO, n, .inr (.inr (.inr (.inr g)))))]) := by
  refine mk_start (cc := b_Bus_buffered) (maxL := 2) (ret := (some FieldType.int)) (by decide) (Nat.le_of_ble_eq_true rfl) (fun p e s m below meth c A ls H locs hx hb hml hr hlocks hnm hts hN hown hK hP hD hA hl hS => ?_)
  have hl : lv_has ls 2 [(0, .ref aB), (1, .int x)] := hl
  refine lv_aload_n hx hb d_Bus_buffered_0 rfl (lv_at hl 0 rfl) ?_
  refine lv_iload_n hx hb d_Bus_buffered_1 rfl (lv_at hl 1 rfl) ?_
  refine mk_calli (X := [(aB, .inr (3, [.ref aM, .ref aR, .int (nI sl), .int sv, .int iv, .int ug])), (aR, .inl (cO, n, .inr (.inr (.inr (.inr g)))))]) (pl := []) (wc := [(aB, .inr (3, [.ref aM, .ref aR, .int (nI sl), .int sv, .int iv, .int ug])), (aR, .inl (cO, n, .inr (.inr (.inr (.inr g)))))]) (wr := []) (w1 := [(aB, .inr (3, [.ref aM, .ref aR, .int (nI sl), .int sv, .int iv, .int ug])), (aR, .inl (cO, n, .inr (.inr (.inr (.inr g)))))]) (X1 := [(aB, .inr (3, [.ref aM, .ref aR, .int (nI sl), .int sv, .int iv, .int ug])), (aR, .inl (cO, n, .inr (.inr (.inr (.inr g)))))]) hP hD hS hA [0, 1] [] [0, 1] rfl rfl rfl (by decide) (by decide) (by decide)
    (va_runV (b := aB) (As := [.int x]) (rest := []) ⟨hx, hb, hml, hown, hts⟩ (c_isCore_0 l D cI cO aB aM aR n sl sv iv ug g x (by first | assumption | omega) (by first | assumption | omega) H.size) ⟨callB_of 1 hts g_Bus_isCore rfl rfl rfl (hts _ iw_39) (hts _ iw_78) (by decide +kernel) ⟨by decide, by decide⟩, hts _ iw_82, hts _ iw_83⟩ (mk_preV (X := [(aB, .inr (3, [.ref aM, .ref aR, .int (nI sl), .int sv, .int iv, .int ug])), (aR, .inl (cO, n, .inr (.inr (.inr (.inr g)))))]) (pl := []) hN hK hP hD [0, 1] (by decide) rfl 0 rfl rfl rfl) rfl rfl hl.1 rfl (lv_room (Nat.le_of_ble_eq_true rfl)) d_Bus_buffered_2 ⟨Nat.le_refl _, Nat.le_refl _⟩) (fun H locs hP hD hS => ?_)
  have hP : va_P D vwCl [(aB, .inr (3, [.ref aM, .ref aR, .int (nI sl), .int sv, .int iv, .int ug])), (aR, .inl (cO, n, .inr (.inr (.inr (.inr g)))))] H := hP
  have hD : va_D A [(aB, .inr (3, [.ref aM, .ref aR, .int (nI sl), .int sv, .int iv, .int ug])), (aR, .inl (cO, n, .inr (.inr (.inr (.inr g)))))] := hD
  refine lv_if_eq (tgt := 20) hx hb d_Bus_buffered_5 rfl (fun _ => ?_) (fun h => absurd (by decide) h)
  refine lv_iconst (v := (-1)) hx hb d_Bus_buffered_20 (by decide) ?_
  exact mk_iret hx hb hr hlocks hK hP hD hS d_Bus_buffered_21 rfl rfl
set_option maxRecDepth 100000 in
set_option maxHeartbeats 4000000 in
theorem c_state_bc (l : Launch) (D : va_G) (cI cO : ClassId) (aB aM aR n sl : Nat) (sv iv ug : Int32) (g : Nat → Option Nat) (x : Int32) (y0 : Int32) (hn : n ≤ 4) (hx0 : ¬ vp_in x n) : mk_M l y_Bus_state w_Bus_state ({ frames := 1, cells := 0, slots := 0, locals := 21 } : Room) D (tysK cI cO) [.ref aB, .int x, .int y0] [(aB, .inr (3, [.ref aM, .ref aR, .int (nI sl), .int sv, .int iv, .int ug])), (aR, .inl (cO, n, .inr (.inr (.inr (.inr g)))))] (mk_Qi D (tysK cI cO) (-1) [(aB, .inr (3, [.ref aM, .ref aR, .int (nI sl), .int sv, .int iv, .int ug])), (aR, .inl (cO, n, .inr (.inr (.inr (.inr g)))))]) := by
  refine mk_start (cc := b_Bus_state) (maxL := 3) (ret := (some FieldType.int)) (by decide) (Nat.le_of_ble_eq_true rfl) (fun p e s m below meth c A ls H locs hx hb hml hr hlocks hnm hts hN hown hK hP hD hA hl hS => ?_)
  have hl : lv_has ls 3 [(0, .ref aB), (1, .int x), (2, .int y0)] := hl
  refine lv_aload_n hx hb d_Bus_state_0 rfl (lv_at hl 0 rfl) ?_
  refine lv_iload_n hx hb d_Bus_state_1 rfl (lv_at hl 1 rfl) ?_
  refine mk_calli (X := [(aB, .inr (3, [.ref aM, .ref aR, .int (nI sl), .int sv, .int iv, .int ug])), (aR, .inl (cO, n, .inr (.inr (.inr (.inr g)))))]) (pl := []) (wc := [(aB, .inr (3, [.ref aM, .ref aR, .int (nI sl), .int sv, .int iv, .int ug])), (aR, .inl (cO, n, .inr (.inr (.inr (.inr g)))))]) (wr := []) (w1 := [(aB, .inr (3, [.ref aM, .ref aR, .int (nI sl), .int sv, .int iv, .int ug])), (aR, .inl (cO, n, .inr (.inr (.inr (.inr g)))))]) (X1 := [(aB, .inr (3, [.ref aM, .ref aR, .int (nI sl), .int sv, .int iv, .int ug])), (aR, .inl (cO, n, .inr (.inr (.inr (.inr g)))))]) hP hD hS hA [0, 1] [] [0, 1] rfl rfl rfl (by decide) (by decide) (by decide)
    (va_runV (b := aB) (As := [.int x]) (rest := []) ⟨hx, hb, hml, hown, hts⟩ (c_isCore_0 l D cI cO aB aM aR n sl sv iv ug g x (by first | assumption | omega) (by first | assumption | omega) H.size) ⟨callB_of 1 hts g_Bus_isCore rfl rfl rfl (hts _ iw_39) (hts _ iw_78) (by decide +kernel) ⟨by decide, by decide⟩, hts _ iw_82, hts _ iw_83⟩ (mk_preV (X := [(aB, .inr (3, [.ref aM, .ref aR, .int (nI sl), .int sv, .int iv, .int ug])), (aR, .inl (cO, n, .inr (.inr (.inr (.inr g)))))]) (pl := []) hN hK hP hD [0, 1] (by decide) rfl 0 rfl rfl rfl) rfl rfl hl.1 rfl (lv_room (Nat.le_of_ble_eq_true rfl)) d_Bus_state_2 ⟨Nat.le_refl _, Nat.le_refl _⟩) (fun H locs hP hD hS => ?_)
  have hP : va_P D vwCl [(aB, .inr (3, [.ref aM, .ref aR, .int (nI sl), .int sv, .int iv, .int ug])), (aR, .inl (cO, n, .inr (.inr (.inr (.inr g)))))] H := hP
  have hD : va_D A [(aB, .inr (3, [.ref aM, .ref aR, .int (nI sl), .int sv, .int iv, .int ug])), (aR, .inl (cO, n, .inr (.inr (.inr (.inr g)))))] := hD
  refine lv_if_eq (tgt := 32) hx hb d_Bus_state_5 rfl (fun _ => ?_) (fun h => absurd (by decide) h)
  refine lv_iconst (v := (-1)) hx hb d_Bus_state_32 (by decide) ?_
  exact mk_iret hx hb hr hlocks hK hP hD hS d_Bus_state_33 rfl rfl
set_option maxRecDepth 100000 in
set_option maxHeartbeats 4000000 in
theorem c_copy_bc (l : Launch) (D : va_G) (cI cO : ClassId) (aB aM aR n sl : Nat) (sv iv ug : Int32) (g : Nat → Option Nat) (x : Int32) (y0 : Int32) (hn : n ≤ 4) (hx0 : ¬ vp_in x n) : mk_M l y_Bus_copy w_Bus_copy ({ frames := 1, cells := 0, slots := 0, locals := 21 } : Room) D (tysK cI cO) [.ref aB, .int x, .int y0] [(aB, .inr (3, [.ref aM, .ref aR, .int (nI sl), .int sv, .int iv, .int ug])), (aR, .inl (cO, n, .inr (.inr (.inr (.inr g)))))] (mk_Qi D (tysK cI cO) (nI 0) [(aB, .inr (3, [.ref aM, .ref aR, .int (nI sl), .int sv, .int iv, .int ug])), (aR, .inl (cO, n, .inr (.inr (.inr (.inr g)))))]) := by
  refine mk_start (cc := b_Bus_copy) (maxL := 4) (ret := (some FieldType.int)) (by decide) (Nat.le_of_ble_eq_true rfl) (fun p e s m below meth c A ls H locs hx hb hml hr hlocks hnm hts hN hown hK hP hD hA hl hS => ?_)
  have hl : lv_has ls 4 [(0, .ref aB), (1, .int x), (2, .int y0)] := hl
  refine lv_aload_n hx hb d_Bus_copy_0 rfl (lv_at hl 0 rfl) ?_
  refine lv_iload_n hx hb d_Bus_copy_1 rfl (lv_at hl 1 rfl) ?_
  refine mk_calli (X := [(aB, .inr (3, [.ref aM, .ref aR, .int (nI sl), .int sv, .int iv, .int ug])), (aR, .inl (cO, n, .inr (.inr (.inr (.inr g)))))]) (pl := []) (wc := [(aB, .inr (3, [.ref aM, .ref aR, .int (nI sl), .int sv, .int iv, .int ug])), (aR, .inl (cO, n, .inr (.inr (.inr (.inr g)))))]) (wr := []) (w1 := [(aB, .inr (3, [.ref aM, .ref aR, .int (nI sl), .int sv, .int iv, .int ug])), (aR, .inl (cO, n, .inr (.inr (.inr (.inr g)))))]) (X1 := [(aB, .inr (3, [.ref aM, .ref aR, .int (nI sl), .int sv, .int iv, .int ug])), (aR, .inl (cO, n, .inr (.inr (.inr (.inr g)))))]) hP hD hS hA [0, 1] [] [0, 1] rfl rfl rfl (by decide) (by decide) (by decide)
    (va_runV (b := aB) (As := [.int x]) (rest := []) ⟨hx, hb, hml, hown, hts⟩ (c_isCore_0 l D cI cO aB aM aR n sl sv iv ug g x (by first | assumption | omega) (by first | assumption | omega) H.size) ⟨callB_of 1 hts g_Bus_isCore rfl rfl rfl (hts _ iw_39) (hts _ iw_78) (by decide +kernel) ⟨by decide, by decide⟩, hts _ iw_82, hts _ iw_83⟩ (mk_preV (X := [(aB, .inr (3, [.ref aM, .ref aR, .int (nI sl), .int sv, .int iv, .int ug])), (aR, .inl (cO, n, .inr (.inr (.inr (.inr g)))))]) (pl := []) hN hK hP hD [0, 1] (by decide) rfl 0 rfl rfl rfl) rfl rfl hl.1 rfl (lv_room (Nat.le_of_ble_eq_true rfl)) d_Bus_copy_2 ⟨Nat.le_refl _, Nat.le_refl _⟩) (fun H locs hP hD hS => ?_)
  have hP : va_P D vwCl [(aB, .inr (3, [.ref aM, .ref aR, .int (nI sl), .int sv, .int iv, .int ug])), (aR, .inl (cO, n, .inr (.inr (.inr (.inr g)))))] H := hP
  have hD : va_D A [(aB, .inr (3, [.ref aM, .ref aR, .int (nI sl), .int sv, .int iv, .int ug])), (aR, .inl (cO, n, .inr (.inr (.inr (.inr g)))))] := hD
  refine lv_if_eq (tgt := 15) hx hb d_Bus_copy_5 rfl (fun _ => ?_) (fun h => absurd (by decide) h)
  refine lv_iconst (v := nI 0) hx hb d_Bus_copy_15 (by decide) ?_
  exact mk_iret hx hb hr hlocks hK hP hD hS d_Bus_copy_16 rfl rfl
set_option maxRecDepth 100000 in
set_option maxHeartbeats 4000000 in
theorem c_victim_bc (l : Launch) (D : va_G) (cI cO : ClassId) (aB aM aR n sl : Nat) (sv iv ug : Int32) (g : Nat → Option Nat) (x : Int32) (y0 : Int32) (hn : n ≤ 4) (hx0 : ¬ vp_in x n) : mk_M l y_Bus_victim w_Bus_victim ({ frames := 1, cells := 0, slots := 0, locals := 21 } : Room) D (tysK cI cO) [.ref aB, .int x, .int y0] [(aB, .inr (3, [.ref aM, .ref aR, .int (nI sl), .int sv, .int iv, .int ug])), (aR, .inl (cO, n, .inr (.inr (.inr (.inr g)))))] (mk_Qi D (tysK cI cO) (-1) [(aB, .inr (3, [.ref aM, .ref aR, .int (nI sl), .int sv, .int iv, .int ug])), (aR, .inl (cO, n, .inr (.inr (.inr (.inr g)))))]) := by
  refine mk_start (cc := b_Bus_victim) (maxL := 4) (ret := (some FieldType.int)) (by decide) (Nat.le_of_ble_eq_true rfl) (fun p e s m below meth c A ls H locs hx hb hml hr hlocks hnm hts hN hown hK hP hD hA hl hS => ?_)
  have hl : lv_has ls 4 [(0, .ref aB), (1, .int x), (2, .int y0)] := hl
  refine lv_aload_n hx hb d_Bus_victim_0 rfl (lv_at hl 0 rfl) ?_
  refine lv_iload_n hx hb d_Bus_victim_1 rfl (lv_at hl 1 rfl) ?_
  refine mk_calli (X := [(aB, .inr (3, [.ref aM, .ref aR, .int (nI sl), .int sv, .int iv, .int ug])), (aR, .inl (cO, n, .inr (.inr (.inr (.inr g)))))]) (pl := []) (wc := [(aB, .inr (3, [.ref aM, .ref aR, .int (nI sl), .int sv, .int iv, .int ug])), (aR, .inl (cO, n, .inr (.inr (.inr (.inr g)))))]) (wr := []) (w1 := [(aB, .inr (3, [.ref aM, .ref aR, .int (nI sl), .int sv, .int iv, .int ug])), (aR, .inl (cO, n, .inr (.inr (.inr (.inr g)))))]) (X1 := [(aB, .inr (3, [.ref aM, .ref aR, .int (nI sl), .int sv, .int iv, .int ug])), (aR, .inl (cO, n, .inr (.inr (.inr (.inr g)))))]) hP hD hS hA [0, 1] [] [0, 1] rfl rfl rfl (by decide) (by decide) (by decide)
    (va_runV (b := aB) (As := [.int x]) (rest := []) ⟨hx, hb, hml, hown, hts⟩ (c_isCore_0 l D cI cO aB aM aR n sl sv iv ug g x (by first | assumption | omega) (by first | assumption | omega) H.size) ⟨callB_of 1 hts g_Bus_isCore rfl rfl rfl (hts _ iw_39) (hts _ iw_78) (by decide +kernel) ⟨by decide, by decide⟩, hts _ iw_82, hts _ iw_83⟩ (mk_preV (X := [(aB, .inr (3, [.ref aM, .ref aR, .int (nI sl), .int sv, .int iv, .int ug])), (aR, .inl (cO, n, .inr (.inr (.inr (.inr g)))))]) (pl := []) hN hK hP hD [0, 1] (by decide) rfl 0 rfl rfl rfl) rfl rfl hl.1 rfl (lv_room (Nat.le_of_ble_eq_true rfl)) d_Bus_victim_2 ⟨Nat.le_refl _, Nat.le_refl _⟩) (fun H locs hP hD hS => ?_)
  have hP : va_P D vwCl [(aB, .inr (3, [.ref aM, .ref aR, .int (nI sl), .int sv, .int iv, .int ug])), (aR, .inl (cO, n, .inr (.inr (.inr (.inr g)))))] H := hP
  have hD : va_D A [(aB, .inr (3, [.ref aM, .ref aR, .int (nI sl), .int sv, .int iv, .int ug])), (aR, .inl (cO, n, .inr (.inr (.inr (.inr g)))))] := hD
  refine lv_if_eq (tgt := 17) hx hb d_Bus_victim_5 rfl (fun _ => ?_) (fun h => absurd (by decide) h)
  refine lv_iconst (v := (-1)) hx hb d_Bus_victim_17 (by decide) ?_
  exact mk_iret hx hb hr hlocks hK hP hD hS d_Bus_victim_18 rfl rfl
set_option maxRecDepth 100000 in
set_option maxHeartbeats 4000000 in
theorem c_load_ba (l : Launch) (D : va_G) (cI cO : ClassId) (aB aM aR n sl : Nat) (sv iv ug : Int32) (g : Nat → Option Nat) (i : Nat) (y0 : Int32) (hn : n ≤ 4) (hi : i < n) (hy0 : ¬ vp_in y0 32) : mk_M l y_Bus_load w_Bus_load ({ frames := 1, cells := 0, slots := 0, locals := 21 } : Room) D (tysK cI cO) [.ref aB, .int (nI i), .int y0] [(aB, .inr (3, [.ref aM, .ref aR, .int (nI sl), .int sv, .int iv, .int ug])), (aR, .inl (cO, n, .inr (.inr (.inr (.inr g)))))] (mk_Qi D (tysK cI cO) (-1) [(aB, .inr (3, [.ref aM, .ref aR, .int (nI sl), .int sv, .int iv, .int ug])), (aR, .inl (cO, n, .inr (.inr (.inr (.inr g)))))]) := by
  refine mk_start (cc := b_Bus_load) (maxL := 5) (ret := (some FieldType.int)) (by decide) (Nat.le_of_ble_eq_true rfl) (fun p e s m below meth c A ls H locs hx hb hml hr hlocks hnm hts hN hown hK hP hD hA hl hS => ?_)
  have hl : lv_has ls 5 [(0, .ref aB), (1, .int (nI i)), (2, .int y0)] := hl
  refine lv_aload_n hx hb d_Bus_load_0 rfl (lv_at hl 0 rfl) ?_
  refine lv_iload_n hx hb d_Bus_load_1 rfl (lv_at hl 1 rfl) ?_
  refine mk_calli (X := [(aB, .inr (3, [.ref aM, .ref aR, .int (nI sl), .int sv, .int iv, .int ug])), (aR, .inl (cO, n, .inr (.inr (.inr (.inr g)))))]) (pl := []) (wc := [(aB, .inr (3, [.ref aM, .ref aR, .int (nI sl), .int sv, .int iv, .int ug])), (aR, .inl (cO, n, .inr (.inr (.inr (.inr g)))))]) (wr := []) (w1 := [(aB, .inr (3, [.ref aM, .ref aR, .int (nI sl), .int sv, .int iv, .int ug])), (aR, .inl (cO, n, .inr (.inr (.inr (.inr g)))))]) (X1 := [(aB, .inr (3, [.ref aM, .ref aR, .int (nI sl), .int sv, .int iv, .int ug])), (aR, .inl (cO, n, .inr (.inr (.inr (.inr g)))))]) hP hD hS hA [0, 1] [] [0, 1] rfl rfl rfl (by decide) (by decide) (by decide)
    (va_runV (b := aB) (As := [.int (nI i)]) (rest := []) ⟨hx, hb, hml, hown, hts⟩ (c_isCore_1 l D cI cO aB aM aR n sl sv iv ug g i (by first | assumption | omega) (by first | assumption | omega) H.size) ⟨callB_of 1 hts g_Bus_isCore rfl rfl rfl (hts _ iw_39) (hts _ iw_78) (by decide +kernel) ⟨by decide, by decide⟩, hts _ iw_82, hts _ iw_83⟩ (mk_preV (X := [(aB, .inr (3, [.ref aM, .ref aR, .int (nI sl), .int sv, .int iv, .int ug])), (aR, .inl (cO, n, .inr (.inr (.inr (.inr g)))))]) (pl := []) hN hK hP hD [0, 1] (by decide) rfl 0 rfl rfl rfl) rfl rfl hl.1 rfl (lv_room (Nat.le_of_ble_eq_true rfl)) d_Bus_load_2 ⟨Nat.le_refl _, Nat.le_refl _⟩) (fun H locs hP hD hS => ?_)
  have hP : va_P D vwCl [(aB, .inr (3, [.ref aM, .ref aR, .int (nI sl), .int sv, .int iv, .int ug])), (aR, .inl (cO, n, .inr (.inr (.inr (.inr g)))))] H := hP
  have hD : va_D A [(aB, .inr (3, [.ref aM, .ref aR, .int (nI sl), .int sv, .int iv, .int ug])), (aR, .inl (cO, n, .inr (.inr (.inr (.inr g)))))] := hD
  refine lv_if_eq (tgt := 15) hx hb d_Bus_load_5 rfl (fun h => absurd h (by decide)) (fun _ => ?_)
  refine lv_iload_n hx hb d_Bus_load_8 rfl (lv_at hl 2 rfl) ?_
  refine mk_calli (X := [(aB, .inr (3, [.ref aM, .ref aR, .int (nI sl), .int sv, .int iv, .int ug])), (aR, .inl (cO, n, .inr (.inr (.inr (.inr g)))))]) (pl := []) (wc := []) (wr := [(aB, .inr (3, [.ref aM, .ref aR, .int (nI sl), .int sv, .int iv, .int ug])), (aR, .inl (cO, n, .inr (.inr (.inr (.inr g)))))]) (w1 := []) (X1 := [(aB, .inr (3, [.ref aM, .ref aR, .int (nI sl), .int sv, .int iv, .int ug])), (aR, .inl (cO, n, .inr (.inr (.inr (.inr g)))))]) hP hD hS hA [] [0, 1] [0, 1] rfl rfl rfl (by decide) (by decide) (by decide)
    (va_runS (As := [.int y0]) (rest := []) ⟨hx, hb, hml, hown, hts⟩ (c_isAddress_0 l D cI cO y0 (by first | assumption | omega) H.size) ⟨callB_of 1 hts g_Bus_isAddress rfl rfl rfl (hts _ iw_39) (hts _ iw_79) (by decide +kernel) ⟨by decide, by decide⟩, hts _ iw_85⟩ (mk_preS (X := [(aB, .inr (3, [.ref aM, .ref aR, .int (nI sl), .int sv, .int iv, .int ug])), (aR, .inl (cO, n, .inr (.inr (.inr (.inr g)))))]) (pl := []) hN hK hP hD [] (by decide) rfl) rfl rfl hl.1 rfl (lv_room (Nat.le_of_ble_eq_true rfl)) d_Bus_load_9 ⟨Nat.le_refl _, Nat.le_refl _⟩) (fun H locs hP hD hS => ?_)
  have hP : va_P D vwCl [(aB, .inr (3, [.ref aM, .ref aR, .int (nI sl), .int sv, .int iv, .int ug])), (aR, .inl (cO, n, .inr (.inr (.inr (.inr g)))))] H := hP
  have hD : va_D A [(aB, .inr (3, [.ref aM, .ref aR, .int (nI sl), .int sv, .int iv, .int ug])), (aR, .inl (cO, n, .inr (.inr (.inr (.inr g)))))] := hD
  refine lv_if_ne (tgt := 17) hx hb d_Bus_load_12 rfl (fun h => absurd (by decide) h) (fun _ => ?_)
  refine lv_iconst (v := (-1)) hx hb d_Bus_load_15 (by decide) ?_
  exact mk_iret hx hb hr hlocks hK hP hD hS d_Bus_load_16 rfl rfl
set_option maxRecDepth 100000 in
set_option maxHeartbeats 4000000 in
theorem c_store_ba (l : Launch) (D : va_G) (cI cO : ClassId) (aB aM aR n sl : Nat) (sv iv ug : Int32) (g : Nat → Option Nat) (i : Nat) (y0 y1 : Int32) (hn : n ≤ 4) (hi : i < n) (hy0 : ¬ vp_in y0 32) : mk_M l y_Bus_store w_Bus_store ({ frames := 1, cells := 0, slots := 0, locals := 21 } : Room) D (tysK cI cO) [.ref aB, .int (nI i), .int y0, .int y1] [(aB, .inr (3, [.ref aM, .ref aR, .int (nI sl), .int sv, .int iv, .int ug])), (aR, .inl (cO, n, .inr (.inr (.inr (.inr g)))))] (mk_Qi D (tysK cI cO) (-1) [(aB, .inr (3, [.ref aM, .ref aR, .int (nI sl), .int sv, .int iv, .int ug])), (aR, .inl (cO, n, .inr (.inr (.inr (.inr g)))))]) := by
  refine mk_start (cc := b_Bus_store) (maxL := 5) (ret := (some FieldType.int)) (by decide) (Nat.le_of_ble_eq_true rfl) (fun p e s m below meth c A ls H locs hx hb hml hr hlocks hnm hts hN hown hK hP hD hA hl hS => ?_)
  have hl : lv_has ls 5 [(0, .ref aB), (1, .int (nI i)), (2, .int y0), (3, .int y1)] := hl
  refine lv_aload_n hx hb d_Bus_store_0 rfl (lv_at hl 0 rfl) ?_
  refine lv_iload_n hx hb d_Bus_store_1 rfl (lv_at hl 1 rfl) ?_
  refine mk_calli (X := [(aB, .inr (3, [.ref aM, .ref aR, .int (nI sl), .int sv, .int iv, .int ug])), (aR, .inl (cO, n, .inr (.inr (.inr (.inr g)))))]) (pl := []) (wc := [(aB, .inr (3, [.ref aM, .ref aR, .int (nI sl), .int sv, .int iv, .int ug])), (aR, .inl (cO, n, .inr (.inr (.inr (.inr g)))))]) (wr := []) (w1 := [(aB, .inr (3, [.ref aM, .ref aR, .int (nI sl), .int sv, .int iv, .int ug])), (aR, .inl (cO, n, .inr (.inr (.inr (.inr g)))))]) (X1 := [(aB, .inr (3, [.ref aM, .ref aR, .int (nI sl), .int sv, .int iv, .int ug])), (aR, .inl (cO, n, .inr (.inr (.inr (.inr g)))))]) hP hD hS hA [0, 1] [] [0, 1] rfl rfl rfl (by decide) (by decide) (by decide)
    (va_runV (b := aB) (As := [.int (nI i)]) (rest := []) ⟨hx, hb, hml, hown, hts⟩ (c_isCore_1 l D cI cO aB aM aR n sl sv iv ug g i (by first | assumption | omega) (by first | assumption | omega) H.size) ⟨callB_of 1 hts g_Bus_isCore rfl rfl rfl (hts _ iw_39) (hts _ iw_78) (by decide +kernel) ⟨by decide, by decide⟩, hts _ iw_82, hts _ iw_83⟩ (mk_preV (X := [(aB, .inr (3, [.ref aM, .ref aR, .int (nI sl), .int sv, .int iv, .int ug])), (aR, .inl (cO, n, .inr (.inr (.inr (.inr g)))))]) (pl := []) hN hK hP hD [0, 1] (by decide) rfl 0 rfl rfl rfl) rfl rfl hl.1 rfl (lv_room (Nat.le_of_ble_eq_true rfl)) d_Bus_store_2 ⟨Nat.le_refl _, Nat.le_refl _⟩) (fun H locs hP hD hS => ?_)
  have hP : va_P D vwCl [(aB, .inr (3, [.ref aM, .ref aR, .int (nI sl), .int sv, .int iv, .int ug])), (aR, .inl (cO, n, .inr (.inr (.inr (.inr g)))))] H := hP
  have hD : va_D A [(aB, .inr (3, [.ref aM, .ref aR, .int (nI sl), .int sv, .int iv, .int ug])), (aR, .inl (cO, n, .inr (.inr (.inr (.inr g)))))] := hD
  refine lv_if_eq (tgt := 15) hx hb d_Bus_store_5 rfl (fun h => absurd h (by decide)) (fun _ => ?_)
  refine lv_iload_n hx hb d_Bus_store_8 rfl (lv_at hl 2 rfl) ?_
  refine mk_calli (X := [(aB, .inr (3, [.ref aM, .ref aR, .int (nI sl), .int sv, .int iv, .int ug])), (aR, .inl (cO, n, .inr (.inr (.inr (.inr g)))))]) (pl := []) (wc := []) (wr := [(aB, .inr (3, [.ref aM, .ref aR, .int (nI sl), .int sv, .int iv, .int ug])), (aR, .inl (cO, n, .inr (.inr (.inr (.inr g)))))]) (w1 := []) (X1 := [(aB, .inr (3, [.ref aM, .ref aR, .int (nI sl), .int sv, .int iv, .int ug])), (aR, .inl (cO, n, .inr (.inr (.inr (.inr g)))))]) hP hD hS hA [] [0, 1] [0, 1] rfl rfl rfl (by decide) (by decide) (by decide)
    (va_runS (As := [.int y0]) (rest := []) ⟨hx, hb, hml, hown, hts⟩ (c_isAddress_0 l D cI cO y0 (by first | assumption | omega) H.size) ⟨callB_of 1 hts g_Bus_isAddress rfl rfl rfl (hts _ iw_39) (hts _ iw_79) (by decide +kernel) ⟨by decide, by decide⟩, hts _ iw_85⟩ (mk_preS (X := [(aB, .inr (3, [.ref aM, .ref aR, .int (nI sl), .int sv, .int iv, .int ug])), (aR, .inl (cO, n, .inr (.inr (.inr (.inr g)))))]) (pl := []) hN hK hP hD [] (by decide) rfl) rfl rfl hl.1 rfl (lv_room (Nat.le_of_ble_eq_true rfl)) d_Bus_store_9 ⟨Nat.le_refl _, Nat.le_refl _⟩) (fun H locs hP hD hS => ?_)
  have hP : va_P D vwCl [(aB, .inr (3, [.ref aM, .ref aR, .int (nI sl), .int sv, .int iv, .int ug])), (aR, .inl (cO, n, .inr (.inr (.inr (.inr g)))))] H := hP
  have hD : va_D A [(aB, .inr (3, [.ref aM, .ref aR, .int (nI sl), .int sv, .int iv, .int ug])), (aR, .inl (cO, n, .inr (.inr (.inr (.inr g)))))] := hD
  refine lv_if_ne (tgt := 17) hx hb d_Bus_store_12 rfl (fun h => absurd (by decide) h) (fun _ => ?_)
  refine lv_iconst (v := (-1)) hx hb d_Bus_store_15 (by decide) ?_
  exact mk_iret hx hb hr hlocks hK hP hD hS d_Bus_store_16 rfl rfl
set_option maxRecDepth 100000 in
set_option maxHeartbeats 4000000 in
theorem c_copy_ba (l : Launch) (D : va_G) (cI cO : ClassId) (aB aM aR n sl : Nat) (sv iv ug : Int32) (g : Nat → Option Nat) (i : Nat) (y0 : Int32) (hn : n ≤ 4) (hi : i < n) (hy0 : ¬ vp_in y0 32) : mk_M l y_Bus_copy w_Bus_copy ({ frames := 1, cells := 0, slots := 0, locals := 21 } : Room) D (tysK cI cO) [.ref aB, .int (nI i), .int y0] [(aB, .inr (3, [.ref aM, .ref aR, .int (nI sl), .int sv, .int iv, .int ug])), (aR, .inl (cO, n, .inr (.inr (.inr (.inr g)))))] (mk_Qi D (tysK cI cO) (nI 0) [(aB, .inr (3, [.ref aM, .ref aR, .int (nI sl), .int sv, .int iv, .int ug])), (aR, .inl (cO, n, .inr (.inr (.inr (.inr g)))))]) := by
  refine mk_start (cc := b_Bus_copy) (maxL := 4) (ret := (some FieldType.int)) (by decide) (Nat.le_of_ble_eq_true rfl) (fun p e s m below meth c A ls H locs hx hb hml hr hlocks hnm hts hN hown hK hP hD hA hl hS => ?_)
  have hl : lv_has ls 4 [(0, .ref aB), (1, .int (nI i)), (2, .int y0)] := hl
  refine lv_aload_n hx hb d_Bus_copy_0 rfl (lv_at hl 0 rfl) ?_
  refine lv_iload_n hx hb d_Bus_copy_1 rfl (lv_at hl 1 rfl) ?_
  refine mk_calli (X := [(aB, .inr (3, [.ref aM, .ref aR, .int (nI sl), .int sv, .int iv, .int ug])), (aR, .inl (cO, n, .inr (.inr (.inr (.inr g)))))]) (pl := []) (wc := [(aB, .inr (3, [.ref aM, .ref aR, .int (nI sl), .int sv, .int iv, .int ug])), (aR, .inl (cO, n, .inr (.inr (.inr (.inr g)))))]) (wr := []) (w1 := [(aB, .inr (3, [.ref aM, .ref aR, .int (nI sl), .int sv, .int iv, .int ug])), (aR, .inl (cO, n, .inr (.inr (.inr (.inr g)))))]) (X1 := [(aB, .inr (3, [.ref aM, .ref aR, .int (nI sl), .int sv, .int iv, .int ug])), (aR, .inl (cO, n, .inr (.inr (.inr (.inr g)))))]) hP hD hS hA [0, 1] [] [0, 1] rfl rfl rfl (by decide) (by decide) (by decide)
    (va_runV (b := aB) (As := [.int (nI i)]) (rest := []) ⟨hx, hb, hml, hown, hts⟩ (c_isCore_1 l D cI cO aB aM aR n sl sv iv ug g i (by first | assumption | omega) (by first | assumption | omega) H.size) ⟨callB_of 1 hts g_Bus_isCore rfl rfl rfl (hts _ iw_39) (hts _ iw_78) (by decide +kernel) ⟨by decide, by decide⟩, hts _ iw_82, hts _ iw_83⟩ (mk_preV (X := [(aB, .inr (3, [.ref aM, .ref aR, .int (nI sl), .int sv, .int iv, .int ug])), (aR, .inl (cO, n, .inr (.inr (.inr (.inr g)))))]) (pl := []) hN hK hP hD [0, 1] (by decide) rfl 0 rfl rfl rfl) rfl rfl hl.1 rfl (lv_room (Nat.le_of_ble_eq_true rfl)) d_Bus_copy_2 ⟨Nat.le_refl _, Nat.le_refl _⟩) (fun H locs hP hD hS => ?_)
  have hP : va_P D vwCl [(aB, .inr (3, [.ref aM, .ref aR, .int (nI sl), .int sv, .int iv, .int ug])), (aR, .inl (cO, n, .inr (.inr (.inr (.inr g)))))] H := hP
  have hD : va_D A [(aB, .inr (3, [.ref aM, .ref aR, .int (nI sl), .int sv, .int iv, .int ug])), (aR, .inl (cO, n, .inr (.inr (.inr (.inr g)))))] := hD
  refine lv_if_eq (tgt := 15) hx hb d_Bus_copy_5 rfl (fun h => absurd h (by decide)) (fun _ => ?_)
  refine lv_iload_n hx hb d_Bus_copy_8 rfl (lv_at hl 2 rfl) ?_
  refine mk_calli (X := [(aB, .inr (3, [.ref aM, .ref aR, .int (nI sl), .int sv, .int iv, .int ug])), (aR, .inl (cO, n, .inr (.inr (.inr (.inr g)))))]) (pl := []) (wc := []) (wr := [(aB, .inr (3, [.ref aM, .ref aR, .int (nI sl), .int sv, .int iv, .int ug])), (aR, .inl (cO, n, .inr (.inr (.inr (.inr g)))))]) (w1 := []) (X1 := [(aB, .inr (3, [.ref aM, .ref aR, .int (nI sl), .int sv, .int iv, .int ug])), (aR, .inl (cO, n, .inr (.inr (.inr (.inr g)))))]) hP hD hS hA [] [0, 1] [0, 1] rfl rfl rfl (by decide) (by decide) (by decide)
    (va_runS (As := [.int y0]) (rest := []) ⟨hx, hb, hml, hown, hts⟩ (c_isAddress_0 l D cI cO y0 (by first | assumption | omega) H.size) ⟨callB_of 1 hts g_Bus_isAddress rfl rfl rfl (hts _ iw_39) (hts _ iw_79) (by decide +kernel) ⟨by decide, by decide⟩, hts _ iw_85⟩ (mk_preS (X := [(aB, .inr (3, [.ref aM, .ref aR, .int (nI sl), .int sv, .int iv, .int ug])), (aR, .inl (cO, n, .inr (.inr (.inr (.inr g)))))]) (pl := []) hN hK hP hD [] (by decide) rfl) rfl rfl hl.1 rfl (lv_room (Nat.le_of_ble_eq_true rfl)) d_Bus_copy_9 ⟨Nat.le_refl _, Nat.le_refl _⟩) (fun H locs hP hD hS => ?_)
  have hP : va_P D vwCl [(aB, .inr (3, [.ref aM, .ref aR, .int (nI sl), .int sv, .int iv, .int ug])), (aR, .inl (cO, n, .inr (.inr (.inr (.inr g)))))] H := hP
  have hD : va_D A [(aB, .inr (3, [.ref aM, .ref aR, .int (nI sl), .int sv, .int iv, .int ug])), (aR, .inl (cO, n, .inr (.inr (.inr (.inr g)))))] := hD
  refine lv_if_ne (tgt := 17) hx hb d_Bus_copy_12 rfl (fun h => absurd (by decide) h) (fun _ => ?_)
  refine lv_iconst (v := nI 0) hx hb d_Bus_copy_15 (by decide) ?_
  exact mk_iret hx hb hr hlocks hK hP hD hS d_Bus_copy_16 rfl rfl
set_option maxRecDepth 100000 in
set_option maxHeartbeats 4000000 in
theorem c_evict_ba (l : Launch) (D : va_G) (cI cO : ClassId) (aB aM aR n sl : Nat) (sv iv ug : Int32) (g : Nat → Option Nat) (i : Nat) (y0 : Int32) (hn : n ≤ 4) (hi : i < n) (hy0 : ¬ vp_in y0 8) : mk_M l y_Bus_evict w_Bus_evict ({ frames := 1, cells := 0, slots := 0, locals := 21 } : Room) D (tysK cI cO) [.ref aB, .int (nI i), .int y0] [(aB, .inr (3, [.ref aM, .ref aR, .int (nI sl), .int sv, .int iv, .int ug])), (aR, .inl (cO, n, .inr (.inr (.inr (.inr g)))))] (mk_Qi D (tysK cI cO) (-1) [(aB, .inr (3, [.ref aM, .ref aR, .int (nI sl), .int sv, .int iv, .int ug])), (aR, .inl (cO, n, .inr (.inr (.inr (.inr g)))))]) := by
  refine mk_start (cc := b_Bus_evict) (maxL := 5) (ret := (some FieldType.int)) (by decide) (Nat.le_of_ble_eq_true rfl) (fun p e s m below meth c A ls H locs hx hb hml hr hlocks hnm hts hN hown hK hP hD hA hl hS => ?_)
  have hl : lv_has ls 5 [(0, .ref aB), (1, .int (nI i)), (2, .int y0)] := hl
  refine lv_aload_n hx hb d_Bus_evict_0 rfl (lv_at hl 0 rfl) ?_
  refine lv_iload_n hx hb d_Bus_evict_1 rfl (lv_at hl 1 rfl) ?_
  refine mk_calli (X := [(aB, .inr (3, [.ref aM, .ref aR, .int (nI sl), .int sv, .int iv, .int ug])), (aR, .inl (cO, n, .inr (.inr (.inr (.inr g)))))]) (pl := []) (wc := [(aB, .inr (3, [.ref aM, .ref aR, .int (nI sl), .int sv, .int iv, .int ug])), (aR, .inl (cO, n, .inr (.inr (.inr (.inr g)))))]) (wr := []) (w1 := [(aB, .inr (3, [.ref aM, .ref aR, .int (nI sl), .int sv, .int iv, .int ug])), (aR, .inl (cO, n, .inr (.inr (.inr (.inr g)))))]) (X1 := [(aB, .inr (3, [.ref aM, .ref aR, .int (nI sl), .int sv, .int iv, .int ug])), (aR, .inl (cO, n, .inr (.inr (.inr (.inr g)))))]) hP hD hS hA [0, 1] [] [0, 1] rfl rfl rfl (by decide) (by decide) (by decide)
    (va_runV (b := aB) (As := [.int (nI i)]) (rest := []) ⟨hx, hb, hml, hown, hts⟩ (c_isCore_1 l D cI cO aB aM aR n sl sv iv ug g i (by first | assumption | omega) (by first | assumption | omega) H.size) ⟨callB_of 1 hts g_Bus_isCore rfl rfl rfl (hts _ iw_39) (hts _ iw_78) (by decide +kernel) ⟨by decide, by decide⟩, hts _ iw_82, hts _ iw_83⟩ (mk_preV (X := [(aB, .inr (3, [.ref aM, .ref aR, .int (nI sl), .int sv, .int iv, .int ug])), (aR, .inl (cO, n, .inr (.inr (.inr (.inr g)))))]) (pl := []) hN hK hP hD [0, 1] (by decide) rfl 0 rfl rfl rfl) rfl rfl hl.1 rfl (lv_room (Nat.le_of_ble_eq_true rfl)) d_Bus_evict_2 ⟨Nat.le_refl _, Nat.le_refl _⟩) (fun H locs hP hD hS => ?_)
  have hP : va_P D vwCl [(aB, .inr (3, [.ref aM, .ref aR, .int (nI sl), .int sv, .int iv, .int ug])), (aR, .inl (cO, n, .inr (.inr (.inr (.inr g)))))] H := hP
  have hD : va_D A [(aB, .inr (3, [.ref aM, .ref aR, .int (nI sl), .int sv, .int iv, .int ug])), (aR, .inl (cO, n, .inr (.inr (.inr (.inr g)))))] := hD
  refine lv_if_eq (tgt := 15) hx hb d_Bus_evict_5 rfl (fun h => absurd h (by decide)) (fun _ => ?_)
  refine lv_iload_n hx hb d_Bus_evict_8 rfl (lv_at hl 2 rfl) ?_
  refine mk_calli (X := [(aB, .inr (3, [.ref aM, .ref aR, .int (nI sl), .int sv, .int iv, .int ug])), (aR, .inl (cO, n, .inr (.inr (.inr (.inr g)))))]) (pl := []) (wc := []) (wr := [(aB, .inr (3, [.ref aM, .ref aR, .int (nI sl), .int sv, .int iv, .int ug])), (aR, .inl (cO, n, .inr (.inr (.inr (.inr g)))))]) (w1 := []) (X1 := [(aB, .inr (3, [.ref aM, .ref aR, .int (nI sl), .int sv, .int iv, .int ug])), (aR, .inl (cO, n, .inr (.inr (.inr (.inr g)))))]) hP hD hS hA [] [0, 1] [0, 1] rfl rfl rfl (by decide) (by decide) (by decide)
    (va_runS (As := [.int y0]) (rest := []) ⟨hx, hb, hml, hown, hts⟩ (c_isLine_0 l D cI cO y0 (by first | assumption | omega) H.size) ⟨callB_of 1 hts g_Bus_isLine rfl rfl rfl (hts _ iw_39) (hts _ iw_195) (by decide +kernel) ⟨by decide, by decide⟩, hts _ iw_197⟩ (mk_preS (X := [(aB, .inr (3, [.ref aM, .ref aR, .int (nI sl), .int sv, .int iv, .int ug])), (aR, .inl (cO, n, .inr (.inr (.inr (.inr g)))))]) (pl := []) hN hK hP hD [] (by decide) rfl) rfl rfl hl.1 rfl (lv_room (Nat.le_of_ble_eq_true rfl)) d_Bus_evict_9 ⟨Nat.le_refl _, Nat.le_refl _⟩) (fun H locs hP hD hS => ?_)
  have hP : va_P D vwCl [(aB, .inr (3, [.ref aM, .ref aR, .int (nI sl), .int sv, .int iv, .int ug])), (aR, .inl (cO, n, .inr (.inr (.inr (.inr g)))))] H := hP
  have hD : va_D A [(aB, .inr (3, [.ref aM, .ref aR, .int (nI sl), .int sv, .int iv, .int ug])), (aR, .inl (cO, n, .inr (.inr (.inr (.inr g)))))] := hD
  refine lv_if_ne (tgt := 17) hx hb d_Bus_evict_12 rfl (fun h => absurd (by decide) h) (fun _ => ?_)
  refine lv_iconst (v := (-1)) hx hb d_Bus_evict_15 (by decide) ?_
  exact mk_iret hx hb hr hlocks hK hP hD hS d_Bus_evict_16 rfl rfl
set_option maxRecDepth 100000 in
set_option maxHeartbeats 4000000 in
theorem c_state_ba (l : Launch) (D : va_G) (cI cO : ClassId) (aB aM aR n sl : Nat) (sv iv ug : Int32) (g : Nat → Option Nat) (i : Nat) (y0 : Int32) (hn : n ≤ 4) (hi : i < n) (hy0 : ¬ vp_in y0 8) : mk_M l y_Bus_state w_Bus_state ({ frames := 1, cells := 0, slots := 0, locals := 21 } : Room) D (tysK cI cO) [.ref aB, .int (nI i), .int y0] [(aB, .inr (3, [.ref aM, .ref aR, .int (nI sl), .int sv, .int iv, .int ug])), (aR, .inl (cO, n, .inr (.inr (.inr (.inr g)))))] (mk_Qi D (tysK cI cO) (-1) [(aB, .inr (3, [.ref aM, .ref aR, .int (nI sl), .int sv, .int iv, .int ug])), (aR, .inl (cO, n, .inr (.inr (.inr (.inr g)))))]) := by
  refine mk_start (cc := b_Bus_state) (maxL := 3) (ret := (some FieldType.int)) (by decide) (Nat.le_of_ble_eq_true rfl) (fun p e s m below meth c A ls H locs hx hb hml hr hlocks hnm hts hN hown hK hP hD hA hl hS => ?_)
  have hl : lv_has ls 3 [(0, .ref aB), (1, .int (nI i)), (2, .int y0)] := hl
  refine lv_aload_n hx hb d_Bus_state_0 rfl (lv_at hl 0 rfl) ?_
  refine lv_iload_n hx hb d_Bus_state_1 rfl (lv_at hl 1 rfl) ?_
  refine mk_calli (X := [(aB, .inr (3, [.ref aM, .ref aR, .int (nI sl), .int sv, .int iv, .int ug])), (aR, .inl (cO, n, .inr (.inr (.inr (.inr g)))))]) (pl := []) (wc := [(aB, .inr (3, [.ref aM, .ref aR, .int (nI sl), .int sv, .int iv, .int ug])), (aR, .inl (cO, n, .inr (.inr (.inr (.inr g)))))]) (wr := []) (w1 := [(aB, .inr (3, [.ref aM, .ref aR, .int (nI sl), .int sv, .int iv, .int ug])), (aR, .inl (cO, n, .inr (.inr (.inr (.inr g)))))]) (X1 := [(aB, .inr (3, [.ref aM, .ref aR, .int (nI sl), .int sv, .int iv, .int ug])), (aR, .inl (cO, n, .inr (.inr (.inr (.inr g)))))]) hP hD hS hA [0, 1] [] [0, 1] rfl rfl rfl (by decide) (by decide) (by decide)
    (va_runV (b := aB) (As := [.int (nI i)]) (rest := []) ⟨hx, hb, hml, hown, hts⟩ (c_isCore_1 l D cI cO aB aM aR n sl sv iv ug g i (by first | assumption | omega) (by first | assumption | omega) H.size) ⟨callB_of 1 hts g_Bus_isCore rfl rfl rfl (hts _ iw_39) (hts _ iw_78) (by decide +kernel) ⟨by decide, by decide⟩, hts _ iw_82, hts _ iw_83⟩ (mk_preV (X := [(aB, .inr (3, [.ref aM, .ref aR, .int (nI sl), .int sv, .int iv, .int ug])), (aR, .inl (cO, n, .inr (.inr (.inr (.inr g)))))]) (pl := []) hN hK hP hD [0, 1] (by decide) rfl 0 rfl rfl rfl) rfl rfl hl.1 rfl (lv_room (Nat.le_of_ble_eq_true rfl)) d_Bus_state_2 ⟨Nat.le_refl _, Nat.le_refl _⟩) (fun H locs hP hD hS => ?_)
  have hP : va_P D vwCl [(aB, .inr (3, [.ref aM, .ref aR, .int (nI sl), .int sv, .int iv, .int ug])), (aR, .inl (cO, n, .inr (.inr (.inr (.inr g)))))] H := hP
  have hD : va_D A [(aB, .inr (3, [.ref aM, .ref aR, .int (nI sl), .int sv, .int iv, .int ug])), (aR, .inl (cO, n, .inr (.inr (.inr (.inr g)))))] := hD
  refine lv_if_eq (tgt := 32) hx hb d_Bus_state_5 rfl (fun h => absurd h (by decide)) (fun _ => ?_)
  refine lv_iload_n hx hb d_Bus_state_8 rfl (lv_at hl 2 rfl) ?_
  refine mk_calli (X := [(aB, .inr (3, [.ref aM, .ref aR, .int (nI sl), .int sv, .int iv, .int ug])), (aR, .inl (cO, n, .inr (.inr (.inr (.inr g)))))]) (pl := []) (wc := []) (wr := [(aB, .inr (3, [.ref aM, .ref aR, .int (nI sl), .int sv, .int iv, .int ug])), (aR, .inl (cO, n, .inr (.inr (.inr (.inr g)))))]) (w1 := []) (X1 := [(aB, .inr (3, [.ref aM, .ref aR, .int (nI sl), .int sv, .int iv, .int ug])), (aR, .inl (cO, n, .inr (.inr (.inr (.inr g)))))]) hP hD hS hA [] [0, 1] [0, 1] rfl rfl rfl (by decide) (by decide) (by decide)
    (va_runS (As := [.int y0]) (rest := []) ⟨hx, hb, hml, hown, hts⟩ (c_isLine_0 l D cI cO y0 (by first | assumption | omega) H.size) ⟨callB_of 1 hts g_Bus_isLine rfl rfl rfl (hts _ iw_39) (hts _ iw_195) (by decide +kernel) ⟨by decide, by decide⟩, hts _ iw_197⟩ (mk_preS (X := [(aB, .inr (3, [.ref aM, .ref aR, .int (nI sl), .int sv, .int iv, .int ug])), (aR, .inl (cO, n, .inr (.inr (.inr (.inr g)))))]) (pl := []) hN hK hP hD [] (by decide) rfl) rfl rfl hl.1 rfl (lv_room (Nat.le_of_ble_eq_true rfl)) d_Bus_state_9 ⟨Nat.le_refl _, Nat.le_refl _⟩) (fun H locs hP hD hS => ?_)
  have hP : va_P D vwCl [(aB, .inr (3, [.ref aM, .ref aR, .int (nI sl), .int sv, .int iv, .int ug])), (aR, .inl (cO, n, .inr (.inr (.inr (.inr g)))))] H := hP
  have hD : va_D A [(aB, .inr (3, [.ref aM, .ref aR, .int (nI sl), .int sv, .int iv, .int ug])), (aR, .inl (cO, n, .inr (.inr (.inr (.inr g)))))] := hD
  refine lv_if_eq (tgt := 32) hx hb d_Bus_state_12 rfl (fun _ => ?_) (fun h => absurd (by decide) h)
  refine lv_iconst (v := (-1)) hx hb d_Bus_state_32 (by decide) ?_
  exact mk_iret hx hb hr hlocks hK hP hD hS d_Bus_state_33 rfl rfl
set_option maxRecDepth 100000 in
set_option maxHeartbeats 4000000 in
theorem c_victim_ba (l : Launch) (D : va_G) (cI cO : ClassId) (aB aM aR n sl : Nat) (sv iv ug : Int32) (g : Nat → Option Nat) (i : Nat) (y0 : Int32) (hn : n ≤ 4) (hi : i < n) (hy0 : ¬ vp_in y0 2) : mk_M l y_Bus_victim w_Bus_victim ({ frames := 1, cells := 0, slots := 0, locals := 21 } : Room) D (tysK cI cO) [.ref aB, .int (nI i), .int y0] [(aB, .inr (3, [.ref aM, .ref aR, .int (nI sl), .int sv, .int iv, .int ug])), (aR, .inl (cO, n, .inr (.inr (.inr (.inr g)))))] (mk_Qi D (tysK cI cO) (-1) [(aB, .inr (3, [.ref aM, .ref aR, .int (nI sl), .int sv, .int iv, .int ug])), (aR, .inl (cO, n, .inr (.inr (.inr (.inr g)))))]) := by
  refine mk_start (cc := b_Bus_victim) (maxL := 4) (ret := (some FieldType.int)) (by decide) (Nat.le_of_ble_eq_true rfl) (fun p e s m below meth c A ls H locs hx hb hml hr hlocks hnm hts hN hown hK hP hD hA hl hS => ?_)
  have hl : lv_has ls 4 [(0, .ref aB), (1, .int (nI i)), (2, .int y0)] := hl
  refine lv_aload_n hx hb d_Bus_victim_0 rfl (lv_at hl 0 rfl) ?_
  refine lv_iload_n hx hb d_Bus_victim_1 rfl (lv_at hl 1 rfl) ?_
  refine mk_calli (X := [(aB, .inr (3, [.ref aM, .ref aR, .int (nI sl), .int sv, .int iv, .int ug])), (aR, .inl (cO, n, .inr (.inr (.inr (.inr g)))))]) (pl := []) (wc := [(aB, .inr (3, [.ref aM, .ref aR, .int (nI sl), .int sv, .int iv, .int ug])), (aR, .inl (cO, n, .inr (.inr (.inr (.inr g)))))]) (wr := []) (w1 := [(aB, .inr (3, [.ref aM, .ref aR, .int (nI sl), .int sv, .int iv, .int ug])), (aR, .inl (cO, n, .inr (.inr (.inr (.inr g)))))]) (X1 := [(aB, .inr (3, [.ref aM, .ref aR, .int (nI sl), .int sv, .int iv, .int ug])), (aR, .inl (cO, n, .inr (.inr (.inr (.inr g)))))]) hP hD hS hA [0, 1] [] [0, 1] rfl rfl rfl (by decide) (by decide) (by decide)
    (va_runV (b := aB) (As := [.int (nI i)]) (rest := []) ⟨hx, hb, hml, hown, hts⟩ (c_isCore_1 l D cI cO aB aM aR n sl sv iv ug g i (by first | assumption | omega) (by first | assumption | omega) H.size) ⟨callB_of 1 hts g_Bus_isCore rfl rfl rfl (hts _ iw_39) (hts _ iw_78) (by decide +kernel) ⟨by decide, by decide⟩, hts _ iw_82, hts _ iw_83⟩ (mk_preV (X := [(aB, .inr (3, [.ref aM, .ref aR, .int (nI sl), .int sv, .int iv, .int ug])), (aR, .inl (cO, n, .inr (.inr (.inr (.inr g)))))]) (pl := []) hN hK hP hD [0, 1] (by decide) rfl 0 rfl rfl rfl) rfl rfl hl.1 rfl (lv_room (Nat.le_of_ble_eq_true rfl)) d_Bus_victim_2 ⟨Nat.le_refl _, Nat.le_refl _⟩) (fun H locs hP hD hS => ?_)
  have hP : va_P D vwCl [(aB, .inr (3, [.ref aM, .ref aR, .int (nI sl), .int sv, .int iv, .int ug])), (aR, .inl (cO, n, .inr (.inr (.inr (.inr g)))))] H := hP
  have hD : va_D A [(aB, .inr (3, [.ref aM, .ref aR, .int (nI sl), .int sv, .int iv, .int ug])), (aR, .inl (cO, n, .inr (.inr (.inr (.inr g)))))] := hD
  refine lv_if_eq (tgt := 17) hx hb d_Bus_victim_5 rfl (fun h => absurd h (by decide)) (fun _ => ?_)
  refine lv_iload_n hx hb d_Bus_victim_8 rfl (lv_at hl 2 rfl) ?_
  refine lv_if_lt (tgt := 17) hx hb d_Bus_victim_9 rfl (fun h9 => ?_) (fun h9 => ?_)
  · refine lv_iconst (v := (-1)) hx hb d_Bus_victim_17 (by decide) ?_
    exact mk_iret hx hb hr hlocks hK hP hD hS d_Bus_victim_18 rfl rfl
  · refine lv_iload_n hx hb d_Bus_victim_12 rfl (lv_at hl 2 rfl) ?_
    refine lv_iconst (v := nI 2) hx hb d_Bus_victim_13 (by decide) ?_
    refine lv_icmp_lt (tgt := 19) hx hb d_Bus_victim_14 rfl (fun h => absurd h (Int32.not_lt.mpr (vp_hi (by decide) hy0 h9))) (fun _ => ?_)
    refine lv_iconst (v := (-1)) hx hb d_Bus_victim_17 (by decide) ?_
    exact mk_iret hx hb hr hlocks hK hP hD hS d_Bus_victim_18 rfl rfl
set_option maxRecDepth 100000 in
set_option maxHeartbeats 4000000 in
theorem c_load_busy (l : Launch) (D : va_G) (cI cO : ClassId) (aB aM aR n sl : Nat) (sv iv ug : Int32) (g : Nat → Option Nat) (i : Nat) (aK aC b1 b2 k ra : Nat) (rk rw lw : Int32) (j : Nat) (hn : n ≤ 4) (hi : i < n) (hg : g i = some aK) (hb1 : ¬ rk = 0) (hj : j < 32) : mk_M l y_Bus_load w_Bus_load ({ frames := 1, cells := 0, slots := 0, locals := 21 } : Room) D (tysK cI cO) [.ref aB, .int (nI i), .int (nI j)] [(aB, .inr (3, [.ref aM, .ref aR, .int (nI sl), .int sv, .int iv, .int ug])), (aR, .inl (cO, n, .inr (.inr (.inr (.inr g))))), (aK, .inr (1, [.ref aC, .ref b1, .ref b2, .int (nI k), .int rk, .int (nI ra), .int rw, .int lw]))] (mk_Qi D (tysK cI cO) (-2) [(aB, .inr (3, [.ref aM, .ref aR, .int (nI sl), .int sv, .int iv, .int ug])), (aR, .inl (cO, n, .inr (.inr (.inr (.inr g))))), (aK, .inr (1, [.ref aC, .ref b1, .ref b2, .int (nI k), .int rk, .int (nI ra), .int rw, .int lw]))]) := by
  refine mk_start (cc := b_Bus_load) (maxL := 5) (ret := (some FieldType.int)) (by decide) (Nat.le_of_ble_eq_true rfl) (fun p e s m below meth c A ls H locs hx hb hml hr hlocks hnm hts hN hown hK hP hD hA hl hS => ?_)
  have hl : lv_has ls 5 [(0, .ref aB), (1, .int (nI i)), (2, .int (nI j))] := hl
  refine lv_aload_n hx hb d_Bus_load_0 rfl (lv_at hl 0 rfl) ?_
  refine lv_iload_n hx hb d_Bus_load_1 rfl (lv_at hl 1 rfl) ?_
  refine mk_calli (X := [(aB, .inr (3, [.ref aM, .ref aR, .int (nI sl), .int sv, .int iv, .int ug])), (aR, .inl (cO, n, .inr (.inr (.inr (.inr g))))), (aK, .inr (1, [.ref aC, .ref b1, .ref b2, .int (nI k), .int rk, .int (nI ra), .int rw, .int lw]))]) (pl := []) (wc := [(aB, .inr (3, [.ref aM, .ref aR, .int (nI sl), .int sv, .int iv, .int ug])), (aR, .inl (cO, n, .inr (.inr (.inr (.inr g)))))]) (wr := [(aK, .inr (1, [.ref aC, .ref b1, .ref b2, .int (nI k), .int rk, .int (nI ra), .int rw, .int lw]))]) (w1 := [(aB, .inr (3, [.ref aM, .ref aR, .int (nI sl), .int sv, .int iv, .int ug])), (aR, .inl (cO, n, .inr (.inr (.inr (.inr g)))))]) (X1 := [(aB, .inr (3, [.ref aM, .ref aR, .int (nI sl), .int sv, .int iv, .int ug])), (aR, .inl (cO, n, .inr (.inr (.inr (.inr g))))), (aK, .inr (1, [.ref aC, .ref b1, .ref b2, .int (nI k), .int rk, .int (nI ra), .int rw, .int lw]))]) hP hD hS hA [0, 1] [2] [1, 2, 0] rfl rfl rfl (by decide) (by decide) (by decide)
    (va_runV (b := aB) (As := [.int (nI i)]) (rest := []) ⟨hx, hb, hml, hown, hts⟩ (c_isCore_1 l D cI cO aB aM aR n sl sv iv ug g i (by first | assumption | omega) (by first | assumption | omega) H.size) ⟨callB_of 1 hts g_Bus_isCore rfl rfl rfl (hts _ iw_39) (hts _ iw_78) (by decide +kernel) ⟨by decide, by decide⟩, hts _ iw_82, hts _ iw_83⟩ (mk_preV (X := [(aB, .inr (3, [.ref aM, .ref aR, .int (nI sl), .int sv, .int iv, .int ug])), (aR, .inl (cO, n, .inr (.inr (.inr (.inr g))))), (aK, .inr (1, [.ref aC, .ref b1, .ref b2, .int (nI k), .int rk, .int (nI ra), .int rw, .int lw]))]) (pl := []) hN hK hP hD [0, 1] (by decide) rfl 0 rfl rfl rfl) rfl rfl hl.1 rfl (lv_room (Nat.le_of_ble_eq_true rfl)) d_Bus_load_2 ⟨Nat.le_refl _, Nat.le_refl _⟩) (fun H locs hP hD hS => ?_)
  have hP : va_P D vwCl [(aB, .inr (3, [.ref aM, .ref aR, .int (nI sl), .int sv, .int iv, .int ug])), (aR, .inl (cO, n, .inr (.inr (.inr (.inr g))))), (aK, .inr (1, [.ref aC, .ref b1, .ref b2, .int (nI k), .int rk, .int (nI ra), .int rw, .int lw]))] H := hP
  have hD : va_D A [(aB, .inr (3, [.ref aM, .ref aR, .int (nI sl), .int sv, .int iv, .int ug])), (aR, .inl (cO, n, .inr (.inr (.inr (.inr g))))), (aK, .inr (1, [.ref aC, .ref b1, .ref b2, .int (nI k), .int rk, .int (nI ra), .int rw, .int lw]))] := hD
  refine lv_if_eq (tgt := 15) hx hb d_Bus_load_5 rfl (fun h => absurd h (by decide)) (fun _ => ?_)
  refine lv_iload_n hx hb d_Bus_load_8 rfl (lv_at hl 2 rfl) ?_
  refine mk_calli (X := [(aB, .inr (3, [.ref aM, .ref aR, .int (nI sl), .int sv, .int iv, .int ug])), (aR, .inl (cO, n, .inr (.inr (.inr (.inr g))))), (aK, .inr (1, [.ref aC, .ref b1, .ref b2, .int (nI k), .int rk, .int (nI ra), .int rw, .int lw]))]) (pl := []) (wc := []) (wr := [(aB, .inr (3, [.ref aM, .ref aR, .int (nI sl), .int sv, .int iv, .int ug])), (aR, .inl (cO, n, .inr (.inr (.inr (.inr g))))), (aK, .inr (1, [.ref aC, .ref b1, .ref b2, .int (nI k), .int rk, .int (nI ra), .int rw, .int lw]))]) (w1 := []) (X1 := [(aB, .inr (3, [.ref aM, .ref aR, .int (nI sl), .int sv, .int iv, .int ug])), (aR, .inl (cO, n, .inr (.inr (.inr (.inr g))))), (aK, .inr (1, [.ref aC, .ref b1, .ref b2, .int (nI k), .int rk, .int (nI ra), .int rw, .int lw]))]) hP hD hS hA [] [0, 1, 2] [0, 1, 2] rfl rfl rfl (by decide) (by decide) (by decide)
    (va_runS (As := [.int (nI j)]) (rest := []) ⟨hx, hb, hml, hown, hts⟩ (c_isAddress_1 l D cI cO j (by first | assumption | omega) H.size) ⟨callB_of 1 hts g_Bus_isAddress rfl rfl rfl (hts _ iw_39) (hts _ iw_79) (by decide +kernel) ⟨by decide, by decide⟩, hts _ iw_85⟩ (mk_preS (X := [(aB, .inr (3, [.ref aM, .ref aR, .int (nI sl), .int sv, .int iv, .int ug])), (aR, .inl (cO, n, .inr (.inr (.inr (.inr g))))), (aK, .inr (1, [.ref aC, .ref b1, .ref b2, .int (nI k), .int rk, .int (nI ra), .int rw, .int lw]))]) (pl := []) hN hK hP hD [] (by decide) rfl) rfl rfl hl.1 rfl (lv_room (Nat.le_of_ble_eq_true rfl)) d_Bus_load_9 ⟨Nat.le_refl _, Nat.le_refl _⟩) (fun H locs hP hD hS => ?_)
  have hP : va_P D vwCl [(aB, .inr (3, [.ref aM, .ref aR, .int (nI sl), .int sv, .int iv, .int ug])), (aR, .inl (cO, n, .inr (.inr (.inr (.inr g))))), (aK, .inr (1, [.ref aC, .ref b1, .ref b2, .int (nI k), .int rk, .int (nI ra), .int rw, .int lw]))] H := hP
  have hD : va_D A [(aB, .inr (3, [.ref aM, .ref aR, .int (nI sl), .int sv, .int iv, .int ug])), (aR, .inl (cO, n, .inr (.inr (.inr (.inr g))))), (aK, .inr (1, [.ref aC, .ref b1, .ref b2, .int (nI k), .int rk, .int (nI ra), .int rw, .int lw]))] := hD
  refine lv_if_ne (tgt := 17) hx hb d_Bus_load_12 rfl (fun _ => ?_) (fun h => absurd h (by decide))
  refine lv_aload_n hx hb d_Bus_load_17 rfl (lv_at hl 0 rfl) ?_
  refine va_get (D := D) (ci := 3) (v := .ref aR) (C := R_Bus) (T := T_Bus) (N := 6) hx hb hts in_Bus hown hK hP 0 rfl rfl 1 (by decide) (hts _ iw_53) (fun _ h9 => h9) rfl d_Bus_load_18 ?_
  refine lv_iload_n hx hb d_Bus_load_21 rfl (lv_at hl 1 rfl) ?_
  refine mk_aald hx hb hK hP 1 1 rfl rfl (j := i) (b := aK) (by omega) (by omega) hg d_Bus_load_22 ?_
  refine lv_astore_n hx hb d_Bus_load_23 rfl hl (by decide) rfl (fun ls hl => ?_)
  have hl : lv_has ls 5 [(3, .ref aK), (0, .ref aB), (1, .int (nI i)), (2, .int (nI j))] := hl
  refine lv_aload_n hx hb d_Bus_load_24 rfl (lv_at hl 0 rfl) ?_
  refine mk_calli (X := [(aB, .inr (3, [.ref aM, .ref aR, .int (nI sl), .int sv, .int iv, .int ug])), (aR, .inl (cO, n, .inr (.inr (.inr (.inr g))))), (aK, .inr (1, [.ref aC, .ref b1, .ref b2, .int (nI k), .int rk, .int (nI ra), .int rw, .int lw]))]) (pl := []) (wc := [(aK, .inr (1, [.ref aC, .ref b1, .ref b2, .int (nI k), .int rk, .int (nI ra), .int rw, .int lw]))]) (wr := [(aB, .inr (3, [.ref aM, .ref aR, .int (nI sl), .int sv, .int iv, .int ug])), (aR, .inl (cO, n, .inr (.inr (.inr (.inr g)))))]) (w1 := [(aK, .inr (1, [.ref aC, .ref b1, .ref b2, .int (nI k), .int rk, .int (nI ra), .int rw, .int lw]))]) (X1 := [(aB, .inr (3, [.ref aM, .ref aR, .int (nI sl), .int sv, .int iv, .int ug])), (aR, .inl (cO, n, .inr (.inr (.inr (.inr g))))), (aK, .inr (1, [.ref aC, .ref b1, .ref b2, .int (nI k), .int rk, .int (nI ra), .int rw, .int lw]))]) hP hD hS hA [2] [0, 1] [0, 1, 2] rfl rfl rfl (by decide) (by decide) (by decide)
    (va_runVN (b := aK) (As := []) (rest := []) ⟨hx, hb, hml, hown, hts⟩ (c_waits_1 l D cI cO aK aC b1 b2 k ra rk rw lw (by first | assumption | omega) H.size) ⟨va_cnB 0 hts g_Core_waits rfl rfl rfl (hN _ in_w3) (hts _ iw_41) (by decide +kernel) ⟨by decide, by decide⟩, hts _ iw_87, hts _ iw_88⟩ (mk_preV (X := [(aB, .inr (3, [.ref aM, .ref aR, .int (nI sl), .int sv, .int iv, .int ug])), (aR, .inl (cO, n, .inr (.inr (.inr (.inr g))))), (aK, .inr (1, [.ref aC, .ref b1, .ref b2, .int (nI k), .int rk, .int (nI ra), .int rw, .int lw]))]) (pl := []) hN hK hP hD [2] (by decide) rfl 2 rfl rfl rfl) rfl rfl hl.1 rfl (lv_room (Nat.le_of_ble_eq_true rfl)) d_Bus_load_25 ⟨Nat.le_refl _, Nat.le_refl _⟩) (fun H locs hP hD hS => ?_)
  have hP : va_P D vwCl [(aB, .inr (3, [.ref aM, .ref aR, .int (nI sl), .int sv, .int iv, .int ug])), (aR, .inl (cO, n, .inr (.inr (.inr (.inr g))))), (aK, .inr (1, [.ref aC, .ref b1, .ref b2, .int (nI k), .int rk, .int (nI ra), .int rw, .int lw]))] H := hP
  have hD : va_D A [(aB, .inr (3, [.ref aM, .ref aR, .int (nI sl), .int sv, .int iv, .int ug])), (aR, .inl (cO, n, .inr (.inr (.inr (.inr g))))), (aK, .inr (1, [.ref aC, .ref b1, .ref b2, .int (nI k), .int rk, .int (nI ra), .int rw, .int lw]))] := hD
  refine lv_if_eq (tgt := 34) hx hb d_Bus_load_28 rfl (fun h => absurd h (by decide)) (fun _ => ?_)
  refine lv_bipush (v := (-2)) hx hb d_Bus_load_31 (by decide) ?_
  exact mk_iret hx hb hr hlocks hK hP hD hS d_Bus_load_33 rfl rfl
set_option maxRecDepth 100000 in
set_option maxHeartbeats 4000000 in
theorem c_load_fwd (l : Launch) (D : va_G) (cI cO : ClassId) (aB aM aR n sl : Nat) (sv iv ug : Int32) (g : Nat → Option Nat) (i : Nat) (aK aC b1 b2 k ra : Nat) (rk rw lw : Int32) (j : Nat) (q : Nat) (sa sw : Nat → Int32) (hn : n ≤ 4) (hi : i < n) (hg : g i = some aK) (hb1 : rk = 0) (hj : j < 32) (hk : k ≤ 4) (hq : cs_new sa (nI j) k = some q) (hq4 : q < 4) : mk_M l y_Bus_load w_Bus_load ({ frames := 1, cells := 0, slots := 0, locals := 22 } : Room) D (tysK cI cO) [.ref aB, .int (nI i), .int (nI j)] [(aB, .inr (3, [.ref aM, .ref aR, .int (nI sl), .int sv, .int iv, .int ug])), (aR, .inl (cO, n, .inr (.inr (.inr (.inr g))))), (aK, .inr (1, [.ref aC, .ref b1, .ref b2, .int (nI k), .int rk, .int (nI ra), .int rw, .int lw])), (b1, .inl (cI, 4, .inl sa)), (b2, .inl (cI, 4, .inl sw))] (mk_Qi D (tysK cI cO) (nI 0) [(aB, .inr (3, [.ref aM, .ref aR, .int (nI sl), .int sv, .int iv, .int ug])), (aR, .inl (cO, n, .inr (.inr (.inr (.inr g))))), (aK, .inr (1, [.ref aC, .ref b1, .ref b2, .int (nI k), .int rk, .int (nI ra), .int rw, .int (sw q)])), (b1, .inl (cI, 4, .inl sa)), (b2, .inl (cI, 4, .inl sw))]) := by
  refine mk_start (cc := b_Bus_load) (maxL := 5) (ret := (some FieldType.int)) (by decide) (Nat.le_of_ble_eq_true rfl) (fun p e s m below meth c A ls H locs hx hb hml hr hlocks hnm hts hN hown hK hP hD hA hl hS => ?_)
  have hl : lv_has ls 5 [(0, .ref aB), (1, .int (nI i)), (2, .int (nI j))] := hl
  refine lv_aload_n hx hb d_Bus_load_0 rfl (lv_at hl 0 rfl) ?_
  refine lv_iload_n hx hb d_Bus_load_1 rfl (lv_at hl 1 rfl) ?_
  refine mk_calli (X := [(aB, .inr (3, [.ref aM, .ref aR, .int (nI sl), .int sv, .int iv, .int ug])), (aR, .inl (cO, n, .inr (.inr (.inr (.inr g))))), (aK, .inr (1, [.ref aC, .ref b1, .ref b2, .int (nI k), .int rk, .int (nI ra), .int rw, .int lw])), (b1, .inl (cI, 4, .inl sa)), (b2, .inl (cI, 4, .inl sw))]) (pl := []) (wc := [(aB, .inr (3, [.ref aM, .ref aR, .int (nI sl), .int sv, .int iv, .int ug])), (aR, .inl (cO, n, .inr (.inr (.inr (.inr g)))))]) (wr := [(aK, .inr (1, [.ref aC, .ref b1, .ref b2, .int (nI k), .int rk, .int (nI ra), .int rw, .int lw])), (b1, .inl (cI, 4, .inl sa)), (b2, .inl (cI, 4, .inl sw))]) (w1 := [(aB, .inr (3, [.ref aM, .ref aR, .int (nI sl), .int sv, .int iv, .int ug])), (aR, .inl (cO, n, .inr (.inr (.inr (.inr g)))))]) (X1 := [(aB, .inr (3, [.ref aM, .ref aR, .int (nI sl), .int sv, .int iv, .int ug])), (aR, .inl (cO, n, .inr (.inr (.inr (.inr g))))), (aK, .inr (1, [.ref aC, .ref b1, .ref b2, .int (nI k), .int rk, .int (nI ra), .int rw, .int lw])), (b1, .inl (cI, 4, .inl sa)), (b2, .inl (cI, 4, .inl sw))]) hP hD hS hA [0, 1] [2, 3, 4] [3, 4, 0, 1, 2] rfl rfl rfl (by decide) (by decide) (by decide)
    (va_runV (b := aB) (As := [.int (nI i)]) (rest := []) ⟨hx, hb, hml, hown, hts⟩ (c_isCore_1 l D cI cO aB aM aR n sl sv iv ug g i (by first | assumption | omega) (by first | assumption | omega) H.size) ⟨callB_of 1 hts g_Bus_isCore rfl rfl rfl (hts _ iw_39) (hts _ iw_78) (by decide +kernel) ⟨by decide, by decide⟩, hts _ iw_82, hts _ iw_83⟩ (mk_preV (X := [(aB, .inr (3, [.ref aM, .ref aR, .int (nI sl), .int sv, .int iv, .int ug])), (aR, .inl (cO, n, .inr (.inr (.inr (.inr g))))), (aK, .inr (1, [.ref aC, .ref b1, .ref b2, .int (nI k), .int rk, .int (nI ra), .int rw, .int lw])), (b1, .inl (cI, 4, .inl sa)), (b2, .inl (cI, 4, .inl sw))]) (pl := []) hN hK hP hD [0, 1] (by decide) rfl 0 rfl rfl rfl) rfl rfl hl.1 rfl (lv_room (Nat.le_of_ble_eq_true rfl)) d_Bus_load_2 ⟨Nat.le_refl _, Nat.le_refl _⟩) (fun H locs hP hD hS => ?_)
  have hP : va_P D vwCl [(aB, .inr (3, [.ref aM, .ref aR, .int (nI sl), .int sv, .int iv, .int ug])), (aR, .inl (cO, n, .inr (.inr (.inr (.inr g))))), (aK, .inr (1, [.ref aC, .ref b1, .ref b2, .int (nI k), .int rk, .int (nI ra), .int rw, .int lw])), (b1, .inl (cI, 4, .inl sa)), (b2, .inl (cI, 4, .inl sw))] H := hP
  have hD : va_D A [(aB, .inr (3, [.ref aM, .ref aR, .int (nI sl), .int sv, .int iv, .int ug])), (aR, .inl (cO, n, .inr (.inr (.inr (.inr g))))), (aK, .inr (1, [.ref aC, .ref b1, .ref b2, .int (nI k), .int rk, .int (nI ra), .int rw, .int lw])), (b1, .inl (cI, 4, .inl sa)), (b2, .inl (cI, 4, .inl sw))] := hD
  refine lv_if_eq (tgt := 15) hx hb d_Bus_load_5 rfl (fun h => absurd h (by decide)) (fun _ => ?_)
  refine lv_iload_n hx hb d_Bus_load_8 rfl (lv_at hl 2 rfl) ?_
  refine mk_calli (X := [(aB, .inr (3, [.ref aM, .ref aR, .int (nI sl), .int sv, .int iv, .int ug])), (aR, .inl (cO, n, .inr (.inr (.inr (.inr g))))), (aK, .inr (1, [.ref aC, .ref b1, .ref b2, .int (nI k), .int rk, .int (nI ra), .int rw, .int lw])), (b1, .inl (cI, 4, .inl sa)), (b2, .inl (cI, 4, .inl sw))]) (pl := []) (wc := []) (wr := [(aB, .inr (3, [.ref aM, .ref aR, .int (nI sl), .int sv, .int iv, .int ug])), (aR, .inl (cO, n, .inr (.inr (.inr (.inr g))))), (aK, .inr (1, [.ref aC, .ref b1, .ref b2, .int (nI k), .int rk, .int (nI ra), .int rw, .int lw])), (b1, .inl (cI, 4, .inl sa)), (b2, .inl (cI, 4, .inl sw))]) (w1 := []) (X1 := [(aB, .inr (3, [.ref aM, .ref aR, .int (nI sl), .int sv, .int iv, .int ug])), (aR, .inl (cO, n, .inr (.inr (.inr (.inr g))))), (aK, .inr (1, [.ref aC, .ref b1, .ref b2, .int (nI k), .int rk, .int (nI ra), .int rw, .int lw])), (b1, .inl (cI, 4, .inl sa)), (b2, .inl (cI, 4, .inl sw))]) hP hD hS hA [] [0, 1, 2, 3, 4] [0, 1, 2, 3, 4] rfl rfl rfl (by decide) (by decide) (by decide)
    (va_runS (As := [.int (nI j)]) (rest := []) ⟨hx, hb, hml, hown, hts⟩ (c_isAddress_1 l D cI cO j (by first | assumption | omega) H.size) ⟨callB_of 1 hts g_Bus_isAddress rfl rfl rfl (hts _ iw_39) (hts _ iw_79) (by decide +kernel) ⟨by decide, by decide⟩, hts _ iw_85⟩ (mk_preS (X := [(aB, .inr (3, [.ref aM, .ref aR, .int (nI sl), .int sv, .int iv, .int ug])), (aR, .inl (cO, n, .inr (.inr (.inr (.inr g))))), (aK, .inr (1, [.ref aC, .ref b1, .ref b2, .int (nI k), .int rk, .int (nI ra), .int rw, .int lw])), (b1, .inl (cI, 4, .inl sa)), (b2, .inl (cI, 4, .inl sw))]) (pl := []) hN hK hP hD [] (by decide) rfl) rfl rfl hl.1 rfl (lv_room (Nat.le_of_ble_eq_true rfl)) d_Bus_load_9 ⟨Nat.le_refl _, Nat.le_refl _⟩) (fun H locs hP hD hS => ?_)
  have hP : va_P D vwCl [(aB, .inr (3, [.ref aM, .ref aR, .int (nI sl), .int sv, .int iv, .int ug])), (aR, .inl (cO, n, .inr (.inr (.inr (.inr g))))), (aK, .inr (1, [.ref aC, .ref b1, .ref b2, .int (nI k), .int rk, .int (nI ra), .int rw, .int lw])), (b1, .inl (cI, 4, .inl sa)), (b2, .inl (cI, 4, .inl sw))] H := hP
  have hD : va_D A [(aB, .inr (3, [.ref aM, .ref aR, .int (nI sl), .int sv, .int iv, .int ug])), (aR, .inl (cO, n, .inr (.inr (.inr (.inr g))))), (aK, .inr (1, [.ref aC, .ref b1, .ref b2, .int (nI k), .int rk, .int (nI ra), .int rw, .int lw])), (b1, .inl (cI, 4, .inl sa)), (b2, .inl (cI, 4, .inl sw))] := hD
  refine lv_if_ne (tgt := 17) hx hb d_Bus_load_12 rfl (fun _ => ?_) (fun h => absurd h (by decide))
  refine lv_aload_n hx hb d_Bus_load_17 rfl (lv_at hl 0 rfl) ?_
  refine va_get (D := D) (ci := 3) (v := .ref aR) (C := R_Bus) (T := T_Bus) (N := 6) hx hb hts in_Bus hown hK hP 0 rfl rfl 1 (by decide) (hts _ iw_53) (fun _ h9 => h9) rfl d_Bus_load_18 ?_
  refine lv_iload_n hx hb d_Bus_load_21 rfl (lv_at hl 1 rfl) ?_
  refine mk_aald hx hb hK hP 1 1 rfl rfl (j := i) (b := aK) (by omega) (by omega) hg d_Bus_load_22 ?_
  refine lv_astore_n hx hb d_Bus_load_23 rfl hl (by decide) rfl (fun ls hl => ?_)
  have hl : lv_has ls 5 [(3, .ref aK), (0, .ref aB), (1, .int (nI i)), (2, .int (nI j))] := hl
  refine lv_aload_n hx hb d_Bus_load_24 rfl (lv_at hl 0 rfl) ?_
  refine mk_calli (X := [(aB, .inr (3, [.ref aM, .ref aR, .int (nI sl), .int sv, .int iv, .int ug])), (aR, .inl (cO, n, .inr (.inr (.inr (.inr g))))), (aK, .inr (1, [.ref aC, .ref b1, .ref b2, .int (nI k), .int rk, .int (nI ra), .int rw, .int lw])), (b1, .inl (cI, 4, .inl sa)), (b2, .inl (cI, 4, .inl sw))]) (pl := []) (wc := [(aK, .inr (1, [.ref aC, .ref b1, .ref b2, .int (nI k), .int rk, .int (nI ra), .int rw, .int lw]))]) (wr := [(aB, .inr (3, [.ref aM, .ref aR, .int (nI sl), .int sv, .int iv, .int ug])), (aR, .inl (cO, n, .inr (.inr (.inr (.inr g))))), (b1, .inl (cI, 4, .inl sa)), (b2, .inl (cI, 4, .inl sw))]) (w1 := [(aK, .inr (1, [.ref aC, .ref b1, .ref b2, .int (nI k), .int rk, .int (nI ra), .int rw, .int lw]))]) (X1 := [(aB, .inr (3, [.ref aM, .ref aR, .int (nI sl), .int sv, .int iv, .int ug])), (aR, .inl (cO, n, .inr (.inr (.inr (.inr g))))), (aK, .inr (1, [.ref aC, .ref b1, .ref b2, .int (nI k), .int rk, .int (nI ra), .int rw, .int lw])), (b1, .inl (cI, 4, .inl sa)), (b2, .inl (cI, 4, .inl sw))]) hP hD hS hA [2] [0, 1, 3, 4] [0, 1, 4, 2, 3] rfl rfl rfl (by decide) (by decide) (by decide)
    (va_runVN (b := aK) (As := []) (rest := []) ⟨hx, hb, hml, hown, hts⟩ (c_waits_0 l D cI cO aK aC b1 b2 k ra rk rw lw (by first | assumption | omega) H.size) ⟨va_cnB 0 hts g_Core_waits rfl rfl rfl (hN _ in_w3) (hts _ iw_41) (by decide +kernel) ⟨by decide, by decide⟩, hts _ iw_87, hts _ iw_88⟩ (mk_preV (X := [(aB, .inr (3, [.ref aM, .ref aR, .int (nI sl), .int sv, .int iv, .int ug])), (aR, .inl (cO, n, .inr (.inr (.inr (.inr g))))), (aK, .inr (1, [.ref aC, .ref b1, .ref b2, .int (nI k), .int rk, .int (nI ra), .int rw, .int lw])), (b1, .inl (cI, 4, .inl sa)), (b2, .inl (cI, 4, .inl sw))]) (pl := []) hN hK hP hD [2] (by decide) rfl 2 rfl rfl rfl) rfl rfl hl.1 rfl (lv_room (Nat.le_of_ble_eq_true rfl)) d_Bus_load_25 ⟨Nat.le_refl _, Nat.le_refl _⟩) (fun H locs hP hD hS => ?_)
  have hP : va_P D vwCl [(aB, .inr (3, [.ref aM, .ref aR, .int (nI sl), .int sv, .int iv, .int ug])), (aR, .inl (cO, n, .inr (.inr (.inr (.inr g))))), (aK, .inr (1, [.ref aC, .ref b1, .ref b2, .int (nI k), .int rk, .int (nI ra), .int rw, .int lw])), (b1, .inl (cI, 4, .inl sa)), (b2, .inl (cI, 4, .inl sw))] H := hP
  have hD : va_D A [(aB, .inr (3, [.ref aM, .ref aR, .int (nI sl), .int sv, .int iv, .int ug])), (aR, .inl (cO, n, .inr (.inr (.inr (.inr g))))), (aK, .inr (1, [.ref aC, .ref b1, .ref b2, .int (nI k), .int rk, .int (nI ra), .int rw, .int lw])), (b1, .inl (cI, 4, .inl sa)), (b2, .inl (cI, 4, .inl sw))] := hD
  refine lv_if_eq (tgt := 34) hx hb d_Bus_load_28 rfl (fun _ => ?_) (fun h => absurd (by decide) h)
  refine lv_aload_n hx hb d_Bus_load_34 rfl (lv_at hl 0 rfl) ?_
  refine lv_iload_n hx hb d_Bus_load_35 rfl (lv_at hl 3 rfl) ?_
  refine mk_calli (X := [(aB, .inr (3, [.ref aM, .ref aR, .int (nI sl), .int sv, .int iv, .int ug])), (aR, .inl (cO, n, .inr (.inr (.inr (.inr g))))), (aK, .inr (1, [.ref aC, .ref b1, .ref b2, .int (nI k), .int rk, .int (nI ra), .int rw, .int lw])), (b1, .inl (cI, 4, .inl sa)), (b2, .inl (cI, 4, .inl sw))]) (pl := []) (wc := [(aK, .inr (1, [.ref aC, .ref b1, .ref b2, .int (nI k), .int rk, .int (nI ra), .int rw, .int lw])), (b1, .inl (cI, 4, .inl sa))]) (wr := [(aB, .inr (3, [.ref aM, .ref aR, .int (nI sl), .int sv, .int iv, .int ug])), (aR, .inl (cO, n, .inr (.inr (.inr (.inr g))))), (b2, .inl (cI, 4, .inl sw))]) (w1 := [(aK, .inr (1, [.ref aC, .ref b1, .ref b2, .int (nI k), .int rk, .int (nI ra), .int rw, .int lw])), (b1, .inl (cI, 4, .inl sa))]) (X1 := [(aB, .inr (3, [.ref aM, .ref aR, .int (nI sl), .int sv, .int iv, .int ug])), (aR, .inl (cO, n, .inr (.inr (.inr (.inr g))))), (aK, .inr (1, [.ref aC, .ref b1, .ref b2, .int (nI k), .int rk, .int (nI ra), .int rw, .int lw])), (b1, .inl (cI, 4, .inl sa)), (b2, .inl (cI, 4, .inl sw))]) hP hD hS hA [2, 3] [0, 1, 4] [0, 1, 3, 4, 2] rfl rfl rfl (by decide) (by decide) (by decide)
    (va_runVN (b := aK) (As := [.int (nI j)]) (rest := []) ⟨hx, hb, hml, hown, hts⟩ (c_newest l D cI cO aK aC b1 b2 k ra rk rw lw sa (nI j) (by first | assumption | omega) H.size) ⟨va_cnB 1 hts g_Core_newestStoreTo rfl rfl rfl (hN _ in_w4) (hts _ iw_41) (by decide +kernel) ⟨by decide, by decide⟩, hts _ iw_90, hts _ iw_91⟩ (mk_preV (X := [(aB, .inr (3, [.ref aM, .ref aR, .int (nI sl), .int sv, .int iv, .int ug])), (aR, .inl (cO, n, .inr (.inr (.inr (.inr g))))), (aK, .inr (1, [.ref aC, .ref b1, .ref b2, .int (nI k), .int rk, .int (nI ra), .int rw, .int lw])), (b1, .inl (cI, 4, .inl sa)), (b2, .inl (cI, 4, .inl sw))]) (pl := []) hN hK hP hD [2, 3] (by decide) rfl 2 rfl rfl rfl) rfl rfl hl.1 rfl (lv_room (Nat.le_of_ble_eq_true rfl)) d_Bus_load_36 ⟨Nat.le_refl _, Nat.le_refl _⟩) (fun H locs hP hD hS => ?_)
  have hP : va_P D vwCl [(aB, .inr (3, [.ref aM, .ref aR, .int (nI sl), .int sv, .int iv, .int ug])), (aR, .inl (cO, n, .inr (.inr (.inr (.inr g))))), (aK, .inr (1, [.ref aC, .ref b1, .ref b2, .int (nI k), .int rk, .int (nI ra), .int rw, .int lw])), (b1, .inl (cI, 4, .inl sa)), (b2, .inl (cI, 4, .inl sw))] H := hP
  have hD : va_D A [(aB, .inr (3, [.ref aM, .ref aR, .int (nI sl), .int sv, .int iv, .int ug])), (aR, .inl (cO, n, .inr (.inr (.inr (.inr g))))), (aK, .inr (1, [.ref aC, .ref b1, .ref b2, .int (nI k), .int rk, .int (nI ra), .int rw, .int lw])), (b1, .inl (cI, 4, .inl sa)), (b2, .inl (cI, 4, .inl sw))] := hD
  refine mk_top (show _ = nI q from by rw [hq]; rfl) ?_
  refine lv_istore hx hb d_Bus_load_39 hl (by decide) rfl (fun ls hl => ?_)
  have hl : lv_has ls 5 [(4, .int (nI q)), (3, .ref aK), (0, .ref aB), (1, .int (nI i)), (2, .int (nI j))] := hl
  refine lv_iload hx hb d_Bus_load_41 (lv_at hl 0 rfl) ?_
  refine lv_iconst (v := (-1)) hx hb d_Bus_load_43 (by decide) ?_
  refine lv_icmp_eq (tgt := 60) hx hb d_Bus_load_44 rfl (fun h => absurd h (nI_m1 (by omega))) (fun _ => ?_)
  refine lv_aload_n hx hb d_Bus_load_47 rfl (lv_at hl 1 rfl) ?_
  refine lv_aload_n hx hb d_Bus_load_48 rfl (lv_at hl 1 rfl) ?_
  refine va_getN (D := D) (ci := 1) (v := .ref b2) (C := R_Core) (T := T_Core) (N := 8) hx hb hts in_Core hown hK hP 2 rfl rfl 2 (by decide) (va_Nw.use rfl (hN _ in_w5)) (fun _ h9 => h9) rfl d_Bus_load_49 ?_
  refine lv_iload hx hb d_Bus_load_52 (lv_at hl 0 rfl) ?_
  refine mk_iald hx hb hK hP 4 0 rfl rfl (j := q) (by omega) (by decide) d_Bus_load_54 ?_
  refine va_putN (D := D) (ci := 1) (v := .int (sw q)) (ty := .int) (C := R_Core) (T := T_Core) (N := 8) hx hb hts in_Core ty_Core tyok_Core nm_Core hown hK hP hD hS 2 rfl rfl 7 (by decide) (va_Nw.use rfl (hN _ in_w6)) (fun _ h9 => h9) rfl (by decide +kernel) rfl rfl (Nat.le_of_ble_eq_true rfl) d_Bus_load_55 (fun H locs hP hD hS => ?_)
  have hP : va_P D vwCl [(aB, .inr (3, [.ref aM, .ref aR, .int (nI sl), .int sv, .int iv, .int ug])), (aR, .inl (cO, n, .inr (.inr (.inr (.inr g))))), (aK, .inr (1, [.ref aC, .ref b1, .ref b2, .int (nI k), .int rk, .int (nI ra), .int rw, .int (sw q)])), (b1, .inl (cI, 4, .inl sa)), (b2, .inl (cI, 4, .inl sw))] H := hP
  have hD : va_D A [(aB, .inr (3, [.ref aM, .ref aR, .int (nI sl), .int sv, .int iv, .int ug])), (aR, .inl (cO, n, .inr (.inr (.inr (.inr g))))), (aK, .inr (1, [.ref aC, .ref b1, .ref b2, .int (nI k), .int rk, .int (nI ra), .int rw, .int (sw q)])), (b1, .inl (cI, 4, .inl sa)), (b2, .inl (cI, 4, .inl sw))] := hD
  refine lv_iconst (v := nI 0) hx hb d_Bus_load_58 (by decide) ?_
  exact mk_iret hx hb hr hlocks hK hP hD hS d_Bus_load_59 rfl rfl
set_option maxRecDepth 100000 in
set_option maxHeartbeats 4000000 in
theorem c_load_hit (l : Launch) (D : va_G) (cI cO : ClassId) (aB aM aR n sl : Nat) (sv iv ug : Int32) (g : Nat → Option Nat) (i : Nat) (aK aC b1 b2 k ra : Nat) (rk rw lw : Int32) (a1 a2 a3 wy : Nat) (us : Int32) (j : Nat) (sa st : Nat → Int32) (ua wd : Nat → Int32) (hn : n ≤ 4) (hi : i < n) (hg : g i = some aK) (hb1 : rk = 0) (hj : j < 32) (hk : k ≤ 4) (hq : cs_new sa (nI j) k = none) (hs : ¬ st (j / 4) = 0) : mk_M l y_Bus_load w_Bus_load ({ frames := 1, cells := 0, slots := 0, locals := 22 } : Room) D (tysK cI cO) [.ref aB, .int (nI i), .int (nI j)] [(aB, .inr (3, [.ref aM, .ref aR, .int (nI sl), .int sv, .int iv, .int ug])), (aR, .inl (cO, n, .inr (.inr (.inr (.inr g))))), (aK, .inr (1, [.ref aC, .ref b1, .ref b2, .int (nI k), .int rk, .int (nI ra), .int rw, .int lw])), (b1, .inl (cI, 4, .inl sa)), (aC, .inr (0, [.ref aM, .int (nI wy), .ref a1, .ref a2, .ref a3, .int us])), (a1, .inl (cI, 8, .inl st)), (a2, .inl (cI, 8, .inl ua)), (a3, .inl (cI, 32, .inl wd))] (mk_Qi D (tysK cI cO) (nI 0) [(aB, .inr (3, [.ref aM, .ref aR, .int (nI sl), .int sv, .int iv, .int ug])), (aR, .inl (cO, n, .inr (.inr (.inr (.inr g))))), (aK, .inr (1, [.ref aC, .ref b1, .ref b2, .int (nI k), .int rk, .int (nI ra), .int rw, .int (wd j)])), (b1, .inl (cI, 4, .inl sa)), (aC, .inr (0, [.ref aM, .int (nI wy), .ref a1, .ref a2, .ref a3, .int (us + nI 1)])), (a1, .inl (cI, 8, .inl st)), (a2, .inl (cI, 8, .inl (upd ua (j / 4) (us + nI 1)))), (a3, .inl (cI, 32, .inl wd))]) := by
  refine mk_start (cc := b_Bus_load) (maxL := 5) (ret := (some FieldType.int)) (by decide) (Nat.le_of_ble_eq_true rfl) (fun p e s m below meth c A ls H locs hx hb hml hr hlocks hnm hts hN hown hK hP hD hA hl hS => ?_)
  have hl : lv_has ls 5 [(0, .ref aB), (1, .int (nI i)), (2, .int (nI j))] := hl
  refine lv_aload_n hx hb d_Bus_load_0 rfl (lv_at hl 0 rfl) ?_
  refine lv_iload_n hx hb d_Bus_load_1 rfl (lv_at hl 1 rfl) ?_
  refine mk_calli (X := [(aB, .inr (3, [.ref aM, .ref aR, .int (nI sl), .int sv, .int iv, .int ug])), (aR, .inl (cO, n, .inr (.inr (.inr (.inr g))))), (aK, .inr (1, [.ref aC, .ref b1, .ref b2, .int (nI k), .int rk, .int (nI ra), .int rw, .int lw])), (b1, .inl (cI, 4, .inl sa)), (aC, .inr (0, [.ref aM, .int (nI wy), .ref a1, .ref a2, .ref a3, .int us])), (a1, .inl (cI, 8, .inl st)), (a2, .inl (cI, 8, .inl ua)), (a3, .inl (cI, 32, .inl wd))]) (pl := []) (wc := [(aB, .inr (3, [.ref aM, .ref aR, .int (nI sl), .int sv, .int iv, .int ug])), (aR, .inl (cO, n, .inr (.inr (.inr (.inr g)))))]) (wr := [(aK, .inr (1, [.ref aC, .ref b1, .ref b2, .int (nI k), .int rk, .int (nI ra), .int rw, .int lw])), (b1, .inl (cI, 4, .inl sa)), (aC, .inr (0, [.ref aM, .int (nI wy), .ref a1, .ref a2, .ref a3, .int us])), (a1, .inl (cI, 8, .inl st)), (a2, .inl (cI, 8, .inl ua)), (a3, .inl (cI, 32, .inl wd))]) (w1 := [(aB, .inr (3, [.ref aM, .ref aR, .int (nI sl), .int sv, .int iv, .int ug])), (aR, .inl (cO, n, .inr (.inr (.inr (.inr g)))))]) (X1 := [(aB, .inr (3, [.ref aM, .ref aR, .int (nI sl), .int sv, .int iv, .int ug])), (aR, .inl (cO, n, .inr (.inr (.inr (.inr g))))), (aK, .inr (1, [.ref aC, .ref b1, .ref b2, .int (nI k), .int rk, .int (nI ra), .int rw, .int lw])), (b1, .inl (cI, 4, .inl sa)), (aC, .inr (0, [.ref aM, .int (nI wy), .ref a1, .ref a2, .ref a3, .int us])), (a1, .inl (cI, 8, .inl st)), (a2, .inl (cI, 8, .inl ua)), (a3, .inl (cI, 32, .inl wd))]) hP hD hS hA [0, 1] [2, 3, 4, 5, 6, 7] [6, 7, 0, 1, 2, 3, 4, 5] rfl rfl rfl (by decide) (by decide) (by decide)
    (va_runV (b := aB) (As := [.int (nI i)]) (rest := []) ⟨hx, hb, hml, hown, hts⟩ (c_isCore_1 l D cI cO aB aM aR n sl sv iv ug g i (by first | assumption | omega) (by first | assumption | omega) H.size) ⟨callB_of 1 hts g_Bus_isCore rfl rfl rfl (hts _ iw_39) (hts _ iw_78) (by decide +kernel) ⟨by decide, by decide⟩, hts _ iw_82, hts _ iw_83⟩ (mk_preV (X := [(aB, .inr (3, [.ref aM, .ref aR, .int (nI sl), .int sv, .int iv, .int ug])), (aR, .inl (cO, n, .inr (.inr (.inr (.inr g))))), (aK, .inr (1, [.ref aC, .ref b1, .ref b2, .int (nI k), .int rk, .int (nI ra), .int rw, .int lw])), (b1, .inl (cI, 4, .inl sa)), (aC, .inr (0, [.ref aM, .int (nI wy), .ref a1, .ref a2, .ref a3, .int us])), (a1, .inl (cI, 8, .inl st)), (a2, .inl (cI, 8, .inl ua)), (a3, .inl (cI, 32, .inl wd))]) (pl := []) hN hK hP hD [0, 1] (by decide) rfl 0 rfl rfl rfl) rfl rfl hl.1 rfl (lv_room (Nat.le_of_ble_eq_true rfl)) d_Bus_load_2 ⟨Nat.le_refl _, Nat.le_refl _⟩) (fun H locs hP hD hS => ?_)
  have hP : va_P D vwCl [(aB, .inr (3, [.ref aM, .ref aR, .int (nI sl), .int sv, .int iv, .int ug])), (aR, .inl (cO, n, .inr (.inr (.inr (.inr g))))), (aK, .inr (1, [.ref aC, .ref b1, .ref b2, .int (nI k), .int rk, .int (nI ra), .int rw, .int lw])), (b1, .inl (cI, 4, .inl sa)), (aC, .inr (0, [.ref aM, .int (nI wy), .ref a1, .ref a2, .ref a3, .int us])), (a1, .inl (cI, 8, .inl st)), (a2, .inl (cI, 8, .inl ua)), (a3, .inl (cI, 32, .inl wd))] H := hP
  have hD : va_D A [(aB, .inr (3, [.ref aM, .ref aR, .int (nI sl), .int sv, .int iv, .int ug])), (aR, .inl (cO, n, .inr (.inr (.inr (.inr g))))), (aK, .inr (1, [.ref aC, .ref b1, .ref b2, .int (nI k), .int rk, .int (nI ra), .int rw, .int lw])), (b1, .inl (cI, 4, .inl sa)), (aC, .inr (0, [.ref aM, .int (nI wy), .ref a1, .ref a2, .ref a3, .int us])), (a1, .inl (cI, 8, .inl st)), (a2, .inl (cI, 8, .inl ua)), (a3, .inl (cI, 32, .inl wd))] := hD
  refine lv_if_eq (tgt := 15) hx hb d_Bus_load_5 rfl (fun h => absurd h (by decide)) (fun _ => ?_)
  refine lv_iload_n hx hb d_Bus_load_8 rfl (lv_at hl 2 rfl) ?_
  refine mk_calli (X := [(aB, .inr (3, [.ref aM, .ref aR, .int (nI sl), .int sv, .int iv, .int ug])), (aR, .inl (cO, n, .inr (.inr (.inr (.inr g))))), (aK, .inr (1, [.ref aC, .ref b1, .ref b2, .int (nI k), .int rk, .int (nI ra), .int rw, .int lw])), (b1, .inl (cI, 4, .inl sa)), (aC, .inr (0, [.ref aM, .int (nI wy), .ref a1, .ref a2, .ref a3, .int us])), (a1, .inl (cI, 8, .inl st)), (a2, .inl (cI, 8, .inl ua)), (a3, .inl (cI, 32, .inl wd))]) (pl := []) (wc := []) (wr := [(aB, .inr (3, [.ref aM, .ref aR, .int (nI sl), .int sv, .int iv, .int ug])), (aR, .inl (cO, n, .inr (.inr (.inr (.inr g))))), (aK, .inr (1, [.ref aC, .ref b1, .ref b2, .int (nI k), .int rk, .int (nI ra), .int rw, .int lw])), (b1, .inl (cI, 4, .inl sa)), (aC, .inr (0, [.ref aM, .int (nI wy), .ref a1, .ref a2, .ref a3, .int us])), (a1, .inl (cI, 8, .inl st)), (a2, .inl (cI, 8, .inl ua)), (a3, .inl (cI, 32, .inl wd))]) (w1 := []) (X1 := [(aB, .inr (3, [.ref aM, .ref aR, .int (nI sl), .int sv, .int iv, .int ug])), (aR, .inl (cO, n, .inr (.inr (.inr (.inr g))))), (aK, .inr (1, [.ref aC, .ref b1, .ref b2, .int (nI k), .int rk, .int (nI ra), .int rw, .int lw])), (b1, .inl (cI, 4, .inl sa)), (aC, .inr (0, [.ref aM, .int (nI wy), .ref a1, .ref a2, .ref a3, .int us])), (a1, .inl (cI, 8, .inl st)), (a2, .inl (cI, 8, .inl ua)), (a3, .inl (cI, 32, .inl wd))]) hP hD hS hA [] [0, 1, 2, 3, 4, 5, 6, 7] [0, 1, 2, 3, 4, 5, 6, 7] rfl rfl rfl (by decide) (by decide) (by decide)
    (va_runS (As := [.int (nI j)]) (rest := []) ⟨hx, hb, hml, hown, hts⟩ (c_isAddress_1 l D cI cO j (by first | assumption | omega) H.size) ⟨callB_of 1 hts g_Bus_isAddress rfl rfl rfl (hts _ iw_39) (hts _ iw_79) (by decide +kernel) ⟨by decide, by decide⟩, hts _ iw_85⟩ (mk_preS (X := [(aB, .inr (3, [.ref aM, .ref aR, .int (nI sl), .int sv, .int iv, .int ug])), (aR, .inl (cO, n, .inr (.inr (.inr (.inr g))))), (aK, .inr (1, [.ref aC, .ref b1, .ref b2, .int (nI k), .int rk, .int (nI ra), .int rw, .int lw])), (b1, .inl (cI, 4, .inl sa)), (aC, .inr (0, [.ref aM, .int (nI wy), .ref a1, .ref a2, .ref a3, .int us])), (a1, .inl (cI, 8, .inl st)), (a2, .inl (cI, 8, .inl ua)), (a3, .inl (cI, 32, .inl wd))]) (pl := []) hN hK hP hD [] (by decide) rfl) rfl rfl hl.1 rfl (lv_room (Nat.le_of_ble_eq_true rfl)) d_Bus_load_9 ⟨Nat.le_refl _, Nat.le_refl _⟩) (fun H locs hP hD hS => ?_)
  have hP : va_P D vwCl [(aB, .inr (3, [.ref aM, .ref aR, .int (nI sl), .int sv, .int iv, .int ug])), (aR, .inl (cO, n, .inr (.inr (.inr (.inr g))))), (aK, .inr (1, [.ref aC, .ref b1, .ref b2, .int (nI k), .int rk, .int (nI ra), .int rw, .int lw])), (b1, .inl (cI, 4, .inl sa)), (aC, .inr (0, [.ref aM, .int (nI wy), .ref a1, .ref a2, .ref a3, .int us])), (a1, .inl (cI, 8, .inl st)), (a2, .inl (cI, 8, .inl ua)), (a3, .inl (cI, 32, .inl wd))] H := hP
  have hD : va_D A [(aB, .inr (3, [.ref aM, .ref aR, .int (nI sl), .int sv, .int iv, .int ug])), (aR, .inl (cO, n, .inr (.inr (.inr (.inr g))))), (aK, .inr (1, [.ref aC, .ref b1, .ref b2, .int (nI k), .int rk, .int (nI ra), .int rw, .int lw])), (b1, .inl (cI, 4, .inl sa)), (aC, .inr (0, [.ref aM, .int (nI wy), .ref a1, .ref a2, .ref a3, .int us])), (a1, .inl (cI, 8, .inl st)), (a2, .inl (cI, 8, .inl ua)), (a3, .inl (cI, 32, .inl wd))] := hD
  refine lv_if_ne (tgt := 17) hx hb d_Bus_load_12 rfl (fun _ => ?_) (fun h => absurd h (by decide))
  refine lv_aload_n hx hb d_Bus_load_17 rfl (lv_at hl 0 rfl) ?_
  refine va_get (D := D) (ci := 3) (v := .ref aR) (C := R_Bus) (T := T_Bus) (N := 6) hx hb hts in_Bus hown hK hP 0 rfl rfl 1 (by decide) (hts _ iw_53) (fun _ h9 => h9) rfl d_Bus_load_18 ?_
  refine lv_iload_n hx hb d_Bus_load_21 rfl (lv_at hl 1 rfl) ?_
  refine mk_aald hx hb hK hP 1 1 rfl rfl (j := i) (b := aK) (by omega) (by omega) hg d_Bus_load_22 ?_
  refine lv_astore_n hx hb d_Bus_load_23 rfl hl (by decide) rfl (fun ls hl => ?_)
  have hl : lv_has ls 5 [(3, .ref aK), (0, .ref aB), (1, .int (nI i)), (2, .int (nI j))] := hl
  refine lv_aload_n hx hb d_Bus_load_24 rfl (lv_at hl 0 rfl) ?_
  refine mk_calli (X := [(aB, .inr (3, [.ref aM, .ref aR, .int (nI sl), .int sv, .int iv, .int ug])), (aR, .inl (cO, n, .inr (.inr (.inr (.inr g))))), (aK, .inr (1, [.ref aC, .ref b1, .ref b2, .int (nI k), .int rk, .int (nI ra), .int rw, .int lw])), (b1, .inl (cI, 4, .inl sa)), (aC, .inr (0, [.ref aM, .int (nI wy), .ref a1, .ref a2, .ref a3, .int us])), (a1, .inl (cI, 8, .inl st)), (a2, .inl (cI, 8, .inl ua)), (a3, .inl (cI, 32, .inl wd))]) (pl := []) (wc := [(aK, .inr (1, [.ref aC, .ref b1, .ref b2, .int (nI k), .int rk, .int (nI ra), .int rw, .int lw]))]) (wr := [(aB, .inr (3, [.ref aM, .ref aR, .int (nI sl), .int sv, .int iv, .int ug])), (aR, .inl (cO, n, .inr (.inr (.inr (.inr g))))), (b1, .inl (cI, 4, .inl sa)), (aC, .inr (0, [.ref aM, .int (nI wy), .ref a1, .ref a2, .ref a3, .int us])), (a1, .inl (cI, 8, .inl st)), (a2, .inl (cI, 8, .inl ua)), (a3, .inl (cI, 32, .inl wd))]) (w1 := [(aK, .inr (1, [.ref aC, .ref b1, .ref b2, .int (nI k), .int rk, .int (nI ra), .int rw, .int lw]))]) (X1 := [(aB, .inr (3, [.ref aM, .ref aR, .int (nI sl), .int sv, .int iv, .int ug])), (aR, .inl (cO, n, .inr (.inr (.inr (.inr g))))), (aK, .inr (1, [.ref aC, .ref b1, .ref b2, .int (nI k), .int rk, .int (nI ra), .int rw, .int lw])), (b1, .inl (cI, 4, .inl sa)), (aC, .inr (0, [.ref aM, .int (nI wy), .ref a1, .ref a2, .ref a3, .int us])), (a1, .inl (cI, 8, .inl st)), (a2, .inl (cI, 8, .inl ua)), (a3, .inl (cI, 32, .inl wd))]) hP hD hS hA [2] [0, 1, 3, 4, 5, 6, 7] [0, 1, 7, 2, 3, 4, 5, 6] rfl rfl rfl (by decide) (by decide) (by decide)
    (va_runVN (b := aK) (As := []) (rest := []) ⟨hx, hb, hml, hown, hts⟩ (c_waits_0 l D cI cO aK aC b1 b2 k ra rk rw lw (by first | assumption | omega) H.size) ⟨va_cnB 0 hts g_Core_waits rfl rfl rfl (hN _ in_w3) (hts _ iw_41) (by decide +kernel) ⟨by decide, by decide⟩, hts _ iw_87, hts _ iw_88⟩ (mk_preV (X := [(aB, .inr (3, [.ref aM, .ref aR, .int (nI sl), .int sv, .int iv, .int ug])), (aR, .inl (cO, n, .inr (.inr (.inr (.inr g))))), (aK, .inr (1, [.ref aC, .ref b1, .ref b2, .int (nI k), .int rk, .int (nI ra), .int rw, .int lw])), (b1, .inl (cI, 4, .inl sa)), (aC, .inr (0, [.ref aM, .int (nI wy), .ref a1, .ref a2, .ref a3, .int us])), (a1, .inl (cI, 8, .inl st)), (a2, .inl (cI, 8, .inl ua)), (a3, .inl (cI, 32, .inl wd))]) (pl := []) hN hK hP hD [2] (by decide) rfl 2 rfl rfl rfl) rfl rfl hl.1 rfl (lv_room (Nat.le_of_ble_eq_true rfl)) d_Bus_load_25 ⟨Nat.le_refl _, Nat.le_refl _⟩) (fun H locs hP hD hS => ?_)
  have hP : va_P D vwCl [(aB, .inr (3, [.ref aM, .ref aR, .int (nI sl), .int sv, .int iv, .int ug])), (aR, .inl (cO, n, .inr (.inr (.inr (.inr g))))), (aK, .inr (1, [.ref aC, .ref b1, .ref b2, .int (nI k), .int rk, .int (nI ra), .int rw, .int lw])), (b1, .inl (cI, 4, .inl sa)), (aC, .inr (0, [.ref aM, .int (nI wy), .ref a1, .ref a2, .ref a3, .int us])), (a1, .inl (cI, 8, .inl st)), (a2, .inl (cI, 8, .inl ua)), (a3, .inl (cI, 32, .inl wd))] H := hP
  have hD : va_D A [(aB, .inr (3, [.ref aM, .ref aR, .int (nI sl), .int sv, .int iv, .int ug])), (aR, .inl (cO, n, .inr (.inr (.inr (.inr g))))), (aK, .inr (1, [.ref aC, .ref b1, .ref b2, .int (nI k), .int rk, .int (nI ra), .int rw, .int lw])), (b1, .inl (cI, 4, .inl sa)), (aC, .inr (0, [.ref aM, .int (nI wy), .ref a1, .ref a2, .ref a3, .int us])), (a1, .inl (cI, 8, .inl st)), (a2, .inl (cI, 8, .inl ua)), (a3, .inl (cI, 32, .inl wd))] := hD
  refine lv_if_eq (tgt := 34) hx hb d_Bus_load_28 rfl (fun _ => ?_) (fun h => absurd (by decide) h)
  refine lv_aload_n hx hb d_Bus_load_34 rfl (lv_at hl 0 rfl) ?_
  refine lv_iload_n hx hb d_Bus_load_35 rfl (lv_at hl 3 rfl) ?_
  refine mk_calli (X := [(aB, .inr (3, [.ref aM, .ref aR, .int (nI sl), .int sv, .int iv, .int ug])), (aR, .inl (cO, n, .inr (.inr (.inr (.inr g))))), (aK, .inr (1, [.ref aC, .ref b1, .ref b2, .int (nI k), .int rk, .int (nI ra), .int rw, .int lw])), (b1, .inl (cI, 4, .inl sa)), (aC, .inr (0, [.ref aM, .int (nI wy), .ref a1, .ref a2, .ref a3, .int us])), (a1, .inl (cI, 8, .inl st)), (a2, .inl (cI, 8, .inl ua)), (a3, .inl (cI, 32, .inl wd))]) (pl := []) (wc := [(aK, .inr (1, [.ref aC, .ref b1, .ref b2, .int (nI k), .int rk, .int (nI ra), .int rw, .int lw])), (b1, .inl (cI, 4, .inl sa))]) (wr := [(aB, .inr (3, [.ref aM, .ref aR, .int (nI sl), .int sv, .int iv, .int ug])), (aR, .inl (cO, n, .inr (.inr (.inr (.inr g))))), (aC, .inr (0, [.ref aM, .int (nI wy), .ref a1, .ref a2, .ref a3, .int us])), (a1, .inl (cI, 8, .inl st)), (a2, .inl (cI, 8, .inl ua)), (a3, .inl (cI, 32, .inl wd))]) (w1 := [(aK, .inr (1, [.ref aC, .ref b1, .ref b2, .int (nI k), .int rk, .int (nI ra), .int rw, .int lw])), (b1, .inl (cI, 4, .inl sa))]) (X1 := [(aB, .inr (3, [.ref aM, .ref aR, .int (nI sl), .int sv, .int iv, .int ug])), (aR, .inl (cO, n, .inr (.inr (.inr (.inr g))))), (aK, .inr (1, [.ref aC, .ref b1, .ref b2, .int (nI k), .int rk, .int (nI ra), .int rw, .int lw])), (b1, .inl (cI, 4, .inl sa)), (aC, .inr (0, [.ref aM, .int (nI wy), .ref a1, .ref a2, .ref a3, .int us])), (a1, .inl (cI, 8, .inl st)), (a2, .inl (cI, 8, .inl ua)), (a3, .inl (cI, 32, .inl wd))]) hP hD hS hA [2, 3] [0, 1, 4, 5, 6, 7] [0, 1, 6, 7, 2, 3, 4, 5] rfl rfl rfl (by decide) (by decide) (by decide)
    (va_runVN (b := aK) (As := [.int (nI j)]) (rest := []) ⟨hx, hb, hml, hown, hts⟩ (c_newest l D cI cO aK aC b1 b2 k ra rk rw lw sa (nI j) (by first | assumption | omega) H.size) ⟨va_cnB 1 hts g_Core_newestStoreTo rfl rfl rfl (hN _ in_w4) (hts _ iw_41) (by decide +kernel) ⟨by decide, by decide⟩, hts _ iw_90, hts _ iw_91⟩ (mk_preV (X := [(aB, .inr (3, [.ref aM, .ref aR, .int (nI sl), .int sv, .int iv, .int ug])), (aR, .inl (cO, n, .inr (.inr (.inr (.inr g))))), (aK, .inr (1, [.ref aC, .ref b1, .ref b2, .int (nI k), .int rk, .int (nI ra), .int rw, .int lw])), (b1, .inl (cI, 4, .inl sa)), (aC, .inr (0, [.ref aM, .int (nI wy), .ref a1, .ref a2, .ref a3, .int us])), (a1, .inl (cI, 8, .inl st)), (a2, .inl (cI, 8, .inl ua)), (a3, .inl (cI, 32, .inl wd))]) (pl := []) hN hK hP hD [2, 3] (by decide) rfl 2 rfl rfl rfl) rfl rfl hl.1 rfl (lv_room (Nat.le_of_ble_eq_true rfl)) d_Bus_load_36 ⟨Nat.le_refl _, Nat.le_refl _⟩) (fun H locs hP hD hS => ?_)
  have hP : va_P D vwCl [(aB, .inr (3, [.ref aM, .ref aR, .int (nI sl), .int sv, .int iv, .int ug])), (aR, .inl (cO, n, .inr (.inr (.inr (.inr g))))), (aK, .inr (1, [.ref aC, .ref b1, .ref b2, .int (nI k), .int rk, .int (nI ra), .int rw, .int lw])), (b1, .inl (cI, 4, .inl sa)), (aC, .inr (0, [.ref aM, .int (nI wy), .ref a1, .ref a2, .ref a3, .int us])), (a1, .inl (cI, 8, .inl st)), (a2, .inl (cI, 8, .inl ua)), (a3, .inl (cI, 32, .inl wd))] H := hP
  have hD : va_D A [(aB, .inr (3, [.ref aM, .ref aR, .int (nI sl), .int sv, .int iv, .int ug])), (aR, .inl (cO, n, .inr (.inr (.inr (.inr g))))), (aK, .inr (1, [.ref aC, .ref b1, .ref b2, .int (nI k), .int rk, .int (nI ra), .int rw, .int lw])), (b1, .inl (cI, 4, .inl sa)), (aC, .inr (0, [.ref aM, .int (nI wy), .ref a1, .ref a2, .ref a3, .int us])), (a1, .inl (cI, 8, .inl st)), (a2, .inl (cI, 8, .inl ua)), (a3, .inl (cI, 32, .inl wd))] := hD
  refine mk_top (show _ = (-1) from by rw [hq]; rfl) ?_
  refine lv_istore hx hb d_Bus_load_39 hl (by decide) rfl (fun ls hl => ?_)
  have hl : lv_has ls 5 [(4, .int (-1)), (3, .ref aK), (0, .ref aB), (1, .int (nI i)), (2, .int (nI j))] := hl
  refine lv_iload hx hb d_Bus_load_41 (lv_at hl 0 rfl) ?_
  refine lv_iconst (v := (-1)) hx hb d_Bus_load_43 (by decide) ?_
  refine lv_icmp_eq (tgt := 60) hx hb d_Bus_load_44 rfl (fun _ => ?_) (fun h => absurd (by decide) h)
  refine lv_aload_n hx hb d_Bus_load_60 rfl (lv_at hl 1 rfl) ?_
  refine va_getN (D := D) (ci := 1) (v := .ref aC) (C := R_Core) (T := T_Core) (N := 8) hx hb hts in_Core hown hK hP 2 rfl rfl 0 (by decide) (va_Nw.use rfl (hN _ in_w7)) (fun _ h9 => h9) rfl d_Bus_load_61 ?_
  refine lv_iload_n hx hb d_Bus_load_64 rfl (lv_at hl 4 rfl) ?_
  refine mk_calli (X := [(aB, .inr (3, [.ref aM, .ref aR, .int (nI sl), .int sv, .int iv, .int ug])), (aR, .inl (cO, n, .inr (.inr (.inr (.inr g))))), (aK, .inr (1, [.ref aC, .ref b1, .ref b2, .int (nI k), .int rk, .int (nI ra), .int rw, .int lw])), (b1, .inl (cI, 4, .inl sa)), (aC, .inr (0, [.ref aM, .int (nI wy), .ref a1, .ref a2, .ref a3, .int us])), (a1, .inl (cI, 8, .inl st)), (a2, .inl (cI, 8, .inl ua)), (a3, .inl (cI, 32, .inl wd))]) (pl := []) (wc := []) (wr := [(aB, .inr (3, [.ref aM, .ref aR, .int (nI sl), .int sv, .int iv, .int ug])), (aR, .inl (cO, n, .inr (.inr (.inr (.inr g))))), (aK, .inr (1, [.ref aC, .ref b1, .ref b2, .int (nI k), .int rk, .int (nI ra), .int rw, .int lw])), (b1, .inl (cI, 4, .inl sa)), (aC, .inr (0, [.ref aM, .int (nI wy), .ref a1, .ref a2, .ref a3, .int us])), (a1, .inl (cI, 8, .inl st)), (a2, .inl (cI, 8, .inl ua)), (a3, .inl (cI, 32, .inl wd))]) (w1 := []) (X1 := [(aB, .inr (3, [.ref aM, .ref aR, .int (nI sl), .int sv, .int iv, .int ug])), (aR, .inl (cO, n, .inr (.inr (.inr (.inr g))))), (aK, .inr (1, [.ref aC, .ref b1, .ref b2, .int (nI k), .int rk, .int (nI ra), .int rw, .int lw])), (b1, .inl (cI, 4, .inl sa)), (aC, .inr (0, [.ref aM, .int (nI wy), .ref a1, .ref a2, .ref a3, .int us])), (a1, .inl (cI, 8, .inl st)), (a2, .inl (cI, 8, .inl ua)), (a3, .inl (cI, 32, .inl wd))]) hP hD hS hA [] [0, 1, 2, 3, 4, 5, 6, 7] [0, 1, 2, 3, 4, 5, 6, 7] rfl rfl rfl (by decide) (by decide) (by decide)
    (va_runS (As := [.int (nI j)]) (rest := [.ref aC]) ⟨hx, hb, hml, hown, hts⟩ (c_lineOf l D cI cO j (by first | assumption | omega) H.size) ⟨callB_of 1 hts g_Bus_lineOf rfl rfl rfl (hts _ iw_39) (hts _ iw_80) (by decide +kernel) ⟨by decide, by decide⟩, hts _ iw_94⟩ (mk_preS (X := [(aB, .inr (3, [.ref aM, .ref aR, .int (nI sl), .int sv, .int iv, .int ug])), (aR, .inl (cO, n, .inr (.inr (.inr (.inr g))))), (aK, .inr (1, [.ref aC, .ref b1, .ref b2, .int (nI k), .int rk, .int (nI ra), .int rw, .int lw])), (b1, .inl (cI, 4, .inl sa)), (aC, .inr (0, [.ref aM, .int (nI wy), .ref a1, .ref a2, .ref a3, .int us])), (a1, .inl (cI, 8, .inl st)), (a2, .inl (cI, 8, .inl ua)), (a3, .inl (cI, 32, .inl wd))]) (pl := []) hN hK hP hD [] (by decide) rfl) rfl rfl hl.1 rfl (lv_room (Nat.le_of_ble_eq_true rfl)) d_Bus_load_65 ⟨Nat.le_refl _, Nat.le_refl _⟩) (fun H locs hP hD hS => ?_)
  have hP : va_P D vwCl [(aB, .inr (3, [.ref aM, .ref aR, .int (nI sl), .int sv, .int iv, .int ug])), (aR, .inl (cO, n, .inr (.inr (.inr (.inr g))))), (aK, .inr (1, [.ref aC, .ref b1, .ref b2, .int (nI k), .int rk, .int (nI ra), .int rw, .int lw])), (b1, .inl (cI, 4, .inl sa)), (aC, .inr (0, [.ref aM, .int (nI wy), .ref a1, .ref a2, .ref a3, .int us])), (a1, .inl (cI, 8, .inl st)), (a2, .inl (cI, 8, .inl ua)), (a3, .inl (cI, 32, .inl wd))] H := hP
  have hD : va_D A [(aB, .inr (3, [.ref aM, .ref aR, .int (nI sl), .int sv, .int iv, .int ug])), (aR, .inl (cO, n, .inr (.inr (.inr (.inr g))))), (aK, .inr (1, [.ref aC, .ref b1, .ref b2, .int (nI k), .int rk, .int (nI ra), .int rw, .int lw])), (b1, .inl (cI, 4, .inl sa)), (aC, .inr (0, [.ref aM, .int (nI wy), .ref a1, .ref a2, .ref a3, .int us])), (a1, .inl (cI, 8, .inl st)), (a2, .inl (cI, 8, .inl ua)), (a3, .inl (cI, 32, .inl wd))] := hD
  refine mk_calli (X := [(aB, .inr (3, [.ref aM, .ref aR, .int (nI sl), .int sv, .int iv, .int ug])), (aR, .inl (cO, n, .inr (.inr (.inr (.inr g))))), (aK, .inr (1, [.ref aC, .ref b1, .ref b2, .int (nI k), .int rk, .int (nI ra), .int rw, .int lw])), (b1, .inl (cI, 4, .inl sa)), (aC, .inr (0, [.ref aM, .int (nI wy), .ref a1, .ref a2, .ref a3, .int us])), (a1, .inl (cI, 8, .inl st)), (a2, .inl (cI, 8, .inl ua)), (a3, .inl (cI, 32, .inl wd))]) (pl := []) (wc := [(aC, .inr (0, [.ref aM, .int (nI wy), .ref a1, .ref a2, .ref a3, .int us])), (a1, .inl (cI, 8, .inl st))]) (wr := [(aB, .inr (3, [.ref aM, .ref aR, .int (nI sl), .int sv, .int iv, .int ug])), (aR, .inl (cO, n, .inr (.inr (.inr (.inr g))))), (aK, .inr (1, [.ref aC, .ref b1, .ref b2, .int (nI k), .int rk, .int (nI ra), .int rw, .int lw])), (b1, .inl (cI, 4, .inl sa)), (a2, .inl (cI, 8, .inl ua)), (a3, .inl (cI, 32, .inl wd))]) (w1 := [(aC, .inr (0, [.ref aM, .int (nI wy), .ref a1, .ref a2, .ref a3, .int us])), (a1, .inl (cI, 8, .inl st))]) (X1 := [(aB, .inr (3, [.ref aM, .ref aR, .int (nI sl), .int sv, .int iv, .int ug])), (aR, .inl (cO, n, .inr (.inr (.inr (.inr g))))), (aK, .inr (1, [.ref aC, .ref b1, .ref b2, .int (nI k), .int rk, .int (nI ra), .int rw, .int lw])), (b1, .inl (cI, 4, .inl sa)), (aC, .inr (0, [.ref aM, .int (nI wy), .ref a1, .ref a2, .ref a3, .int us])), (a1, .inl (cI, 8, .inl st)), (a2, .inl (cI, 8, .inl ua)), (a3, .inl (cI, 32, .inl wd))]) hP hD hS hA [4, 5] [0, 1, 2, 3, 6, 7] [0, 1, 2, 3, 6, 7, 4, 5] rfl rfl rfl (by decide) (by decide) (by decide)
    (va_runVN (b := aC) (As := [.int (nI (j / 4))]) (rest := []) ⟨hx, hb, hml, hown, hts⟩ (c_holds_1 l D cI cO aC aM a1 a2 a3 wy us st (j / 4) (by omega) (by first | assumption | omega) H.size) ⟨va_cnB 1 hts g_Cache_holds rfl rfl rfl (hN _ in_w8) (hts _ iw_40) (by decide +kernel) ⟨by decide, by decide⟩, hts _ iw_96, hts _ iw_97⟩ (mk_preV (X := [(aB, .inr (3, [.ref aM, .ref aR, .int (nI sl), .int sv, .int iv, .int ug])), (aR, .inl (cO, n, .inr (.inr (.inr (.inr g))))), (aK, .inr (1, [.ref aC, .ref b1, .ref b2, .int (nI k), .int rk, .int (nI ra), .int rw, .int lw])), (b1, .inl (cI, 4, .inl sa)), (aC, .inr (0, [.ref aM, .int (nI wy), .ref a1, .ref a2, .ref a3, .int us])), (a1, .inl (cI, 8, .inl st)), (a2, .inl (cI, 8, .inl ua)), (a3, .inl (cI, 32, .inl wd))]) (pl := []) hN hK hP hD [4, 5] (by decide) rfl 4 rfl rfl rfl) rfl rfl hl.1 rfl (lv_room (Nat.le_of_ble_eq_true rfl)) d_Bus_load_68 ⟨Nat.le_refl _, Nat.le_refl _⟩) (fun H locs hP hD hS => ?_)
  have hP : va_P D vwCl [(aB, .inr (3, [.ref aM, .ref aR, .int (nI sl), .int sv, .int iv, .int ug])), (aR, .inl (cO, n, .inr (.inr (.inr (.inr g))))), (aK, .inr (1, [.ref aC, .ref b1, .ref b2, .int (nI k), .int rk, .int (nI ra), .int rw, .int lw])), (b1, .inl (cI, 4, .inl sa)), (aC, .inr (0, [.ref aM, .int (nI wy), .ref a1, .ref a2, .ref a3, .int us])), (a1, .inl (cI, 8, .inl st)), (a2, .inl (cI, 8, .inl ua)), (a3, .inl (cI, 32, .inl wd))] H := hP
  have hD : va_D A [(aB, .inr (3, [.ref aM, .ref aR, .int (nI sl), .int sv, .int iv, .int ug])), (aR, .inl (cO, n, .inr (.inr (.inr (.inr g))))), (aK, .inr (1, [.ref aC, .ref b1, .ref b2, .int (nI k), .int rk, .int (nI ra), .int rw, .int lw])), (b1, .inl (cI, 4, .inl sa)), (aC, .inr (0, [.ref aM, .int (nI wy), .ref a1, .ref a2, .ref a3, .int us])), (a1, .inl (cI, 8, .inl st)), (a2, .inl (cI, 8, .inl ua)), (a3, .inl (cI, 32, .inl wd))] := hD
  refine lv_if_eq (tgt := 100) hx hb d_Bus_load_71 rfl (fun h => absurd h (by decide)) (fun _ => ?_)
  refine lv_aload_n hx hb d_Bus_load_74 rfl (lv_at hl 1 rfl) ?_
  refine lv_aload_n hx hb d_Bus_load_75 rfl (lv_at hl 1 rfl) ?_
  refine va_getN (D := D) (ci := 1) (v := .ref aC) (C := R_Core) (T := T_Core) (N := 8) hx hb hts in_Core hown hK hP 2 rfl rfl 0 (by decide) (va_Nw.use rfl (hN _ in_w7)) (fun _ h9 => h9) rfl d_Bus_load_76 ?_
  refine va_getN (D := D) (ci := 0) (v := .ref a3) (C := R_Cache) (T := T_Cache) (N := 6) hx hb hts in_Cache hown hK hP 4 rfl rfl 4 (by decide) (va_Nw.use rfl (hN _ in_w9)) (fun _ h9 => h9) rfl d_Bus_load_79 ?_
  refine lv_iload_n hx hb d_Bus_load_82 rfl (lv_at hl 4 rfl) ?_
  refine mk_iald hx hb hK hP 7 0 rfl rfl (j := j) (by omega) (by decide) d_Bus_load_83 ?_
  refine va_putN (D := D) (ci := 1) (v := .int (wd j)) (ty := .int) (C := R_Core) (T := T_Core) (N := 8) hx hb hts in_Core ty_Core tyok_Core nm_Core hown hK hP hD hS 2 rfl rfl 7 (by decide) (va_Nw.use rfl (hN _ in_w6)) (fun _ h9 => h9) rfl (by decide +kernel) rfl rfl (Nat.le_of_ble_eq_true rfl) d_Bus_load_84 (fun H locs hP hD hS => ?_)
  have hP : va_P D vwCl [(aB, .inr (3, [.ref aM, .ref aR, .int (nI sl), .int sv, .int iv, .int ug])), (aR, .inl (cO, n, .inr (.inr (.inr (.inr g))))), (aK, .inr (1, [.ref aC, .ref b1, .ref b2, .int (nI k), .int rk, .int (nI ra), .int rw, .int (wd j)])), (b1, .inl (cI, 4, .inl sa)), (aC, .inr (0, [.ref aM, .int (nI wy), .ref a1, .ref a2, .ref a3, .int us])), (a1, .inl (cI, 8, .inl st)), (a2, .inl (cI, 8, .inl ua)), (a3, .inl (cI, 32, .inl wd))] H := hP
  have hD : va_D A [(aB, .inr (3, [.ref aM, .ref aR, .int (nI sl), .int sv, .int iv, .int ug])), (aR, .inl (cO, n, .inr (.inr (.inr (.inr g))))), (aK, .inr (1, [.ref aC, .ref b1, .ref b2, .int (nI k), .int rk, .int (nI ra), .int rw, .int (wd j)])), (b1, .inl (cI, 4, .inl sa)), (aC, .inr (0, [.ref aM, .int (nI wy), .ref a1, .ref a2, .ref a3, .int us])), (a1, .inl (cI, 8, .inl st)), (a2, .inl (cI, 8, .inl ua)), (a3, .inl (cI, 32, .inl wd))] := hD
  refine lv_aload_n hx hb d_Bus_load_87 rfl (lv_at hl 1 rfl) ?_
  refine va_getN (D := D) (ci := 1) (v := .ref aC) (C := R_Core) (T := T_Core) (N := 8) hx hb hts in_Core hown hK hP 2 rfl rfl 0 (by decide) (va_Nw.use rfl (hN _ in_w7)) (fun _ h9 => h9) rfl d_Bus_load_88 ?_
  refine lv_iload_n hx hb d_Bus_load_91 rfl (lv_at hl 4 rfl) ?_
  refine mk_calli (X := [(aB, .inr (3, [.ref aM, .ref aR, .int (nI sl), .int sv, .int iv, .int ug])), (aR, .inl (cO, n, .inr (.inr (.inr (.inr g))))), (aK, .inr (1, [.ref aC, .ref b1, .ref b2, .int (nI k), .int rk, .int (nI ra), .int rw, .int (wd j)])), (b1, .inl (cI, 4, .inl sa)), (aC, .inr (0, [.ref aM, .int (nI wy), .ref a1, .ref a2, .ref a3, .int us])), (a1, .inl (cI, 8, .inl st)), (a2, .inl (cI, 8, .inl ua)), (a3, .inl (cI, 32, .inl wd))]) (pl := []) (wc := []) (wr := [(aB, .inr (3, [.ref aM, .ref aR, .int (nI sl), .int sv, .int iv, .int ug])), (aR, .inl (cO, n, .inr (.inr (.inr (.inr g))))), (aK, .inr (1, [.ref aC, .ref b1, .ref b2, .int (nI k), .int rk, .int (nI ra), .int rw, .int (wd j)])), (b1, .inl (cI, 4, .inl sa)), (aC, .inr (0, [.ref aM, .int (nI wy), .ref a1, .ref a2, .ref a3, .int us])), (a1, .inl (cI, 8, .inl st)), (a2, .inl (cI, 8, .inl ua)), (a3, .inl (cI, 32, .inl wd))]) (w1 := []) (X1 := [(aB, .inr (3, [.ref aM, .ref aR, .int (nI sl), .int sv, .int iv, .int ug])), (aR, .inl (cO, n, .inr (.inr (.inr (.inr g))))), (aK, .inr (1, [.ref aC, .ref b1, .ref b2, .int (nI k), .int rk, .int (nI ra), .int rw, .int (wd j)])), (b1, .inl (cI, 4, .inl sa)), (aC, .inr (0, [.ref aM, .int (nI wy), .ref a1, .ref a2, .ref a3, .int us])), (a1, .inl (cI, 8, .inl st)), (a2, .inl (cI, 8, .inl ua)), (a3, .inl (cI, 32, .inl wd))]) hP hD hS hA [] [0, 1, 2, 3, 4, 5, 6, 7] [0, 1, 2, 3, 4, 5, 6, 7] rfl rfl rfl (by decide) (by decide) (by decide)
    (va_runS (As := [.int (nI j)]) (rest := [.ref aC]) ⟨hx, hb, hml, hown, hts⟩ (c_lineOf l D cI cO j (by first | assumption | omega) H.size) ⟨callB_of 1 hts g_Bus_lineOf rfl rfl rfl (hts _ iw_39) (hts _ iw_80) (by decide +kernel) ⟨by decide, by decide⟩, hts _ iw_94⟩ (mk_preS (X := [(aB, .inr (3, [.ref aM, .ref aR, .int (nI sl), .int sv, .int iv, .int ug])), (aR, .inl (cO, n, .inr (.inr (.inr (.inr g))))), (aK, .inr (1, [.ref aC, .ref b1, .ref b2, .int (nI k), .int rk, .int (nI ra), .int rw, .int (wd j)])), (b1, .inl (cI, 4, .inl sa)), (aC, .inr (0, [.ref aM, .int (nI wy), .ref a1, .ref a2, .ref a3, .int us])), (a1, .inl (cI, 8, .inl st)), (a2, .inl (cI, 8, .inl ua)), (a3, .inl (cI, 32, .inl wd))]) (pl := []) hN hK hP hD [] (by decide) rfl) rfl rfl hl.1 rfl (lv_room (Nat.le_of_ble_eq_true rfl)) d_Bus_load_92 ⟨Nat.le_refl _, Nat.le_refl _⟩) (fun H locs hP hD hS => ?_)
  have hP : va_P D vwCl [(aB, .inr (3, [.ref aM, .ref aR, .int (nI sl), .int sv, .int iv, .int ug])), (aR, .inl (cO, n, .inr (.inr (.inr (.inr g))))), (aK, .inr (1, [.ref aC, .ref b1, .ref b2, .int (nI k), .int rk, .int (nI ra), .int rw, .int (wd j)])), (b1, .inl (cI, 4, .inl sa)), (aC, .inr (0, [.ref aM, .int (nI wy), .ref a1, .ref a2, .ref a3, .int us])), (a1, .inl (cI, 8, .inl st)), (a2, .inl (cI, 8, .inl ua)), (a3, .inl (cI, 32, .inl wd))] H := hP
  have hD : va_D A [(aB, .inr (3, [.ref aM, .ref aR, .int (nI sl), .int sv, .int iv, .int ug])), (aR, .inl (cO, n, .inr (.inr (.inr (.inr g))))), (aK, .inr (1, [.ref aC, .ref b1, .ref b2, .int (nI k), .int rk, .int (nI ra), .int rw, .int (wd j)])), (b1, .inl (cI, 4, .inl sa)), (aC, .inr (0, [.ref aM, .int (nI wy), .ref a1, .ref a2, .ref a3, .int us])), (a1, .inl (cI, 8, .inl st)), (a2, .inl (cI, 8, .inl ua)), (a3, .inl (cI, 32, .inl wd))] := hD
  refine mk_callv (X := [(aB, .inr (3, [.ref aM, .ref aR, .int (nI sl), .int sv, .int iv, .int ug])), (aR, .inl (cO, n, .inr (.inr (.inr (.inr g))))), (aK, .inr (1, [.ref aC, .ref b1, .ref b2, .int (nI k), .int rk, .int (nI ra), .int rw, .int (wd j)])), (b1, .inl (cI, 4, .inl sa)), (aC, .inr (0, [.ref aM, .int (nI wy), .ref a1, .ref a2, .ref a3, .int us])), (a1, .inl (cI, 8, .inl st)), (a2, .inl (cI, 8, .inl ua)), (a3, .inl (cI, 32, .inl wd))]) (pl := []) (wc := [(aC, .inr (0, [.ref aM, .int (nI wy), .ref a1, .ref a2, .ref a3, .int us])), (a2, .inl (cI, 8, .inl ua))]) (wr := [(aB, .inr (3, [.ref aM, .ref aR, .int (nI sl), .int sv, .int iv, .int ug])), (aR, .inl (cO, n, .inr (.inr (.inr (.inr g))))), (aK, .inr (1, [.ref aC, .ref b1, .ref b2, .int (nI k), .int rk, .int (nI ra), .int rw, .int (wd j)])), (b1, .inl (cI, 4, .inl sa)), (a1, .inl (cI, 8, .inl st)), (a3, .inl (cI, 32, .inl wd))]) (w1 := [(aC, .inr (0, [.ref aM, .int (nI wy), .ref a1, .ref a2, .ref a3, .int (us + nI 1)])), (a2, .inl (cI, 8, .inl (upd ua (j / 4) (us + nI 1))))]) (X1 := [(aB, .inr (3, [.ref aM, .ref aR, .int (nI sl), .int sv, .int iv, .int ug])), (aR, .inl (cO, n, .inr (.inr (.inr (.inr g))))), (aK, .inr (1, [.ref aC, .ref b1, .ref b2, .int (nI k), .int rk, .int (nI ra), .int rw, .int (wd j)])), (b1, .inl (cI, 4, .inl sa)), (aC, .inr (0, [.ref aM, .int (nI wy), .ref a1, .ref a2, .ref a3, .int (us + nI 1)])), (a1, .inl (cI, 8, .inl st)), (a2, .inl (cI, 8, .inl (upd ua (j / 4) (us + nI 1)))), (a3, .inl (cI, 32, .inl wd))]) hP hD hS hA [4, 6] [0, 1, 2, 3, 5, 7] [0, 1, 2, 3, 6, 4, 7, 5] rfl rfl rfl (by decide) (by decide) (by decide)
    (va_runVN (b := aC) (As := [.int (nI (j / 4))]) (rest := []) ⟨hx, hb, hml, hown, hts⟩ (c_use l D cI cO aC aM a1 a2 a3 wy us ua (j / 4) (by omega) H.size) ⟨va_cnB 1 hts g_Cache_use rfl rfl rfl (hN _ in_w10) (hts _ iw_40) (by decide +kernel) ⟨by decide, by decide⟩, hts _ iw_99, hts _ iw_100⟩ (mk_preV (X := [(aB, .inr (3, [.ref aM, .ref aR, .int (nI sl), .int sv, .int iv, .int ug])), (aR, .inl (cO, n, .inr (.inr (.inr (.inr g))))), (aK, .inr (1, [.ref aC, .ref b1, .ref b2, .int (nI k), .int rk, .int (nI ra), .int rw, .int (wd j)])), (b1, .inl (cI, 4, .inl sa)), (aC, .inr (0, [.ref aM, .int (nI wy), .ref a1, .ref a2, .ref a3, .int us])), (a1, .inl (cI, 8, .inl st)), (a2, .inl (cI, 8, .inl ua)), (a3, .inl (cI, 32, .inl wd))]) (pl := []) hN hK hP hD [4, 6] (by decide) rfl 4 rfl rfl rfl) rfl rfl hl.1 rfl (lv_room (Nat.le_of_ble_eq_true rfl)) d_Bus_load_95 ⟨Nat.le_refl _, Nat.le_refl _⟩) (fun H locs hP hD hS => ?_)
  have hP : va_P D vwCl [(aB, .inr (3, [.ref aM, .ref aR, .int (nI sl), .int sv, .int iv, .int ug])), (aR, .inl (cO, n, .inr (.inr (.inr (.inr g))))), (aK, .inr (1, [.ref aC, .ref b1, .ref b2, .int (nI k), .int rk, .int (nI ra), .int rw, .int (wd j)])), (b1, .inl (cI, 4, .inl sa)), (aC, .inr (0, [.ref aM, .int (nI wy), .ref a1, .ref a2, .ref a3, .int (us + nI 1)])), (a1, .inl (cI, 8, .inl st)), (a2, .inl (cI, 8, .inl (upd ua (j / 4) (us + nI 1)))), (a3, .inl (cI, 32, .inl wd))] H := hP
  have hD : va_D A [(aB, .inr (3, [.ref aM, .ref aR, .int (nI sl), .int sv, .int iv, .int ug])), (aR, .inl (cO, n, .inr (.inr (.inr (.inr g))))), (aK, .inr (1, [.ref aC, .ref b1, .ref b2, .int (nI k), .int rk, .int (nI ra), .int rw, .int (wd j)])), (b1, .inl (cI, 4, .inl sa)), (aC, .inr (0, [.ref aM, .int (nI wy), .ref a1, .ref a2, .ref a3, .int (us + nI 1)])), (a1, .inl (cI, 8, .inl st)), (a2, .inl (cI, 8, .inl (upd ua (j / 4) (us + nI 1)))), (a3, .inl (cI, 32, .inl wd))] := hD
  refine lv_iconst (v := nI 0) hx hb d_Bus_load_98 (by decide) ?_
  exact mk_iret hx hb hr hlocks hK hP hD hS d_Bus_load_99 rfl rfl
set_option maxRecDepth 100000 in
set_option maxHeartbeats 4000000 in
theorem c_load_miss (l : Launch) (D : va_G) (cI cO : ClassId) (aB aM aR n sl : Nat) (sv iv ug : Int32) (g : Nat → Option Nat) (i : Nat) (aK aC b1 b2 k ra : Nat) (rk rw lw : Int32) (a1 a2 a3 wy : Nat) (us : Int32) (j : Nat) (sa st : Nat → Int32) (hn : n ≤ 4) (hi : i < n) (hg : g i = some aK) (hb1 : rk = 0) (hj : j < 32) (hk : k ≤ 4) (hq : cs_new sa (nI j) k = none) (hs : st (j / 4) = 0) : mk_M l y_Bus_load w_Bus_load ({ frames := 1, cells := 0, slots := 0, locals := 23 } : Room) D (tysK cI cO) [.ref aB, .int (nI i), .int (nI j)] [(aB, .inr (3, [.ref aM, .ref aR, .int (nI sl), .int sv, .int iv, .int ug])), (aR, .inl (cO, n, .inr (.inr (.inr (.inr g))))), (aK, .inr (1, [.ref aC, .ref b1, .ref b2, .int (nI k), .int rk, .int (nI ra), .int rw, .int lw])), (b1, .inl (cI, 4, .inl sa)), (aC, .inr (0, [.ref aM, .int (nI wy), .ref a1, .ref a2, .ref a3, .int us])), (a1, .inl (cI, 8, .inl st))] (mk_Qi D (tysK cI cO) (nI 1) [(aB, .inr (3, [.ref aM, .ref aR, .int (nI sl), .int sv, .int iv, .int ug])), (aR, .inl (cO, n, .inr (.inr (.inr (.inr g))))), (aK, .inr (1, [.ref aC, .ref b1, .ref b2, .int (nI k), .int (nI 1), .int (nI j), .int (nI 0), .int lw])), (b1, .inl (cI, 4, .inl sa)), (aC, .inr (0, [.ref aM, .int (nI wy), .ref a1, .ref a2, .ref a3, .int us])), (a1, .inl (cI, 8, .inl st))]) := by
  refine mk_start (cc := b_Bus_load) (maxL := 5) (ret := (some FieldType.int)) (by decide) (Nat.le_of_ble_eq_true rfl) (fun p e s m below meth c A ls H locs hx hb hml hr hlocks hnm hts hN hown hK hP hD hA hl hS => ?_)
  have hl : lv_has ls 5 [(0, .ref aB), (1, .int (nI i)), (2, .int (nI j))] := hl
  refine lv_aload_n hx hb d_Bus_load_0 rfl (lv_at hl 0 rfl) ?_
  refine lv_iload_n hx hb d_Bus_load_1 rfl (lv_at hl 1 rfl) ?_
  refine mk_calli (X := [(aB, .inr (3, [.ref aM, .ref aR, .int (nI sl), .int sv, .int iv, .int ug])), (aR, .inl (cO, n, .inr (.inr (.inr (.inr g))))), (aK, .inr (1, [.ref aC, .ref b1, .ref b2, .int (nI k), .int rk, .int (nI ra), .int rw, .int lw])), (b1, .inl (cI, 4, .inl sa)), (aC, .inr (0, [.ref aM, .int (nI wy), .ref a1, .ref a2, .ref a3, .int us])), (a1, .inl (cI, 8, .inl st))]) (pl := []) (wc := [(aB, .inr (3, [.ref aM, .ref aR, .int (nI sl), .int sv, .int iv, .int ug])), (aR, .inl (cO, n, .inr (.inr (.inr (.inr g)))))]) (wr := [(aK, .inr (1, [.ref aC, .ref b1, .ref b2, .int (nI k), .int rk, .int (nI ra), .int rw, .int lw])), (b1, .inl (cI, 4, .inl sa)), (aC, .inr (0, [.ref aM, .int (nI wy), .ref a1, .ref a2, .ref a3, .int us])), (a1, .inl (cI, 8, .inl st))]) (w1 := [(aB, .inr (3, [.ref aM, .ref aR, .int (nI sl), .int sv, .int iv, .int ug])), (aR, .inl (cO, n, .inr (.inr (.inr (.inr g)))))]) (X1 := [(aB, .inr (3, [.ref aM, .ref aR, .int (nI sl), .int sv, .int iv, .int ug])), (aR, .inl (cO, n, .inr (.inr (.inr (.inr g))))), (aK, .inr (1, [.ref aC, .ref b1, .ref b2, .int (nI k), .int rk, .int (nI ra), .int rw, .int lw])), (b1, .inl (cI, 4, .inl sa)), (aC, .inr (0, [.ref aM, .int (nI wy), .ref a1, .ref a2, .ref a3, .int us])), (a1, .inl (cI, 8, .inl st))]) hP hD hS hA [0, 1] [2, 3, 4, 5] [4, 5, 0, 1, 2, 3] rfl rfl rfl (by decide) (by decide) (by decide)
    (va_runV (b := aB) (As := [.int (nI i)]) (rest := []) ⟨hx, hb, hml, hown, hts⟩ (c_isCore_1 l D cI cO aB aM aR n sl sv iv ug g i (by first | assumption | omega) (by first | assumption | omega) H.size) ⟨callB_of 1 hts g_Bus_isCore rfl rfl rfl (hts _ iw_39) (hts _ iw_78) (by decide +kernel) ⟨by decide, by decide⟩, hts _ iw_82, hts _ iw_83⟩ (mk_preV (X := [(aB, .inr (3, [.ref aM, .ref aR, .int (nI sl), .int sv, .int iv, .int ug])), (aR, .inl (cO, n, .inr (.inr (.inr (.inr g))))), (aK, .inr (1, [.ref aC, .ref b1, .ref b2, .int (nI k), .int rk, .int (nI ra), .int rw, .int lw])), (b1, .inl (cI, 4, .inl sa)), (aC, .inr (0, [.ref aM, .int (nI wy), .ref a1, .ref a2, .ref a3, .int us])), (a1, .inl (cI, 8, .inl st))]) (pl := []) hN hK hP hD [0, 1] (by decide) rfl 0 rfl rfl rfl) rfl rfl hl.1 rfl (lv_room (Nat.le_of_ble_eq_true rfl)) d_Bus_load_2 ⟨Nat.le_refl _, Nat.le_refl _⟩) (fun H locs hP hD hS => ?_)
  have hP : va_P D vwCl [(aB, .inr (3, [.ref aM, .ref aR, .int (nI sl), .int sv, .int iv, .int ug])), (aR, .inl (cO, n, .inr (.inr (.inr (.inr g))))), (aK, .inr (1, [.ref aC, .ref b1, .ref b2, .int (nI k), .int rk, .int (nI ra), .int rw, .int lw])), (b1, .inl (cI, 4, .inl sa)), (aC, .inr (0, [.ref aM, .int (nI wy), .ref a1, .ref a2, .ref a3, .int us])), (a1, .inl (cI, 8, .inl st))] H := hP
  have hD : va_D A [(aB, .inr (3, [.ref aM, .ref aR, .int (nI sl), .int sv, .int iv, .int ug])), (aR, .inl (cO, n, .inr (.inr (.inr (.inr g))))), (aK, .inr (1, [.ref aC, .ref b1, .ref b2, .int (nI k), .int rk, .int (nI ra), .int rw, .int lw])), (b1, .inl (cI, 4, .inl sa)), (aC, .inr (0, [.ref aM, .int (nI wy), .ref a1, .ref a2, .ref a3, .int us])), (a1, .inl (cI, 8, .inl st))] := hD
  refine lv_if_eq (tgt := 15) hx hb d_Bus_load_5 rfl (fun h => absurd h (by decide)) (fun _ => ?_)
  refine lv_iload_n hx hb d_Bus_load_8 rfl (lv_at hl 2 rfl) ?_
  refine mk_calli (X := [(aB, .inr (3, [.ref aM, .ref aR, .int (nI sl), .int sv, .int iv, .int ug])), (aR, .inl (cO, n, .inr (.inr (.inr (.inr g))))), (aK, .inr (1, [.ref aC, .ref b1, .ref b2, .int (nI k), .int rk, .int (nI ra), .int rw, .int lw])), (b1, .inl (cI, 4, .inl sa)), (aC, .inr (0, [.ref aM, .int (nI wy), .ref a1, .ref a2, .ref a3, .int us])), (a1, .inl (cI, 8, .inl st))]) (pl := []) (wc := []) (wr := [(aB, .inr (3, [.ref aM, .ref aR, .int (nI sl), .int sv, .int iv, .int ug])), (aR, .inl (cO, n, .inr (.inr (.inr (.inr g))))), (aK, .inr (1, [.ref aC, .ref b1, .ref b2, .int (nI k), .int rk, .int (nI ra), .int rw, .int lw])), (b1, .inl (cI, 4, .inl sa)), (aC, .inr (0, [.ref aM, .int (nI wy), .ref a1, .ref a2, .ref a3, .int us])), (a1, .inl (cI, 8, .inl st))]) (w1 := []) (X1 := [(aB, .inr (3, [.ref aM, .ref aR, .int (nI sl), .int sv, .int iv, .int ug])), (aR, .inl (cO, n, .inr (.inr (.inr (.inr g))))), (aK, .inr (1, [.ref aC, .ref b1, .ref b2, .int (nI k), .int rk, .int (nI ra), .int rw, .int lw])), (b1, .inl (cI, 4, .inl sa)), (aC, .inr (0, [.ref aM, .int (nI wy), .ref a1, .ref a2, .ref a3, .int us])), (a1, .inl (cI, 8, .inl st))]) hP hD hS hA [] [0, 1, 2, 3, 4, 5] [0, 1, 2, 3, 4, 5] rfl rfl rfl (by decide) (by decide) (by decide)
    (va_runS (As := [.int (nI j)]) (rest := []) ⟨hx, hb, hml, hown, hts⟩ (c_isAddress_1 l D cI cO j (by first | assumption | omega) H.size) ⟨callB_of 1 hts g_Bus_isAddress rfl rfl rfl (hts _ iw_39) (hts _ iw_79) (by decide +kernel) ⟨by decide, by decide⟩, hts _ iw_85⟩ (mk_preS (X := [(aB, .inr (3, [.ref aM, .ref aR, .int (nI sl), .int sv, .int iv, .int ug])), (aR, .inl (cO, n, .inr (.inr (.inr (.inr g))))), (aK, .inr (1, [.ref aC, .ref b1, .ref b2, .int (nI k), .int rk, .int (nI ra), .int rw, .int lw])), (b1, .inl (cI, 4, .inl sa)), (aC, .inr (0, [.ref aM, .int (nI wy), .ref a1, .ref a2, .ref a3, .int us])), (a1, .inl (cI, 8, .inl st))]) (pl := []) hN hK hP hD [] (by decide) rfl) rfl rfl hl.1 rfl (lv_room (Nat.le_of_ble_eq_true rfl)) d_Bus_load_9 ⟨Nat.le_refl _, Nat.le_refl _⟩) (fun H locs hP hD hS => ?_)
  have hP : va_P D vwCl [(aB, .inr (3, [.ref aM, .ref aR, .int (nI sl), .int sv, .int iv, .int ug])), (aR, .inl (cO, n, .inr (.inr (.inr (.inr g))))), (aK, .inr (1, [.ref aC, .ref b1, .ref b2, .int (nI k), .int rk, .int (nI ra), .int rw, .int lw])), (b1, .inl (cI, 4, .inl sa)), (aC, .inr (0, [.ref aM, .int (nI wy), .ref a1, .ref a2, .ref a3, .int us])), (a1, .inl (cI, 8, .inl st))] H := hP
  have hD : va_D A [(aB, .inr (3, [.ref aM, .ref aR, .int (nI sl), .int sv, .int iv, .int ug])), (aR, .inl (cO, n, .inr (.inr (.inr (.inr g))))), (aK, .inr (1, [.ref aC, .ref b1, .ref b2, .int (nI k), .int rk, .int (nI ra), .int rw, .int lw])), (b1, .inl (cI, 4, .inl sa)), (aC, .inr (0, [.ref aM, .int (nI wy), .ref a1, .ref a2, .ref a3, .int us])), (a1, .inl (cI, 8, .inl st))] := hD
  refine lv_if_ne (tgt := 17) hx hb d_Bus_load_12 rfl (fun _ => ?_) (fun h => absurd h (by decide))
  refine lv_aload_n hx hb d_Bus_load_17 rfl (lv_at hl 0 rfl) ?_
  refine va_get (D := D) (ci := 3) (v := .ref aR) (C := R_Bus) (T := T_Bus) (N := 6) hx hb hts in_Bus hown hK hP 0 rfl rfl 1 (by decide) (hts _ iw_53) (fun _ h9 => h9) rfl d_Bus_load_18 ?_
  refine lv_iload_n hx hb d_Bus_load_21 rfl (lv_at hl 1 rfl) ?_
  refine mk_aald hx hb hK hP 1 1 rfl rfl (j := i) (b := aK) (by omega) (by omega) hg d_Bus_load_22 ?_
  refine lv_astore_n hx hb d_Bus_load_23 rfl hl (by decide) rfl (fun ls hl => ?_)
  have hl : lv_has ls 5 [(3, .ref aK), (0, .ref aB), (1, .int (nI i)), (2, .int (nI j))] := hl
  refine lv_aload_n hx hb d_Bus_load_24 rfl (lv_at hl 0 rfl) ?_
  refine mk_calli (X := [(aB, .inr (3, [.ref aM, .ref aR, .int (nI sl), .int sv, .int iv, .int ug])), (aR, .inl (cO, n, .inr (.inr (.inr (.inr g))))), (aK, .inr (1, [.ref aC, .ref b1, .ref b2, .int (nI k), .int rk, .int (nI ra), .int rw, .int lw])), (b1, .inl (cI, 4, .inl sa)), (aC, .inr (0, [.ref aM, .int (nI wy), .ref a1, .ref a2, .ref a3, .int us])), (a1, .inl (cI, 8, .inl st))]) (pl := []) (wc := [(aK, .inr (1, [.ref aC, .ref b1, .ref b2, .int (nI k), .int rk, .int (nI ra), .int rw, .int lw]))]) (wr := [(aB, .inr (3, [.ref aM, .ref aR, .int (nI sl), .int sv, .int iv, .int ug])), (aR, .inl (cO, n, .inr (.inr (.inr (.inr g))))), (b1, .inl (cI, 4, .inl sa)), (aC, .inr (0, [.ref aM, .int (nI wy), .ref a1, .ref a2, .ref a3, .int us])), (a1, .inl (cI, 8, .inl st))]) (w1 := [(aK, .inr (1, [.ref aC, .ref b1, .ref b2, .int (nI k), .int rk, .int (nI ra), .int rw, .int lw]))]) (X1 := [(aB, .inr (3, [.ref aM, .ref aR, .int (nI sl), .int sv, .int iv, .int ug])), (aR, .inl (cO, n, .inr (.inr (.inr (.inr g))))), (aK, .inr (1, [.ref aC, .ref b1, .ref b2, .int (nI k), .int rk, .int (nI ra), .int rw, .int lw])), (b1, .inl (cI, 4, .inl sa)), (aC, .inr (0, [.ref aM, .int (nI wy), .ref a1, .ref a2, .ref a3, .int us])), (a1, .inl (cI, 8, .inl st))]) hP hD hS hA [2] [0, 1, 3, 4, 5] [0, 1, 5, 2, 3, 4] rfl rfl rfl (by decide) (by decide) (by decide)
    (va_runVN (b := aK) (As := []) (rest := []) ⟨hx, hb, hml, hown, hts⟩ (c_waits_0 l D cI cO aK aC b1 b2 k ra rk rw lw (by first | assumption | omega) H.size) ⟨va_cnB 0 hts g_Core_waits rfl rfl rfl (hN _ in_w3) (hts _ iw_41) (by decide +kernel) ⟨by decide, by decide⟩, hts _ iw_87, hts _ iw_88⟩ (mk_preV (X := [(aB, .inr (3, [.ref aM, .ref aR, .int (nI sl), .int sv, .int iv, .int ug])), (aR, .inl (cO, n, .inr (.inr (.inr (.inr g))))), (aK, .inr (1, [.ref aC, .ref b1, .ref b2, .int (nI k), .int rk, .int (nI ra), .int rw, .int lw])), (b1, .inl (cI, 4, .inl sa)), (aC, .inr (0, [.ref aM, .int (nI wy), .ref a1, .ref a2, .ref a3, .int us])), (a1, .inl (cI, 8, .inl st))]) (pl := []) hN hK hP hD [2] (by decide) rfl 2 rfl rfl rfl) rfl rfl hl.1 rfl (lv_room (Nat.le_of_ble_eq_true rfl)) d_Bus_load_25 ⟨Nat.le_refl _, Nat.le_refl _⟩) (fun H locs hP hD hS => ?_)
  have hP : va_P D vwCl [(aB, .inr (3, [.ref aM, .ref aR, .int (nI sl), .int sv, .int iv, .int ug])), (aR, .inl (cO, n, .inr (.inr (.inr (.inr g))))), (aK, .inr (1, [.ref aC, .ref b1, .ref b2, .int (nI k), .int rk, .int (nI ra), .int rw, .int lw])), (b1, .inl (cI, 4, .inl sa)), (aC, .inr (0, [.ref aM, .int (nI wy), .ref a1, .ref a2, .ref a3, .int us])), (a1, .inl (cI, 8, .inl st))] H := hP
  have hD : va_D A [(aB, .inr (3, [.ref aM, .ref aR, .int (nI sl), .int sv, .int iv, .int ug])), (aR, .inl (cO, n, .inr (.inr (.inr (.inr g))))), (aK, .inr (1, [.ref aC, .ref b1, .ref b2, .int (nI k), .int rk, .int (nI ra), .int rw, .int lw])), (b1, .inl (cI, 4, .inl sa)), (aC, .inr (0, [.ref aM, .int (nI wy), .ref a1, .ref a2, .ref a3, .int us])), (a1, .inl (cI, 8, .inl st))] := hD
  refine lv_if_eq (tgt := 34) hx hb d_Bus_load_28 rfl (fun _ => ?_) (fun h => absurd (by decide) h)
  refine lv_aload_n hx hb d_Bus_load_34 rfl (lv_at hl 0 rfl) ?_
  refine lv_iload_n hx hb d_Bus_load_35 rfl (lv_at hl 3 rfl) ?_
  refine mk_calli (X := [(aB, .inr (3, [.ref aM, .ref aR, .int (nI sl), .int sv, .int iv, .int ug])), (aR, .inl (cO, n, .inr (.inr (.inr (.inr g))))), (aK, .inr (1, [.ref aC, .ref b1, .ref b2, .int (nI k), .int rk, .int (nI ra), .int rw, .int lw])), (b1, .inl (cI, 4, .inl sa)), (aC, .inr (0, [.ref aM, .int (nI wy), .ref a1, .ref a2, .ref a3, .int us])), (a1, .inl (cI, 8, .inl st))]) (pl := []) (wc := [(aK, .inr (1, [.ref aC, .ref b1, .ref b2, .int (nI k), .int rk, .int (nI ra), .int rw, .int lw])), (b1, .inl (cI, 4, .inl sa))]) (wr := [(aB, .inr (3, [.ref aM, .ref aR, .int (nI sl), .int sv, .int iv, .int ug])), (aR, .inl (cO, n, .inr (.inr (.inr (.inr g))))), (aC, .inr (0, [.ref aM, .int (nI wy), .ref a1, .ref a2, .ref a3, .int us])), (a1, .inl (cI, 8, .inl st))]) (w1 := [(aK, .inr (1, [.ref aC, .ref b1, .ref b2, .int (nI k), .int rk, .int (nI ra), .int rw, .int lw])), (b1, .inl (cI, 4, .inl sa))]) (X1 := [(aB, .inr (3, [.ref aM, .ref aR, .int (nI sl), .int sv, .int iv, .int ug])), (aR, .inl (cO, n, .inr (.inr (.inr (.inr g))))), (aK, .inr (1, [.ref aC, .ref b1, .ref b2, .int (nI k), .int rk, .int (nI ra), .int rw, .int lw])), (b1, .inl (cI, 4, .inl sa)), (aC, .inr (0, [.ref aM, .int (nI wy), .ref a1, .ref a2, .ref a3, .int us])), (a1, .inl (cI, 8, .inl st))]) hP hD hS hA [2, 3] [0, 1, 4, 5] [0, 1, 4, 5, 2, 3] rfl rfl rfl (by decide) (by decide) (by decide)
    (va_runVN (b := aK) (As := [.int (nI j)]) (rest := []) ⟨hx, hb, hml, hown, hts⟩ (c_newest l D cI cO aK aC b1 b2 k ra rk rw lw sa (nI j) (by first | assumption | omega) H.size) ⟨va_cnB 1 hts g_Core_newestStoreTo rfl rfl rfl (hN _ in_w4) (hts _ iw_41) (by decide +kernel) ⟨by decide, by decide⟩, hts _ iw_90, hts _ iw_91⟩ (mk_preV (X := [(aB, .inr (3, [.ref aM, .ref aR, .int (nI sl), .int sv, .int iv, .int ug])), (aR, .inl (cO, n, .inr (.inr (.inr (.inr g))))), (aK, .inr (1, [.ref aC, .ref b1, .ref b2, .int (nI k), .int rk, .int (nI ra), .int rw, .int lw])), (b1, .inl (cI, 4, .inl sa)), (aC, .inr (0, [.ref aM, .int (nI wy), .ref a1, .ref a2, .ref a3, .int us])), (a1, .inl (cI, 8, .inl st))]) (pl := []) hN hK hP hD [2, 3] (by decide) rfl 2 rfl rfl rfl) rfl rfl hl.1 rfl (lv_room (Nat.le_of_ble_eq_true rfl)) d_Bus_load_36 ⟨Nat.le_refl _, Nat.le_refl _⟩) (fun H locs hP hD hS => ?_)
  have hP : va_P D vwCl [(aB, .inr (3, [.ref aM, .ref aR, .int (nI sl), .int sv, .int iv, .int ug])), (aR, .inl (cO, n, .inr (.inr (.inr (.inr g))))), (aK, .inr (1, [.ref aC, .ref b1, .ref b2, .int (nI k), .int rk, .int (nI ra), .int rw, .int lw])), (b1, .inl (cI, 4, .inl sa)), (aC, .inr (0, [.ref aM, .int (nI wy), .ref a1, .ref a2, .ref a3, .int us])), (a1, .inl (cI, 8, .inl st))] H := hP
  have hD : va_D A [(aB, .inr (3, [.ref aM, .ref aR, .int (nI sl), .int sv, .int iv, .int ug])), (aR, .inl (cO, n, .inr (.inr (.inr (.inr g))))), (aK, .inr (1, [.ref aC, .ref b1, .ref b2, .int (nI k), .int rk, .int (nI ra), .int rw, .int lw])), (b1, .inl (cI, 4, .inl sa)), (aC, .inr (0, [.ref aM, .int (nI wy), .ref a1, .ref a2, .ref a3, .int us])), (a1, .inl (cI, 8, .inl st))] := hD
  refine mk_top (show _ = (-1) from by rw [hq]; rfl) ?_
  refine lv_istore hx hb d_Bus_load_39 hl (by decide) rfl (fun ls hl => ?_)
  have hl : lv_has ls 5 [(4, .int (-1)), (3, .ref aK), (0, .ref aB), (1, .int (nI i)), (2, .int (nI j))] := hl
  refine lv_iload hx hb d_Bus_load_41 (lv_at hl 0 rfl) ?_
  refine lv_iconst (v := (-1)) hx hb d_Bus_load_43 (by decide) ?_
  refine lv_icmp_eq (tgt := 60) hx hb d_Bus_load_44 rfl (fun _ => ?_) (fun h => absurd (by decide) h)
  refine lv_aload_n hx hb d_Bus_load_60 rfl (lv_at hl 1 rfl) ?_
  refine va_getN (D := D) (ci := 1) (v := .ref aC) (C := R_Core) (T := T_Core) (N := 8) hx hb hts in_Core hown hK hP 2 rfl rfl 0 (by decide) (va_Nw.use rfl (hN _ in_w7)) (fun _ h9 => h9) rfl d_Bus_load_61 ?_
  refine lv_iload_n hx hb d_Bus_load_64 rfl (lv_at hl 4 rfl) ?_
  refine mk_calli (X := [(aB, .inr (3, [.ref aM, .ref aR, .int (nI sl), .int sv, .int iv, .int ug])), (aR, .inl (cO, n, .inr (.inr (.inr (.inr g))))), (aK, .inr (1, [.ref aC, .ref b1, .ref b2, .int (nI k), .int rk, .int (nI ra), .int rw, .int lw])), (b1, .inl (cI, 4, .inl sa)), (aC, .inr (0, [.ref aM, .int (nI wy), .ref a1, .ref a2, .ref a3, .int us])), (a1, .inl (cI, 8, .inl st))]) (pl := []) (wc := []) (wr := [(aB, .inr (3, [.ref aM, .ref aR, .int (nI sl), .int sv, .int iv, .int ug])), (aR, .inl (cO, n, .inr (.inr (.inr (.inr g))))), (aK, .inr (1, [.ref aC, .ref b1, .ref b2, .int (nI k), .int rk, .int (nI ra), .int rw, .int lw])), (b1, .inl (cI, 4, .inl sa)), (aC, .inr (0, [.ref aM, .int (nI wy), .ref a1, .ref a2, .ref a3, .int us])), (a1, .inl (cI, 8, .inl st))]) (w1 := []) (X1 := [(aB, .inr (3, [.ref aM, .ref aR, .int (nI sl), .int sv, .int iv, .int ug])), (aR, .inl (cO, n, .inr (.inr (.inr (.inr g))))), (aK, .inr (1, [.ref aC, .ref b1, .ref b2, .int (nI k), .int rk, .int (nI ra), .int rw, .int lw])), (b1, .inl (cI, 4, .inl sa)), (aC, .inr (0, [.ref aM, .int (nI wy), .ref a1, .ref a2, .ref a3, .int us])), (a1, .inl (cI, 8, .inl st))]) hP hD hS hA [] [0, 1, 2, 3, 4, 5] [0, 1, 2, 3, 4, 5] rfl rfl rfl (by decide) (by decide) (by decide)
    (va_runS (As := [.int (nI j)]) (rest := [.ref aC]) ⟨hx, hb, hml, hown, hts⟩ (c_lineOf l D cI cO j (by first | assumption | omega) H.size) ⟨callB_of 1 hts g_Bus_lineOf rfl rfl rfl (hts _ iw_39) (hts _ iw_80) (by decide +kernel) ⟨by decide, by decide⟩, hts _ iw_94⟩ (mk_preS (X := [(aB, .inr (3, [.ref aM, .ref aR, .int (nI sl), .int sv, .int iv, .int ug])), (aR, .inl (cO, n, .inr (.inr (.inr (.inr g))))), (aK, .inr (1, [.ref aC, .ref b1, .ref b2, .int (nI k), .int rk, .int (nI ra), .int rw, .int lw])), (b1, .inl (cI, 4, .inl sa)), (aC, .inr (0, [.ref aM, .int (nI wy), .ref a1, .ref a2, .ref a3, .int us])), (a1, .inl (cI, 8, .inl st))]) (pl := []) hN hK hP hD [] (by decide) rfl) rfl rfl hl.1 rfl (lv_room (Nat.le_of_ble_eq_true rfl)) d_Bus_load_65 ⟨Nat.le_refl _, Nat.le_refl _⟩) (fun H locs hP hD hS => ?_)
  have hP : va_P D vwCl [(aB, .inr (3, [.ref aM, .ref aR, .int (nI sl), .int sv, .int iv, .int ug])), (aR, .inl (cO, n, .inr (.inr (.inr (.inr g))))), (aK, .inr (1, [.ref aC, .ref b1, .ref b2, .int (nI k), .int rk, .int (nI ra), .int rw, .int lw])), (b1, .inl (cI, 4, .inl sa)), (aC, .inr (0, [.ref aM, .int (nI wy), .ref a1, .ref a2, .ref a3, .int us])), (a1, .inl (cI, 8, .inl st))] H := hP
  have hD : va_D A [(aB, .inr (3, [.ref aM, .ref aR, .int (nI sl), .int sv, .int iv, .int ug])), (aR, .inl (cO, n, .inr (.inr (.inr (.inr g))))), (aK, .inr (1, [.ref aC, .ref b1, .ref b2, .int (nI k), .int rk, .int (nI ra), .int rw, .int lw])), (b1, .inl (cI, 4, .inl sa)), (aC, .inr (0, [.ref aM, .int (nI wy), .ref a1, .ref a2, .ref a3, .int us])), (a1, .inl (cI, 8, .inl st))] := hD
  refine mk_calli (X := [(aB, .inr (3, [.ref aM, .ref aR, .int (nI sl), .int sv, .int iv, .int ug])), (aR, .inl (cO, n, .inr (.inr (.inr (.inr g))))), (aK, .inr (1, [.ref aC, .ref b1, .ref b2, .int (nI k), .int rk, .int (nI ra), .int rw, .int lw])), (b1, .inl (cI, 4, .inl sa)), (aC, .inr (0, [.ref aM, .int (nI wy), .ref a1, .ref a2, .ref a3, .int us])), (a1, .inl (cI, 8, .inl st))]) (pl := []) (wc := [(aC, .inr (0, [.ref aM, .int (nI wy), .ref a1, .ref a2, .ref a3, .int us])), (a1, .inl (cI, 8, .inl st))]) (wr := [(aB, .inr (3, [.ref aM, .ref aR, .int (nI sl), .int sv, .int iv, .int ug])), (aR, .inl (cO, n, .inr (.inr (.inr (.inr g))))), (aK, .inr (1, [.ref aC, .ref b1, .ref b2, .int (nI k), .int rk, .int (nI ra), .int rw, .int lw])), (b1, .inl (cI, 4, .inl sa))]) (w1 := [(aC, .inr (0, [.ref aM, .int (nI wy), .ref a1, .ref a2, .ref a3, .int us])), (a1, .inl (cI, 8, .inl st))]) (X1 := [(aB, .inr (3, [.ref aM, .ref aR, .int (nI sl), .int sv, .int iv, .int ug])), (aR, .inl (cO, n, .inr (.inr (.inr (.inr g))))), (aK, .inr (1, [.ref aC, .ref b1, .ref b2, .int (nI k), .int rk, .int (nI ra), .int rw, .int lw])), (b1, .inl (cI, 4, .inl sa)), (aC, .inr (0, [.ref aM, .int (nI wy), .ref a1, .ref a2, .ref a3, .int us])), (a1, .inl (cI, 8, .inl st))]) hP hD hS hA [4, 5] [0, 1, 2, 3] [0, 1, 2, 3, 4, 5] rfl rfl rfl (by decide) (by decide) (by decide)
    (va_runVN (b := aC) (As := [.int (nI (j / 4))]) (rest := []) ⟨hx, hb, hml, hown, hts⟩ (c_holds_0 l D cI cO aC aM a1 a2 a3 wy us st (j / 4) (by omega) (by first | assumption | omega) H.size) ⟨va_cnB 1 hts g_Cache_holds rfl rfl rfl (hN _ in_w8) (hts _ iw_40) (by decide +kernel) ⟨by decide, by decide⟩, hts _ iw_96, hts _ iw_97⟩ (mk_preV (X := [(aB, .inr (3, [.ref aM, .ref aR, .int (nI sl), .int sv, .int iv, .int ug])), (aR, .inl (cO, n, .inr (.inr (.inr (.inr g))))), (aK, .inr (1, [.ref aC, .ref b1, .ref b2, .int (nI k), .int rk, .int (nI ra), .int rw, .int lw])), (b1, .inl (cI, 4, .inl sa)), (aC, .inr (0, [.ref aM, .int (nI wy), .ref a1, .ref a2, .ref a3, .int us])), (a1, .inl (cI, 8, .inl st))]) (pl := []) hN hK hP hD [4, 5] (by decide) rfl 4 rfl rfl rfl) rfl rfl hl.1 rfl (lv_room (Nat.le_of_ble_eq_true rfl)) d_Bus_load_68 ⟨Nat.le_refl _, Nat.le_refl _⟩) (fun H locs hP hD hS => ?_)
  have hP : va_P D vwCl [(aB, .inr (3, [.ref aM, .ref aR, .int (nI sl), .int sv, .int iv, .int ug])), (aR, .inl (cO, n, .inr (.inr (.inr (.inr g))))), (aK, .inr (1, [.ref aC, .ref b1, .ref b2, .int (nI k), .int rk, .int (nI ra), .int rw, .int lw])), (b1, .inl (cI, 4, .inl sa)), (aC, .inr (0, [.ref aM, .int (nI wy), .ref a1, .ref a2, .ref a3, .int us])), (a1, .inl (cI, 8, .inl st))] H := hP
  have hD : va_D A [(aB, .inr (3, [.ref aM, .ref aR, .int (nI sl), .int sv, .int iv, .int ug])), (aR, .inl (cO, n, .inr (.inr (.inr (.inr g))))), (aK, .inr (1, [.ref aC, .ref b1, .ref b2, .int (nI k), .int rk, .int (nI ra), .int rw, .int lw])), (b1, .inl (cI, 4, .inl sa)), (aC, .inr (0, [.ref aM, .int (nI wy), .ref a1, .ref a2, .ref a3, .int us])), (a1, .inl (cI, 8, .inl st))] := hD
  refine lv_if_eq (tgt := 100) hx hb d_Bus_load_71 rfl (fun _ => ?_) (fun h => absurd (by decide) h)
  refine lv_aload_n hx hb d_Bus_load_100 rfl (lv_at hl 1 rfl) ?_
  refine lv_iconst (v := nI 1) hx hb d_Bus_load_101 (by decide) ?_
  refine lv_iload_n hx hb d_Bus_load_102 rfl (lv_at hl 4 rfl) ?_
  refine lv_iconst (v := nI 0) hx hb d_Bus_load_103 (by decide) ?_
  refine mk_callv (X := [(aB, .inr (3, [.ref aM, .ref aR, .int (nI sl), .int sv, .int iv, .int ug])), (aR, .inl (cO, n, .inr (.inr (.inr (.inr g))))), (aK, .inr (1, [.ref aC, .ref b1, .ref b2, .int (nI k), .int rk, .int (nI ra), .int rw, .int lw])), (b1, .inl (cI, 4, .inl sa)), (aC, .inr (0, [.ref aM, .int (nI wy), .ref a1, .ref a2, .ref a3, .int us])), (a1, .inl (cI, 8, .inl st))]) (pl := []) (wc := [(aK, .inr (1, [.ref aC, .ref b1, .ref b2, .int (nI k), .int rk, .int (nI ra), .int rw, .int lw]))]) (wr := [(aB, .inr (3, [.ref aM, .ref aR, .int (nI sl), .int sv, .int iv, .int ug])), (aR, .inl (cO, n, .inr (.inr (.inr (.inr g))))), (b1, .inl (cI, 4, .inl sa)), (aC, .inr (0, [.ref aM, .int (nI wy), .ref a1, .ref a2, .ref a3, .int us])), (a1, .inl (cI, 8, .inl st))]) (w1 := [(aK, .inr (1, [.ref aC, .ref b1, .ref b2, .int (nI k), .int (nI 1), .int (nI j), .int (nI 0), .int lw]))]) (X1 := [(aB, .inr (3, [.ref aM, .ref aR, .int (nI sl), .int sv, .int iv, .int ug])), (aR, .inl (cO, n, .inr (.inr (.inr (.inr g))))), (aK, .inr (1, [.ref aC, .ref b1, .ref b2, .int (nI k), .int (nI 1), .int (nI j), .int (nI 0), .int lw])), (b1, .inl (cI, 4, .inl sa)), (aC, .inr (0, [.ref aM, .int (nI wy), .ref a1, .ref a2, .ref a3, .int us])), (a1, .inl (cI, 8, .inl st))]) hP hD hS hA [2] [0, 1, 3, 4, 5] [0, 1, 5, 2, 3, 4] rfl rfl rfl (by decide) (by decide) (by decide)
    (va_runVN (b := aK) (As := [.int (nI 1), .int (nI j), .int (nI 0)]) (rest := []) ⟨hx, hb, hml, hown, hts⟩ (c_ask l D cI cO aK aC b1 b2 k ra rk rw lw (nI 1) j (nI 0) H.size) ⟨va_cnB 3 hts g_Core_ask rfl rfl rfl (hN _ in_w11) (hts _ iw_41) (by decide +kernel) ⟨by decide, by decide⟩, hts _ iw_103, hts _ iw_104⟩ (mk_preV (X := [(aB, .inr (3, [.ref aM, .ref aR, .int (nI sl), .int sv, .int iv, .int ug])), (aR, .inl (cO, n, .inr (.inr (.inr (.inr g))))), (aK, .inr (1, [.ref aC, .ref b1, .ref b2, .int (nI k), .int rk, .int (nI ra), .int rw, .int lw])), (b1, .inl (cI, 4, .inl sa)), (aC, .inr (0, [.ref aM, .int (nI wy), .ref a1, .ref a2, .ref a3, .int us])), (a1, .inl (cI, 8, .inl st))]) (pl := []) hN hK hP hD [2] (by decide) rfl 2 rfl rfl rfl) rfl rfl hl.1 rfl (lv_room (Nat.le_of_ble_eq_true rfl)) d_Bus_load_104 ⟨Nat.le_refl _, Nat.le_refl _⟩) (fun H locs hP hD hS => ?_)
  have hP : va_P D vwCl [(aB, .inr (3, [.ref aM, .ref aR, .int (nI sl), .int sv, .int iv, .int ug])), (aR, .inl (cO, n, .inr (.inr (.inr (.inr g))))), (aK, .inr (1, [.ref aC, .ref b1, .ref b2, .int (nI k), .int (nI 1), .int (nI j), .int (nI 0), .int lw])), (b1, .inl (cI, 4, .inl sa)), (aC, .inr (0, [.ref aM, .int (nI wy), .ref a1, .ref a2, .ref a3, .int us])), (a1, .inl (cI, 8, .inl st))] H := hP
  have hD : va_D A [(aB, .inr (3, [.ref aM, .ref aR, .int (nI sl), .int sv, .int iv, .int ug])), (aR, .inl (cO, n, .inr (.inr (.inr (.inr g))))), (aK, .inr (1, [.ref aC, .ref b1, .ref b2, .int (nI k), .int (nI 1), .int (nI j), .int (nI 0), .int lw])), (b1, .inl (cI, 4, .inl sa)), (aC, .inr (0, [.ref aM, .int (nI wy), .ref a1, .ref a2, .ref a3, .int us])), (a1, .inl (cI, 8, .inl st))] := hD
  refine lv_iconst (v := nI 1) hx hb d_Bus_load_107 (by decide) ?_
  exact mk_iret hx hb hr hlocks hK hP hD hS d_Bus_load_108 rfl rfl
set_option maxRecDepth 100000 in
set_option maxHeartbeats 4000000 in
theorem c_store_busy (l : Launch) (D : va_G) (cI cO : ClassId) (aB aM aR n sl : Nat) (sv iv ug : Int32) (g : Nat → Option Nat) (i : Nat) (aK aC b1 b2 k ra : Nat) (rk rw lw : Int32) (j : Nat) (x : Int32) (hn : n ≤ 4) (hi : i < n) (hg : g i = some aK) (hb1 : ¬ rk = 0) (hj : j < 32) : mk_M l y_Bus_store w_Bus_store ({ frames := 1, cells := 0, slots := 0, locals := 21 } : Room) D (tysK cI cO) [.ref aB, .int (nI i), .int (nI j), .int x] [(aB, .inr (3, [.ref aM, .ref aR, .int (nI sl), .int sv, .int iv, .int ug])), (aR, .inl (cO, n, .inr (.inr (.inr (.inr g))))), (aK, .inr (1, [.ref aC, .ref b1, .ref b2, .int (nI k), .int rk, .int (nI ra), .int rw, .int lw]))] (mk_Qi D (tysK cI cO) (-2) [(aB, .inr (3, [.ref aM, .ref aR, .int (nI sl), .int sv, .int iv, .int ug])), (aR, .inl (cO, n, .inr (.inr (.inr (.inr g))))), (aK, .inr (1, [.ref aC, .ref b1, .ref b2, .int (nI k), .int rk, .int (nI ra), .int rw, .int lw]))]) := by
  refine mk_start (cc := b_Bus_store) (maxL := 5) (ret := (some FieldType.int)) (by decide) (Nat.le_of_ble_eq_true rfl) (fun p e s m below meth c A ls H locs hx hb hml hr hlocks hnm hts hN hown hK hP hD hA hl hS => ?_)
  have hl : lv_has ls 5 [(0, .ref aB), (1, .int (nI i)), (2, .int (nI j)), (3, .int x)] := hl
  refine lv_aload_n hx hb d_Bus_store_0 rfl (lv_at hl 0 rfl) ?_
  refine lv_iload_n hx hb d_Bus_store_1 rfl (lv_at hl 1 rfl) ?_
  refine mk_calli (X := [(aB, .inr (3, [.ref aM, .ref aR, .int (nI sl), .int sv, .int iv, .int ug])), (aR, .inl (cO, n, .inr (.inr (.inr (.inr g))))), (aK, .inr (1, [.ref aC, .ref b1, .ref b2, .int (nI k), .int rk, .int (nI ra), .int rw, .int lw]))]) (pl := []) (wc := [(aB, .inr (3, [.ref aM, .ref aR, .int (nI sl), .int sv, .int iv, .int ug])), (aR, .inl (cO, n, .inr (.inr (.inr (.inr g)))))]) (wr := [(aK, .inr (1, [.ref aC, .ref b1, .ref b2, .int (nI k), .int rk, .int (nI ra), .int rw, .int lw]))]) (w1 := [(aB, .inr (3, [.ref aM, .ref aR, .int (nI sl), .int sv, .int iv, .int ug])), (aR, .inl (cO, n, .inr (.inr (.inr (.inr g)))))]) (X1 := [(aB, .inr (3, [.ref aM, .ref aR, .int (nI sl), .int sv, .int iv, .int ug])), (aR, .inl (cO, n, .inr (.inr (.inr (.inr g))))), (aK, .inr (1, [.ref aC, .ref b1, .ref b2, .int (nI k), .int rk, .int (nI ra), .int rw, .int lw]))]) hP hD hS hA [0, 1] [2] [1, 2, 0] rfl rfl rfl (by decide) (by decide) (by decide)
    (va_runV (b := aB) (As := [.int (nI i)]) (rest := []) ⟨hx, hb, hml, hown, hts⟩ (c_isCore_1 l D cI cO aB aM aR n sl sv iv ug g i (by first | assumption | omega) (by first | assumption | omega) H.size) ⟨callB_of 1 hts g_Bus_isCore rfl rfl rfl (hts _ iw_39) (hts _ iw_78) (by decide +kernel) ⟨by decide, by decide⟩, hts _ iw_82, hts _ iw_83⟩ (mk_preV (X := [(aB, .inr (3, [.ref aM, .ref aR, .int (nI sl), .int sv, .int iv, .int ug])), (aR, .inl (cO, n, .inr (.inr (.inr (.inr g))))), (aK, .inr (1, [.ref aC, .ref b1, .ref b2, .int (nI k), .int rk, .int (nI ra), .int rw, .int lw]))]) (pl := []) hN hK hP hD [0, 1] (by decide) rfl 0 rfl rfl rfl) rfl rfl hl.1 rfl (lv_room (Nat.le_of_ble_eq_true rfl)) d_Bus_store_2 ⟨Nat.le_refl _, Nat.le_refl _⟩) (fun H locs hP hD hS => ?_)
  have hP : va_P D vwCl [(aB, .inr (3, [.ref aM, .ref aR, .int (nI sl), .int sv, .int iv, .int ug])), (aR, .inl (cO, n, .inr (.inr (.inr (.inr g))))), (aK, .inr (1, [.ref aC, .ref b1, .ref b2, .int (nI k), .int rk, .int (nI ra), .int rw, .int lw]))] H := hP
  have hD : va_D A [(aB, .inr (3, [.ref aM, .ref aR, .int (nI sl), .int sv, .int iv, .int ug])), (aR, .inl (cO, n, .inr (.inr (.inr (.inr g))))), (aK, .inr (1, [.ref aC, .ref b1, .ref b2, .int (nI k), .int rk, .int (nI ra), .int rw, .int lw]))] := hD
  refine lv_if_eq (tgt := 15) hx hb d_Bus_store_5 rfl (fun h => absurd h (by decide)) (fun _ => ?_)
  refine lv_iload_n hx hb d_Bus_store_8 rfl (lv_at hl 2 rfl) ?_
  refine mk_calli (X := [(aB, .inr (3, [.ref aM, .ref aR, .int (nI sl), .int sv, .int iv, .int ug])), (aR, .inl (cO, n, .inr (.inr (.inr (.inr g))))), (aK, .inr (1, [.ref aC, .ref b1, .ref b2, .int (nI k), .int rk, .int (nI ra), .int rw, .int lw]))]) (pl := []) (wc := []) (wr := [(aB, .inr (3, [.ref aM, .ref aR, .int (nI sl), .int sv, .int iv, .int ug])), (aR, .inl (cO, n, .inr (.inr (.inr (.inr g))))), (aK, .inr (1, [.ref aC, .ref b1, .ref b2, .int (nI k), .int rk, .int (nI ra), .int rw, .int lw]))]) (w1 := []) (X1 := [(aB, .inr (3, [.ref aM, .ref aR, .int (nI sl), .int sv, .int iv, .int ug])), (aR, .inl (cO, n, .inr (.inr (.inr (.inr g))))), (aK, .inr (1, [.ref aC, .ref b1, .ref b2, .int (nI k), .int rk, .int (nI ra), .int rw, .int lw]))]) hP hD hS hA [] [0, 1, 2] [0, 1, 2] rfl rfl rfl (by decide) (by decide) (by decide)
    (va_runS (As := [.int (nI j)]) (rest := []) ⟨hx, hb, hml, hown, hts⟩ (c_isAddress_1 l D cI cO j (by first | assumption | omega) H.size) ⟨callB_of 1 hts g_Bus_isAddress rfl rfl rfl (hts _ iw_39) (hts _ iw_79) (by decide +kernel) ⟨by decide, by decide⟩, hts _ iw_85⟩ (mk_preS (X := [(aB, .inr (3, [.ref aM, .ref aR, .int (nI sl), .int sv, .int iv, .int ug])), (aR, .inl (cO, n, .inr (.inr (.inr (.inr g))))), (aK, .inr (1, [.ref aC, .ref b1, .ref b2, .int (nI k), .int rk, .int (nI ra), .int rw, .int lw]))]) (pl := []) hN hK hP hD [] (by decide) rfl) rfl rfl hl.1 rfl (lv_room (Nat.le_of_ble_eq_true rfl)) d_Bus_store_9 ⟨Nat.le_refl _, Nat.le_refl _⟩) (fun H locs hP hD hS => ?_)
  have hP : va_P D vwCl [(aB, .inr (3, [.ref aM, .ref aR, .int (nI sl), .int sv, .int iv, .int ug])), (aR, .inl (cO, n, .inr (.inr (.inr (.inr g))))), (aK, .inr (1, [.ref aC, .ref b1, .ref b2, .int (nI k), .int rk, .int (nI ra), .int rw, .int lw]))] H := hP
  have hD : va_D A [(aB, .inr (3, [.ref aM, .ref aR, .int (nI sl), .int sv, .int iv, .int ug])), (aR, .inl (cO, n, .inr (.inr (.inr (.inr g))))), (aK, .inr (1, [.ref aC, .ref b1, .ref b2, .int (nI k), .int rk, .int (nI ra), .int rw, .int lw]))] := hD
  refine lv_if_ne (tgt := 17) hx hb d_Bus_store_12 rfl (fun _ => ?_) (fun h => absurd h (by decide))
  refine lv_aload_n hx hb d_Bus_store_17 rfl (lv_at hl 0 rfl) ?_
  refine va_get (D := D) (ci := 3) (v := .ref aR) (C := R_Bus) (T := T_Bus) (N := 6) hx hb hts in_Bus hown hK hP 0 rfl rfl 1 (by decide) (hts _ iw_53) (fun _ h9 => h9) rfl d_Bus_store_18 ?_
  refine lv_iload_n hx hb d_Bus_store_21 rfl (lv_at hl 1 rfl) ?_
  refine mk_aald hx hb hK hP 1 1 rfl rfl (j := i) (b := aK) (by omega) (by omega) hg d_Bus_store_22 ?_
  refine lv_astore hx hb d_Bus_store_23 hl (by decide) rfl (fun ls hl => ?_)
  have hl : lv_has ls 5 [(4, .ref aK), (0, .ref aB), (1, .int (nI i)), (2, .int (nI j)), (3, .int x)] := hl
  refine lv_aload hx hb d_Bus_store_25 (lv_at hl 0 rfl) ?_
  refine mk_calli (X := [(aB, .inr (3, [.ref aM, .ref aR, .int (nI sl), .int sv, .int iv, .int ug])), (aR, .inl (cO, n, .inr (.inr (.inr (.inr g))))), (aK, .inr (1, [.ref aC, .ref b1, .ref b2, .int (nI k), .int rk, .int (nI ra), .int rw, .int lw]))]) (pl := []) (wc := [(aK, .inr (1, [.ref aC, .ref b1, .ref b2, .int (nI k), .int rk, .int (nI ra), .int rw, .int lw]))]) (wr := [(aB, .inr (3, [.ref aM, .ref aR, .int (nI sl), .int sv, .int iv, .int ug])), (aR, .inl (cO, n, .inr (.inr (.inr (.inr g)))))]) (w1 := [(aK, .inr (1, [.ref aC, .ref b1, .ref b2, .int (nI k), .int rk, .int (nI ra), .int rw, .int lw]))]) (X1 := [(aB, .inr (3, [.ref aM, .ref aR, .int (nI sl), .int sv, .int iv, .int ug])), (aR, .inl (cO, n, .inr (.inr (.inr (.inr g))))), (aK, .inr (1, [.ref aC, .ref b1, .ref b2, .int (nI k), .int rk, .int (nI ra), .int rw, .int lw]))]) hP hD hS hA [2] [0, 1] [0, 1, 2] rfl rfl rfl (by decide) (by decide) (by decide)
    (va_runVN (b := aK) (As := []) (rest := []) ⟨hx, hb, hml, hown, hts⟩ (c_waits_1 l D cI cO aK aC b1 b2 k ra rk rw lw (by first | assumption | omega) H.size) ⟨va_cnB 0 hts g_Core_waits rfl rfl rfl (hN _ in_w3) (hts _ iw_41) (by decide +kernel) ⟨by decide, by decide⟩, hts _ iw_87, hts _ iw_88⟩ (mk_preV (X := [(aB, .inr (3, [.ref aM, .ref aR, .int (nI sl), .int sv, .int iv, .int ug])), (aR, .inl (cO, n, .inr (.inr (.inr (.inr g))))), (aK, .inr (1, [.ref aC, .ref b1, .ref b2, .int (nI k), .int rk, .int (nI ra), .int rw, .int lw]))]) (pl := []) hN hK hP hD [2] (by decide) rfl 2 rfl rfl rfl) rfl rfl hl.1 rfl (lv_room (Nat.le_of_ble_eq_true rfl)) d_Bus_store_27 ⟨Nat.le_refl _, Nat.le_refl _⟩) (fun H locs hP hD hS => ?_)
  have hP : va_P D vwCl [(aB, .inr (3, [.ref aM, .ref aR, .int (nI sl), .int sv, .int iv, .int ug])), (aR, .inl (cO, n, .inr (.inr (.inr (.inr g))))), (aK, .inr (1, [.ref aC, .ref b1, .ref b2, .int (nI k), .int rk, .int (nI ra), .int rw, .int lw]))] H := hP
  have hD : va_D A [(aB, .inr (3, [.ref aM, .ref aR, .int (nI sl), .int sv, .int iv, .int ug])), (aR, .inl (cO, n, .inr (.inr (.inr (.inr g))))), (aK, .inr (1, [.ref aC, .ref b1, .ref b2, .int (nI k), .int rk, .int (nI ra), .int rw, .int lw]))] := hD
  refine lv_if_eq (tgt := 36) hx hb d_Bus_store_30 rfl (fun h => absurd h (by decide)) (fun _ => ?_)
  refine lv_bipush (v := (-2)) hx hb d_Bus_store_33 (by decide) ?_
  exact mk_iret hx hb hr hlocks hK hP hD hS d_Bus_store_35 rfl rfl
set_option maxRecDepth 100000 in
set_option maxHeartbeats 4000000 in
theorem c_store_full (l : Launch) (D : va_G) (cI cO : ClassId) (aB aM aR n sl : Nat) (sv iv ug : Int32) (g : Nat → Option Nat) (i : Nat) (aK aC b1 b2 k ra : Nat) (rk rw lw : Int32) (j : Nat) (x : Int32) (hn : n ≤ 4) (hi : i < n) (hg : g i = some aK) (hb1 : rk = 0) (hj : j < 32) (hk : k = 4) : mk_M l y_Bus_store w_Bus_store ({ frames := 1, cells := 0, slots := 0, locals := 21 } : Room) D (tysK cI cO) [.ref aB, .int (nI i), .int (nI j), .int x] [(aB, .inr (3, [.ref aM, .ref aR, .int (nI sl), .int sv, .int iv, .int ug])), (aR, .inl (cO, n, .inr (.inr (.inr (.inr g))))), (aK, .inr (1, [.ref aC, .ref b1, .ref b2, .int (nI k), .int rk, .int (nI ra), .int rw, .int lw]))] (mk_Qi D (tysK cI cO) (-3) [(aB, .inr (3, [.ref aM, .ref aR, .int (nI sl), .int sv, .int iv, .int ug])), (aR, .inl (cO, n, .inr (.inr (.inr (.inr g))))), (aK, .inr (1, [.ref aC, .ref b1, .ref b2, .int (nI k), .int rk, .int (nI ra), .int rw, .int lw]))]) := by
  refine mk_start (cc := b_Bus_store) (maxL := 5) (ret := (some FieldType.int)) (by decide) (Nat.le_of_ble_eq_true rfl) (fun p e s m below meth c A ls H locs hx hb hml hr hlocks hnm hts hN hown hK hP hD hA hl hS => ?_)
  have hl : lv_has ls 5 [(0, .ref aB), (1, .int (nI i)), (2, .int (nI j)), (3, .int x)] := hl
  refine lv_aload_n hx hb d_Bus_store_0 rfl (lv_at hl 0 rfl) ?_
  refine lv_iload_n hx hb d_Bus_store_1 rfl (lv_at hl 1 rfl) ?_
  refine mk_calli (X := [(aB, .inr (3, [.ref aM, .ref aR, .int (nI sl), .int sv, .int iv, .int ug])), (aR, .inl (cO, n, .inr (.inr (.inr (.inr g))))), (aK, .inr (1, [.ref aC, .ref b1, .ref b2, .int (nI k), .int rk, .int (nI ra), .int rw, .int lw]))]) (pl := []) (wc := [(aB, .inr (3, [.ref aM, .ref aR, .int (nI sl), .int sv, .int iv, .int ug])), (aR, .inl (cO, n, .inr (.inr (.inr (.inr g)))))]) (wr := [(aK, .inr (1, [.ref aC, .ref b1, .ref b2, .int (nI k), .int rk, .int (nI ra), .int rw, .int lw]))]) (w1 := [(aB, .inr (3, [.ref aM, .ref aR, .int (nI sl), .int sv, .int iv, .int ug])), (aR, .inl (cO, n, .inr (.inr (.inr (.inr g)))))]) (X1 := [(aB, .inr (3, [.ref aM, .ref aR, .int (nI sl), .int sv, .int iv, .int ug])), (aR, .inl (cO, n, .inr (.inr (.inr (.inr g))))), (aK, .inr (1, [.ref aC, .ref b1, .ref b2, .int (nI k), .int rk, .int (nI ra), .int rw, .int lw]))]) hP hD hS hA [0, 1] [2] [1, 2, 0] rfl rfl rfl (by decide) (by decide) (by decide)
    (va_runV (b := aB) (As := [.int (nI i)]) (rest := []) ⟨hx, hb, hml, hown, hts⟩ (c_isCore_1 l D cI cO aB aM aR n sl sv iv ug g i (by first | assumption | omega) (by first | assumption | omega) H.size) ⟨callB_of 1 hts g_Bus_isCore rfl rfl rfl (hts _ iw_39) (hts _ iw_78) (by decide +kernel) ⟨by decide, by decide⟩, hts _ iw_82, hts _ iw_83⟩ (mk_preV (X := [(aB, .inr (3, [.ref aM, .ref aR, .int (nI sl), .int sv, .int iv, .int ug])), (aR, .inl (cO, n, .inr (.inr (.inr (.inr g))))), (aK, .inr (1, [.ref aC, .ref b1, .ref b2, .int (nI k), .int rk, .int (nI ra), .int rw, .int lw]))]) (pl := []) hN hK hP hD [0, 1] (by decide) rfl 0 rfl rfl rfl) rfl rfl hl.1 rfl (lv_room (Nat.le_of_ble_eq_true rfl)) d_Bus_store_2 ⟨Nat.le_refl _, Nat.le_refl _⟩) (fun H locs hP hD hS => ?_)
  have hP : va_P D vwCl [(aB, .inr (3, [.ref aM, .ref aR, .int (nI sl), .int sv, .int iv, .int ug])), (aR, .inl (cO, n, .inr (.inr (.inr (.inr g))))), (aK, .inr (1, [.ref aC, .ref b1, .ref b2, .int (nI k), .int rk, .int (nI ra), .int rw, .int lw]))] H := hP
  have hD : va_D A [(aB, .inr (3, [.ref aM, .ref aR, .int (nI sl), .int sv, .int iv, .int ug])), (aR, .inl (cO, n, .inr (.inr (.inr (.inr g))))), (aK, .inr (1, [.ref aC, .ref b1, .ref b2, .int (nI k), .int rk, .int (nI ra), .int rw, .int lw]))] := hD
  refine lv_if_eq (tgt := 15) hx hb d_Bus_store_5 rfl (fun h => absurd h (by decide)) (fun _ => ?_)
  refine lv_iload_n hx hb d_Bus_store_8 rfl (lv_at hl 2 rfl) ?_
  refine mk_calli (X := [(aB, .inr (3, [.ref aM, .ref aR, .int (nI sl), .int sv, .int iv, .int ug])), (aR, .inl (cO, n, .inr (.inr (.inr (.inr g))))), (aK, .inr (1, [.ref aC, .ref b1, .ref b2, .int (nI k), .int rk, .int (nI ra), .int rw, .int lw]))]) (pl := []) (wc := []) (wr := [(aB, .inr (3, [.ref aM, .ref aR, .int (nI sl), .int sv, .int iv, .int ug])), (aR, .inl (cO, n, .inr (.inr (.inr (.inr g))))), (aK, .inr (1, [.ref aC, .ref b1, .ref b2, .int (nI k), .int rk, .int (nI ra), .int rw, .int lw]))]) (w1 := []) (X1 := [(aB, .inr (3, [.ref aM, .ref aR, .int (nI sl), .int sv, .int iv, .int ug])), (aR, .inl (cO, n, .inr (.inr (.inr (.inr g))))), (aK, .inr (1, [.ref aC, .ref b1, .ref b2, .int (nI k), .int rk, .int (nI ra), .int rw, .int lw]))]) hP hD hS hA [] [0, 1, 2] [0, 1, 2] rfl rfl rfl (by decide) (by decide) (by decide)
    (va_runS (As := [.int (nI j)]) (rest := []) ⟨hx, hb, hml, hown, hts⟩ (c_isAddress_1 l D cI cO j (by first | assumption | omega) H.size) ⟨callB_of 1 hts g_Bus_isAddress rfl rfl rfl (hts _ iw_39) (hts _ iw_79) (by decide +kernel) ⟨by decide, by decide⟩, hts _ iw_85⟩ (mk_preS (X := [(aB, .inr (3, [.ref aM, .ref aR, .int (nI sl), .int sv, .int iv, .int ug])), (aR, .inl (cO, n, .inr (.inr (.inr (.inr g))))), (aK, .inr (1, [.ref aC, .ref b1, .ref b2, .int (nI k), .int rk, .int (nI ra), .int rw, .int lw]))]) (pl := []) hN hK hP hD [] (by decide) rfl) rfl rfl hl.1 rfl (lv_room (Nat.le_of_ble_eq_true rfl)) d_Bus_store_9 ⟨Nat.le_refl _, Nat.le_refl _⟩) (fun H locs hP hD hS => ?_)
  have hP : va_P D vwCl [(aB, .inr (3, [.ref aM, .ref aR, .int (nI sl), .int sv, .int iv, .int ug])), (aR, .inl (cO, n, .inr (.inr (.inr (.inr g))))), (aK, .inr (1, [.ref aC, .ref b1, .ref b2, .int (nI k), .int rk, .int (nI ra), .int rw, .int lw]))] H := hP
  have hD : va_D A [(aB, .inr (3, [.ref aM, .ref aR, .int (nI sl), .int sv, .int iv, .int ug])), (aR, .inl (cO, n, .inr (.inr (.inr (.inr g))))), (aK, .inr (1, [.ref aC, .ref b1, .ref b2, .int (nI k), .int rk, .int (nI ra), .int rw, .int lw]))] := hD
  refine lv_if_ne (tgt := 17) hx hb d_Bus_store_12 rfl (fun _ => ?_) (fun h => absurd h (by decide))
  refine lv_aload_n hx hb d_Bus_store_17 rfl (lv_at hl 0 rfl) ?_
  refine va_get (D := D) (ci := 3) (v := .ref aR) (C := R_Bus) (T := T_Bus) (N := 6) hx hb hts in_Bus hown hK hP 0 rfl rfl 1 (by decide) (hts _ iw_53) (fun _ h9 => h9) rfl d_Bus_store_18 ?_
  refine lv_iload_n hx hb d_Bus_store_21 rfl (lv_at hl 1 rfl) ?_
  refine mk_aald hx hb hK hP 1 1 rfl rfl (j := i) (b := aK) (by omega) (by omega) hg d_Bus_store_22 ?_
  refine lv_astore hx hb d_Bus_store_23 hl (by decide) rfl (fun ls hl => ?_)
  have hl : lv_has ls 5 [(4, .ref aK), (0, .ref aB), (1, .int (nI i)), (2, .int (nI j)), (3, .int x)] := hl
  refine lv_aload hx hb d_Bus_store_25 (lv_at hl 0 rfl) ?_
  refine mk_calli (X := [(aB, .inr (3, [.ref aM, .ref aR, .int (nI sl), .int sv, .int iv, .int ug])), (aR, .inl (cO, n, .inr (.inr (.inr (.inr g))))), (aK, .inr (1, [.ref aC, .ref b1, .ref b2, .int (nI k), .int rk, .int (nI ra), .int rw, .int lw]))]) (pl := []) (wc := [(aK, .inr (1, [.ref aC, .ref b1, .ref b2, .int (nI k), .int rk, .int (nI ra), .int rw, .int lw]))]) (wr := [(aB, .inr (3, [.ref aM, .ref aR, .int (nI sl), .int sv, .int iv, .int ug])), (aR, .inl (cO, n, .inr (.inr (.inr (.inr g)))))]) (w1 := [(aK, .inr (1, [.ref aC, .ref b1, .ref b2, .int (nI k), .int rk, .int (nI ra), .int rw, .int lw]))]) (X1 := [(aB, .inr (3, [.ref aM, .ref aR, .int (nI sl), .int sv, .int iv, .int ug])), (aR, .inl (cO, n, .inr (.inr (.inr (.inr g))))), (aK, .inr (1, [.ref aC, .ref b1, .ref b2, .int (nI k), .int rk, .int (nI ra), .int rw, .int lw]))]) hP hD hS hA [2] [0, 1] [0, 1, 2] rfl rfl rfl (by decide) (by decide) (by decide)
    (va_runVN (b := aK) (As := []) (rest := []) ⟨hx, hb, hml, hown, hts⟩ (c_waits_0 l D cI cO aK aC b1 b2 k ra rk rw lw (by first | assumption | omega) H.size) ⟨va_cnB 0 hts g_Core_waits rfl rfl rfl (hN _ in_w3) (hts _ iw_41) (by decide +kernel) ⟨by decide, by decide⟩, hts _ iw_87, hts _ iw_88⟩ (mk_preV (X := [(aB, .inr (3, [.ref aM, .ref aR, .int (nI sl), .int sv, .int iv, .int ug])), (aR, .inl (cO, n, .inr (.inr (.inr (.inr g))))), (aK, .inr (1, [.ref aC, .ref b1, .ref b2, .int (nI k), .int rk, .int (nI ra), .int rw, .int lw]))]) (pl := []) hN hK hP hD [2] (by decide) rfl 2 rfl rfl rfl) rfl rfl hl.1 rfl (lv_room (Nat.le_of_ble_eq_true rfl)) d_Bus_store_27 ⟨Nat.le_refl _, Nat.le_refl _⟩) (fun H locs hP hD hS => ?_)
  have hP : va_P D vwCl [(aB, .inr (3, [.ref aM, .ref aR, .int (nI sl), .int sv, .int iv, .int ug])), (aR, .inl (cO, n, .inr (.inr (.inr (.inr g))))), (aK, .inr (1, [.ref aC, .ref b1, .ref b2, .int (nI k), .int rk, .int (nI ra), .int rw, .int lw]))] H := hP
  have hD : va_D A [(aB, .inr (3, [.ref aM, .ref aR, .int (nI sl), .int sv, .int iv, .int ug])), (aR, .inl (cO, n, .inr (.inr (.inr (.inr g))))), (aK, .inr (1, [.ref aC, .ref b1, .ref b2, .int (nI k), .int rk, .int (nI ra), .int rw, .int lw]))] := hD
  refine lv_if_eq (tgt := 36) hx hb d_Bus_store_30 rfl (fun _ => ?_) (fun h => absurd (by decide) h)
  refine lv_aload hx hb d_Bus_store_36 (lv_at hl 0 rfl) ?_
  refine va_getN (D := D) (ci := 1) (v := .int (nI k)) (C := R_Core) (T := T_Core) (N := 8) hx hb hts in_Core hown hK hP 2 rfl rfl 3 (by decide) (va_Nw.use rfl (hN _ in_w12)) (fun _ h9 => h9) rfl d_Bus_store_38 ?_
  refine lv_iconst (v := nI 4) hx hb d_Bus_store_41 (by decide) ?_
  refine lv_icmp_lt (tgt := 48) hx hb d_Bus_store_42 rfl (fun h => absurd h (fun q => absurd ((nI_ltI (by omega) (by omega)).mp q) (by omega))) (fun _ => ?_)
  refine lv_bipush (v := (-3)) hx hb d_Bus_store_45 (by decide) ?_
  exact mk_iret hx hb hr hlocks hK hP hD hS d_Bus_store_47 rfl rfl
set_option maxRecDepth 100000 in
set_option maxHeartbeats 4000000 in
theorem c_store_ok (l : Launch) (D : va_G) (cI cO : ClassId) (aB aM aR n sl : Nat) (sv iv ug : Int32) (g : Nat → Option Nat) (i : Nat) (aK aC b1 b2 k ra : Nat) (rk rw lw : Int32) (j : Nat) (x : Int32) (sa sw : Nat → Int32) (hn : n ≤ 4) (hi : i < n) (hg : g i = some aK) (hb1 : rk = 0) (hj : j < 32) (hk : k < 4) : mk_M l y_Bus_store w_Bus_store ({ frames := 1, cells := 0, slots := 0, locals := 22 } : Room) D (tysK cI cO) [.ref aB, .int (nI i), .int (nI j), .int x] [(aB, .inr (3, [.ref aM, .ref aR, .int (nI sl), .int sv, .int iv, .int ug])), (aR, .inl (cO, n, .inr (.inr (.inr (.inr g))))), (aK, .inr (1, [.ref aC, .ref b1, .ref b2, .int (nI k), .int rk, .int (nI ra), .int rw, .int lw])), (b1, .inl (cI, 4, .inl sa)), (b2, .inl (cI, 4, .inl sw))] (mk_Qi D (tysK cI cO) (nI (k + 1)) [(aB, .inr (3, [.ref aM, .ref aR, .int (nI sl), .int sv, .int iv, .int ug])), (aR, .inl (cO, n, .inr (.inr (.inr (.inr g))))), (aK, .inr (1, [.ref aC, .ref b1, .ref b2, .int (nI (k + 1)), .int rk, .int (nI ra), .int rw, .int lw])), (b1, .inl (cI, 4, .inl (upd sa k (nI j)))), (b2, .inl (cI, 4, .inl (upd sw k x)))]) := by
  refine mk_start (cc := b_Bus_store) (maxL := 5) (ret := (some FieldType.int)) (by decide) (Nat.le_of_ble_eq_true rfl) (fun p e s m below meth c A ls H locs hx hb hml hr hlocks hnm hts hN hown hK hP hD hA hl hS => ?_)
  have hl : lv_has ls 5 [(0, .ref aB), (1, .int (nI i)), (2, .int (nI j)), (3, .int x)] := hl
  refine lv_aload_n hx hb d_Bus_store_0 rfl (lv_at hl 0 rfl) ?_
  refine lv_iload_n hx hb d_Bus_store_1 rfl (lv_at hl 1 rfl) ?_
  refine mk_calli (X := [(aB, .inr (3, [.ref aM, .ref aR, .int (nI sl), .int sv, .int iv, .int ug])), (aR, .inl (cO, n, .inr (.inr (.inr (.inr g))))), (aK, .inr (1, [.ref aC, .ref b1, .ref b2, .int (nI k), .int rk, .int (nI ra), .int rw, .int lw])), (b1, .inl (cI, 4, .inl sa)), (b2, .inl (cI, 4, .inl sw))]) (pl := []) (wc := [(aB, .inr (3, [.ref aM, .ref aR, .int (nI sl), .int sv, .int iv, .int ug])), (aR, .inl (cO, n, .inr (.inr (.inr (.inr g)))))]) (wr := [(aK, .inr (1, [.ref aC, .ref b1, .ref b2, .int (nI k), .int rk, .int (nI ra), .int rw, .int lw])), (b1, .inl (cI, 4, .inl sa)), (b2, .inl (cI, 4, .inl sw))]) (w1 := [(aB, .inr (3, [.ref aM, .ref aR, .int (nI sl), .int sv, .int iv, .int ug])), (aR, .inl (cO, n, .inr (.inr (.inr (.inr g)))))]) (X1 := [(aB, .inr (3, [.ref aM, .ref aR, .int (nI sl), .int sv, .int iv, .int ug])), (aR, .inl (cO, n, .inr (.inr (.inr (.inr g))))), (aK, .inr (1, [.ref aC, .ref b1, .ref b2, .int (nI k), .int rk, .int (nI ra), .int rw, .int lw])), (b1, .inl (cI, 4, .inl sa)), (b2, .inl (cI, 4, .inl sw))]) hP hD hS hA [0, 1] [2, 3, 4] [3, 4, 0, 1, 2] rfl rfl rfl (by decide) (by decide) (by decide)
    (va_runV (b := aB) (As := [.int (nI i)]) (rest := []) ⟨hx, hb, hml, hown, hts⟩ (c_isCore_1 l D cI cO aB aM aR n sl sv iv ug g i (by first | assumption | omega) (by first | assumption | omega) H.size) ⟨callB_of 1 hts g_Bus_isCore rfl rfl rfl (hts _ iw_39) (hts _ iw_78) (by decide +kernel) ⟨by decide, by decide⟩, hts _ iw_82, hts _ iw_83⟩ (mk_preV (X := [(aB, .inr (3, [.ref aM, .ref aR, .int (nI sl), .int sv, .int iv, .int ug])), (aR, .inl (cO, n, .inr (.inr (.inr (.inr g))))), (aK, .inr (1, [.ref aC, .ref b1, .ref b2, .int (nI k), .int rk, .int (nI ra), .int rw, .int lw])), (b1, .inl (cI, 4, .inl sa)), (b2, .inl (cI, 4, .inl sw))]) (pl := []) hN hK hP hD [0, 1] (by decide) rfl 0 rfl rfl rfl) rfl rfl hl.1 rfl (lv_room (Nat.le_of_ble_eq_true rfl)) d_Bus_store_2 ⟨Nat.le_refl _, Nat.le_refl _⟩) (fun H locs hP hD hS => ?_)
  have hP : va_P D vwCl [(aB, .inr (3, [.ref aM, .ref aR, .int (nI sl), .int sv, .int iv, .int ug])), (aR, .inl (cO, n, .inr (.inr (.inr (.inr g))))), (aK, .inr (1, [.ref aC, .ref b1, .ref b2, .int (nI k), .int rk, .int (nI ra), .int rw, .int lw])), (b1, .inl (cI, 4, .inl sa)), (b2, .inl (cI, 4, .inl sw))] H := hP
  have hD : va_D A [(aB, .inr (3, [.ref aM, .ref aR, .int (nI sl), .int sv, .int iv, .int ug])), (aR, .inl (cO, n, .inr (.inr (.inr (.inr g))))), (aK, .inr (1, [.ref aC, .ref b1, .ref b2, .int (nI k), .int rk, .int (nI ra), .int rw, .int lw])), (b1, .inl (cI, 4, .inl sa)), (b2, .inl (cI, 4, .inl sw))] := hD
  refine lv_if_eq (tgt := 15) hx hb d_Bus_store_5 rfl (fun h => absurd h (by decide)) (fun _ => ?_)
  refine lv_iload_n hx hb d_Bus_store_8 rfl (lv_at hl 2 rfl) ?_
  refine mk_calli (X := [(aB, .inr (3, [.ref aM, .ref aR, .int (nI sl), .int sv, .int iv, .int ug])), (aR, .inl (cO, n, .inr (.inr (.inr (.inr g))))), (aK, .inr (1, [.ref aC, .ref b1, .ref b2, .int (nI k), .int rk, .int (nI ra), .int rw, .int lw])), (b1, .inl (cI, 4, .inl sa)), (b2, .inl (cI, 4, .inl sw))]) (pl := []) (wc := []) (wr := [(aB, .inr (3, [.ref aM, .ref aR, .int (nI sl), .int sv, .int iv, .int ug])), (aR, .inl (cO, n, .inr (.inr (.inr (.inr g))))), (aK, .inr (1, [.ref aC, .ref b1, .ref b2, .int (nI k), .int rk, .int (nI ra), .int rw, .int lw])), (b1, .inl (cI, 4, .inl sa)), (b2, .inl (cI, 4, .inl sw))]) (w1 := []) (X1 := [(aB, .inr (3, [.ref aM, .ref aR, .int (nI sl), .int sv, .int iv, .int ug])), (aR, .inl (cO, n, .inr (.inr (.inr (.inr g))))), (aK, .inr (1, [.ref aC, .ref b1, .ref b2, .int (nI k), .int rk, .int (nI ra), .int rw, .int lw])), (b1, .inl (cI, 4, .inl sa)), (b2, .inl (cI, 4, .inl sw))]) hP hD hS hA [] [0, 1, 2, 3, 4] [0, 1, 2, 3, 4] rfl rfl rfl (by decide) (by decide) (by decide)
    (va_runS (As := [.int (nI j)]) (rest := []) ⟨hx, hb, hml, hown, hts⟩ (c_isAddress_1 l D cI cO j (by first | assumption | omega) H.size) ⟨callB_of 1 hts g_Bus_isAddress rfl rfl rfl (hts _ iw_39) (hts _ iw_79) (by decide +kernel) ⟨by decide, by decide⟩, hts _ iw_85⟩ (mk_preS (X := [(aB, .inr (3, [.ref aM, .ref aR, .int (nI sl), .int sv, .int iv, .int ug])), (aR, .inl (cO, n, .inr (.inr (.inr (.inr g))))), (aK, .inr (1, [.ref aC, .ref b1, .ref b2, .int (nI k), .int rk, .int (nI ra), .int rw, .int lw])), (b1, .inl (cI, 4, .inl sa)), (b2, .inl (cI, 4, .inl sw))]) (pl := []) hN hK hP hD [] (by decide) rfl) rfl rfl hl.1 rfl (lv_room (Nat.le_of_ble_eq_true rfl)) d_Bus_store_9 ⟨Nat.le_refl _, Nat.le_refl _⟩) (fun H locs hP hD hS => ?_)
  have hP : va_P D vwCl [(aB, .inr (3, [.ref aM, .ref aR, .int (nI sl), .int sv, .int iv, .int ug])), (aR, .inl (cO, n, .inr (.inr (.inr (.inr g))))), (aK, .inr (1, [.ref aC, .ref b1, .ref b2, .int (nI k), .int rk, .int (nI ra), .int rw, .int lw])), (b1, .inl (cI, 4, .inl sa)), (b2, .inl (cI, 4, .inl sw))] H := hP
  have hD : va_D A [(aB, .inr (3, [.ref aM, .ref aR, .int (nI sl), .int sv, .int iv, .int ug])), (aR, .inl (cO, n, .inr (.inr (.inr (.inr g))))), (aK, .inr (1, [.ref aC, .ref b1, .ref b2, .int (nI k), .int rk, .int (nI ra), .int rw, .int lw])), (b1, .inl (cI, 4, .inl sa)), (b2, .inl (cI, 4, .inl sw))] := hD
  refine lv_if_ne (tgt := 17) hx hb d_Bus_store_12 rfl (fun _ => ?_) (fun h => absurd h (by decide))
  refine lv_aload_n hx hb d_Bus_store_17 rfl (lv_at hl 0 rfl) ?_
  refine va_get (D := D) (ci := 3) (v := .ref aR) (C := R_Bus) (T := T_Bus) (N := 6) hx hb hts in_Bus hown hK hP 0 rfl rfl 1 (by decide) (hts _ iw_53) (fun _ h9 => h9) rfl d_Bus_store_18 ?_
  refine lv_iload_n hx hb d_Bus_store_21 rfl (lv_at hl 1 rfl) ?_
  refine mk_aald hx hb hK hP 1 1 rfl rfl (j := i) (b := aK) (by omega) (by omega) hg d_Bus_store_22 ?_
  refine lv_astore hx hb d_Bus_store_23 hl (by decide) rfl (fun ls hl => ?_)
  have hl : lv_has ls 5 [(4, .ref aK), (0, .ref aB), (1, .int (nI i)), (2, .int (nI j)), (3, .int x)] := hl
  refine lv_aload hx hb d_Bus_store_25 (lv_at hl 0 rfl) ?_
  refine mk_calli (X := [(aB, .inr (3, [.ref aM, .ref aR, .int (nI sl), .int sv, .int iv, .int ug])), (aR, .inl (cO, n, .inr (.inr (.inr (.inr g))))), (aK, .inr (1, [.ref aC, .ref b1, .ref b2, .int (nI k), .int rk, .int (nI ra), .int rw, .int lw])), (b1, .inl (cI, 4, .inl sa)), (b2, .inl (cI, 4, .inl sw))]) (pl := []) (wc := [(aK, .inr (1, [.ref aC, .ref b1, .ref b2, .int (nI k), .int rk, .int (nI ra), .int rw, .int lw]))]) (wr := [(aB, .inr (3, [.ref aM, .ref aR, .int (nI sl), .int sv, .int iv, .int ug])), (aR, .inl (cO, n, .inr (.inr (.inr (.inr g))))), (b1, .inl (cI, 4, .inl sa)), (b2, .inl (cI, 4, .inl sw))]) (w1 := [(aK, .inr (1, [.ref aC, .ref b1, .ref b2, .int (nI k), .int rk, .int (nI ra), .int rw, .int lw]))]) (X1 := [(aB, .inr (3, [.ref aM, .ref aR, .int (nI sl), .int sv, .int iv, .int ug])), (aR, .inl (cO, n, .inr (.inr (.inr (.inr g))))), (aK, .inr (1, [.ref aC, .ref b1, .ref b2, .int (nI k), .int rk, .int (nI ra), .int rw, .int lw])), (b1, .inl (cI, 4, .inl sa)), (b2, .inl (cI, 4, .inl sw))]) hP hD hS hA [2] [0, 1, 3, 4] [0, 1, 4, 2, 3] rfl rfl rfl (by decide) (by decide) (by decide)
    (va_runVN (b := aK) (As := []) (rest := []) ⟨hx, hb, hml, hown, hts⟩ (c_waits_0 l D cI cO aK aC b1 b2 k ra rk rw lw (by first | assumption | omega) H.size) ⟨va_cnB 0 hts g_Core_waits rfl rfl rfl (hN _ in_w3) (hts _ iw_41) (by decide +kernel) ⟨by decide, by decide⟩, hts _ iw_87, hts _ iw_88⟩ (mk_preV (X := [(aB, .inr (3, [.ref aM, .ref aR, .int (nI sl), .int sv, .int iv, .int ug])), (aR, .inl (cO, n, .inr (.inr (.inr (.inr g))))), (aK, .inr (1, [.ref aC, .ref b1, .ref b2, .int (nI k), .int rk, .int (nI ra), .int rw, .int lw])), (b1, .inl (cI, 4, .inl sa)), (b2, .inl (cI, 4, .inl sw))]) (pl := []) hN hK hP hD [2] (by decide) rfl 2 rfl rfl rfl) rfl rfl hl.1 rfl (lv_room (Nat.le_of_ble_eq_true rfl)) d_Bus_store_27 ⟨Nat.le_refl _, Nat.le_refl _⟩) (fun H locs hP hD hS => ?_)
  have hP : va_P D vwCl [(aB, .inr (3, [.ref aM, .ref aR, .int (nI sl), .int sv, .int iv, .int ug])), (aR, .inl (cO, n, .inr (.inr (.inr (.inr g))))), (aK, .inr (1, [.ref aC, .ref b1, .ref b2, .int (nI k), .int rk, .int (nI ra), .int rw, .int lw])), (b1, .inl (cI, 4, .inl sa)), (b2, .inl (cI, 4, .inl sw))] H := hP
  have hD : va_D A [(aB, .inr (3, [.ref aM, .ref aR, .int (nI sl), .int sv, .int iv, .int ug])), (aR, .inl (cO, n, .inr (.inr (.inr (.inr g))))), (aK, .inr (1, [.ref aC, .ref b1, .ref b2, .int (nI k), .int rk, .int (nI ra), .int rw, .int lw])), (b1, .inl (cI, 4, .inl sa)), (b2, .inl (cI, 4, .inl sw))] := hD
  refine lv_if_eq (tgt := 36) hx hb d_Bus_store_30 rfl (fun _ => ?_) (fun h => absurd (by decide) h)
  refine lv_aload hx hb d_Bus_store_36 (lv_at hl 0 rfl) ?_
  refine va_getN (D := D) (ci := 1) (v := .int (nI k)) (C := R_Core) (T := T_Core) (N := 8) hx hb hts in_Core hown hK hP 2 rfl rfl 3 (by decide) (va_Nw.use rfl (hN _ in_w12)) (fun _ h9 => h9) rfl d_Bus_store_38 ?_
  refine lv_iconst (v := nI 4) hx hb d_Bus_store_41 (by decide) ?_
  refine lv_icmp_lt (tgt := 48) hx hb d_Bus_store_42 rfl (fun _ => ?_) (fun h => absurd ((nI_ltI (by omega) (by omega)).mpr (by omega)) h)
  refine lv_aload hx hb d_Bus_store_48 (lv_at hl 0 rfl) ?_
  refine lv_iload_n hx hb d_Bus_store_50 rfl (lv_at hl 3 rfl) ?_
  refine lv_iload_n hx hb d_Bus_store_51 rfl (lv_at hl 4 rfl) ?_
  refine mk_callv (X := [(aB, .inr (3, [.ref aM, .ref aR, .int (nI sl), .int sv, .int iv, .int ug])), (aR, .inl (cO, n, .inr (.inr (.inr (.inr g))))), (aK, .inr (1, [.ref aC, .ref b1, .ref b2, .int (nI k), .int rk, .int (nI ra), .int rw, .int lw])), (b1, .inl (cI, 4, .inl sa)), (b2, .inl (cI, 4, .inl sw))]) (pl := []) (wc := [(aK, .inr (1, [.ref aC, .ref b1, .ref b2, .int (nI k), .int rk, .int (nI ra), .int rw, .int lw])), (b1, .inl (cI, 4, .inl sa)), (b2, .inl (cI, 4, .inl sw))]) (wr := [(aB, .inr (3, [.ref aM, .ref aR, .int (nI sl), .int sv, .int iv, .int ug])), (aR, .inl (cO, n, .inr (.inr (.inr (.inr g)))))]) (w1 := [(aK, .inr (1, [.ref aC, .ref b1, .ref b2, .int (nI (k + 1)), .int rk, .int (nI ra), .int rw, .int lw])), (b1, .inl (cI, 4, .inl (upd sa k (nI j)))), (b2, .inl (cI, 4, .inl (upd sw k x)))]) (X1 := [(aB, .inr (3, [.ref aM, .ref aR, .int (nI sl), .int sv, .int iv, .int ug])), (aR, .inl (cO, n, .inr (.inr (.inr (.inr g))))), (aK, .inr (1, [.ref aC, .ref b1, .ref b2, .int (nI (k + 1)), .int rk, .int (nI ra), .int rw, .int lw])), (b1, .inl (cI, 4, .inl (upd sa k (nI j)))), (b2, .inl (cI, 4, .inl (upd sw k x)))]) hP hD hS hA [2, 3, 4] [0, 1] [0, 1, 2, 3, 4] rfl rfl rfl (by decide) (by decide) (by decide)
    (va_runVN (b := aK) (As := [.int (nI j), .int x]) (rest := []) ⟨hx, hb, hml, hown, hts⟩ (c_append l D cI cO aK aC b1 b2 k ra rk rw lw sa sw (nI j) x (by first | assumption | omega) H.size) ⟨va_cnB 2 hts g_Core_appendStore rfl rfl rfl (hN _ in_w13) (hts _ iw_41) (by decide +kernel) ⟨by decide, by decide⟩, hts _ iw_111, hts _ iw_112⟩ (mk_preV (X := [(aB, .inr (3, [.ref aM, .ref aR, .int (nI sl), .int sv, .int iv, .int ug])), (aR, .inl (cO, n, .inr (.inr (.inr (.inr g))))), (aK, .inr (1, [.ref aC, .ref b1, .ref b2, .int (nI k), .int rk, .int (nI ra), .int rw, .int lw])), (b1, .inl (cI, 4, .inl sa)), (b2, .inl (cI, 4, .inl sw))]) (pl := []) hN hK hP hD [2, 3, 4] (by decide) rfl 2 rfl rfl rfl) rfl rfl hl.1 rfl (lv_room (Nat.le_of_ble_eq_true rfl)) d_Bus_store_52 ⟨Nat.le_refl _, Nat.le_refl _⟩) (fun H locs hP hD hS => ?_)
  have hP : va_P D vwCl [(aB, .inr (3, [.ref aM, .ref aR, .int (nI sl), .int sv, .int iv, .int ug])), (aR, .inl (cO, n, .inr (.inr (.inr (.inr g))))), (aK, .inr (1, [.ref aC, .ref b1, .ref b2, .int (nI (k + 1)), .int rk, .int (nI ra), .int rw, .int lw])), (b1, .inl (cI, 4, .inl (upd sa k (nI j)))), (b2, .inl (cI, 4, .inl (upd sw k x)))] H := hP
  have hD : va_D A [(aB, .inr (3, [.ref aM, .ref aR, .int (nI sl), .int sv, .int iv, .int ug])), (aR, .inl (cO, n, .inr (.inr (.inr (.inr g))))), (aK, .inr (1, [.ref aC, .ref b1, .ref b2, .int (nI (k + 1)), .int rk, .int (nI ra), .int rw, .int lw])), (b1, .inl (cI, 4, .inl (upd sa k (nI j)))), (b2, .inl (cI, 4, .inl (upd sw k x)))] := hD
  refine lv_aload hx hb d_Bus_store_55 (lv_at hl 0 rfl) ?_
  refine va_getN (D := D) (ci := 1) (v := .int (nI (k + 1))) (C := R_Core) (T := T_Core) (N := 8) hx hb hts in_Core hown hK hP 2 rfl rfl 3 (by decide) (va_Nw.use rfl (hN _ in_w12)) (fun _ h9 => h9) rfl d_Bus_store_57 ?_
  exact mk_iret hx hb hr hlocks hK hP hD hS d_Bus_store_60 rfl rfl
set_option maxRecDepth 100000 in
set_option maxHeartbeats 4000000 in
theorem c_drain_busy (l : Launch) (D : va_G) (cI cO : ClassId) (aB aM aR n sl : Nat) (sv iv ug : Int32) (g : Nat → Option Nat) (i : Nat) (aK aC b1 b2 k ra : Nat) (rk rw lw : Int32) (hn : n ≤ 4) (hi : i < n) (hg : g i = some aK) (hb1 : ¬ rk = 0) : mk_M l y_Bus_drain w_Bus_drain ({ frames := 1, cells := 0, slots := 0, locals := 21 } : Room) D (tysK cI cO) [.ref aB, .int (nI i)] [(aB, .inr (3, [.ref aM, .ref aR, .int (nI sl), .int sv, .int iv, .int ug])), (aR, .inl (cO, n, .inr (.inr (.inr (.inr g))))), (aK, .inr (1, [.ref aC, .ref b1, .ref b2, .int (nI k), .int rk, .int (nI ra), .int rw, .int lw]))] (mk_Qi D (tysK cI cO) (-2) [(aB, .inr (3, [.ref aM, .ref aR, .int (nI sl), .int sv, .int iv, .int ug])), (aR, .inl (cO, n, .inr (.inr (.inr (.inr g))))), (aK, .inr (1, [.ref aC, .ref b1, .ref b2, .int (nI k), .int rk, .int (nI ra), .int rw, .int lw]))]) := by
  refine mk_start (cc := b_Bus_drain) (maxL := 3) (ret := (some FieldType.int)) (by decide) (Nat.le_of_ble_eq_true rfl) (fun p e s m below meth c A ls H locs hx hb hml hr hlocks hnm hts hN hown hK hP hD hA hl hS => ?_)
  have hl : lv_has ls 3 [(0, .ref aB), (1, .int (nI i))] := hl
  refine lv_aload_n hx hb d_Bus_drain_0 rfl (lv_at hl 0 rfl) ?_
  refine lv_iload_n hx hb d_Bus_drain_1 rfl (lv_at hl 1 rfl) ?_
  refine mk_calli (X := [(aB, .inr (3, [.ref aM, .ref aR, .int (nI sl), .int sv, .int iv, .int ug])), (aR, .inl (cO, n, .inr (.inr (.inr (.inr g))))), (aK, .inr (1, [.ref aC, .ref b1, .ref b2, .int (nI k), .int rk, .int (nI ra), .int rw, .int lw]))]) (pl := []) (wc := [(aB, .inr (3, [.ref aM, .ref aR, .int (nI sl), .int sv, .int iv, .int ug])), (aR, .inl (cO, n, .inr (.inr (.inr (.inr g)))))]) (wr := [(aK, .inr (1, [.ref aC, .ref b1, .ref b2, .int (nI k), .int rk, .int (nI ra), .int rw, .int lw]))]) (w1 := [(aB, .inr (3, [.ref aM, .ref aR, .int (nI sl), .int sv, .int iv, .int ug])), (aR, .inl (cO, n, .inr (.inr (.inr (.inr g)))))]) (X1 := [(aB, .inr (3, [.ref aM, .ref aR, .int (nI sl), .int sv, .int iv, .int ug])), (aR, .inl (cO, n, .inr (.inr (.inr (.inr g))))), (aK, .inr (1, [.ref aC, .ref b1, .ref b2, .int (nI k), .int rk, .int (nI ra), .int rw, .int lw]))]) hP hD hS hA [0, 1] [2] [1, 2, 0] rfl rfl rfl (by decide) (by decide) (by decide)
    (va_runV (b := aB) (As := [.int (nI i)]) (rest := []) ⟨hx, hb, hml, hown, hts⟩ (c_isCore_1 l D cI cO aB aM aR n sl sv iv ug g i (by first | assumption | omega) (by first | assumption | omega) H.size) ⟨callB_of 1 hts g_Bus_isCore rfl rfl rfl (hts _ iw_39) (hts _ iw_78) (by decide +kernel) ⟨by decide, by decide⟩, hts _ iw_82, hts _ iw_83⟩ (mk_preV (X := [(aB, .inr (3, [.ref aM, .ref aR, .int (nI sl), .int sv, .int iv, .int ug])), (aR, .inl (cO, n, .inr (.inr (.inr (.inr g))))), (aK, .inr (1, [.ref aC, .ref b1, .ref b2, .int (nI k), .int rk, .int (nI ra), .int rw, .int lw]))]) (pl := []) hN hK hP hD [0, 1] (by decide) rfl 0 rfl rfl rfl) rfl rfl hl.1 rfl (lv_room (Nat.le_of_ble_eq_true rfl)) d_Bus_drain_2 ⟨Nat.le_refl _, Nat.le_refl _⟩) (fun H locs hP hD hS => ?_)
  have hP : va_P D vwCl [(aB, .inr (3, [.ref aM, .ref aR, .int (nI sl), .int sv, .int iv, .int ug])), (aR, .inl (cO, n, .inr (.inr (.inr (.inr g))))), (aK, .inr (1, [.ref aC, .ref b1, .ref b2, .int (nI k), .int rk, .int (nI ra), .int rw, .int lw]))] H := hP
  have hD : va_D A [(aB, .inr (3, [.ref aM, .ref aR, .int (nI sl), .int sv, .int iv, .int ug])), (aR, .inl (cO, n, .inr (.inr (.inr (.inr g))))), (aK, .inr (1, [.ref aC, .ref b1, .ref b2, .int (nI k), .int rk, .int (nI ra), .int rw, .int lw]))] := hD
  refine lv_if_ne (tgt := 10) hx hb d_Bus_drain_5 rfl (fun _ => ?_) (fun h => absurd h (by decide))
  refine lv_aload_n hx hb d_Bus_drain_10 rfl (lv_at hl 0 rfl) ?_
  refine va_get (D := D) (ci := 3) (v := .ref aR) (C := R_Bus) (T := T_Bus) (N := 6) hx hb hts in_Bus hown hK hP 0 rfl rfl 1 (by decide) (hts _ iw_53) (fun _ h9 => h9) rfl d_Bus_drain_11 ?_
  refine lv_iload_n hx hb d_Bus_drain_14 rfl (lv_at hl 1 rfl) ?_
  refine mk_aald hx hb hK hP 1 1 rfl rfl (j := i) (b := aK) (by omega) (by omega) hg d_Bus_drain_15 ?_
  refine lv_astore_n hx hb d_Bus_drain_16 rfl hl (by decide) rfl (fun ls hl => ?_)
  have hl : lv_has ls 3 [(2, .ref aK), (0, .ref aB), (1, .int (nI i))] := hl
  refine lv_aload_n hx hb d_Bus_drain_17 rfl (lv_at hl 0 rfl) ?_
  refine mk_calli (X := [(aB, .inr (3, [.ref aM, .ref aR, .int (nI sl), .int sv, .int iv, .int ug])), (aR, .inl (cO, n, .inr (.inr (.inr (.inr g))))), (aK, .inr (1, [.ref aC, .ref b1, .ref b2, .int (nI k), .int rk, .int (nI ra), .int rw, .int lw]))]) (pl := []) (wc := [(aK, .inr (1, [.ref aC, .ref b1, .ref b2, .int (nI k), .int rk, .int (nI ra), .int rw, .int lw]))]) (wr := [(aB, .inr (3, [.ref aM, .ref aR, .int (nI sl), .int sv, .int iv, .int ug])), (aR, .inl (cO, n, .inr (.inr (.inr (.inr g)))))]) (w1 := [(aK, .inr (1, [.ref aC, .ref b1, .ref b2, .int (nI k), .int rk, .int (nI ra), .int rw, .int lw]))]) (X1 := [(aB, .inr (3, [.ref aM, .ref aR, .int (nI sl), .int sv, .int iv, .int ug])), (aR, .inl (cO, n, .inr (.inr (.inr (.inr g))))), (aK, .inr (1, [.ref aC, .ref b1, .ref b2, .int (nI k), .int rk, .int (nI ra), .int rw, .int lw]))]) hP hD hS hA [2] [0, 1] [0, 1, 2] rfl rfl rfl (by decide) (by decide) (by decide)
    (va_runVN (b := aK) (As := []) (rest := []) ⟨hx, hb, hml, hown, hts⟩ (c_waits_1 l D cI cO aK aC b1 b2 k ra rk rw lw (by first | assumption | omega) H.size) ⟨va_cnB 0 hts g_Core_waits rfl rfl rfl (hN _ in_w3) (hts _ iw_41) (by decide +kernel) ⟨by decide, by decide⟩, hts _ iw_87, hts _ iw_88⟩ (mk_preV (X := [(aB, .inr (3, [.ref aM, .ref aR, .int (nI sl), .int sv, .int iv, .int ug])), (aR, .inl (cO, n, .inr (.inr (.inr (.inr g))))), (aK, .inr (1, [.ref aC, .ref b1, .ref b2, .int (nI k), .int rk, .int (nI ra), .int rw, .int lw]))]) (pl := []) hN hK hP hD [2] (by decide) rfl 2 rfl rfl rfl) rfl rfl hl.1 rfl (lv_room (Nat.le_of_ble_eq_true rfl)) d_Bus_drain_18 ⟨Nat.le_refl _, Nat.le_refl _⟩) (fun H locs hP hD hS => ?_)
  have hP : va_P D vwCl [(aB, .inr (3, [.ref aM, .ref aR, .int (nI sl), .int sv, .int iv, .int ug])), (aR, .inl (cO, n, .inr (.inr (.inr (.inr g))))), (aK, .inr (1, [.ref aC, .ref b1, .ref b2, .int (nI k), .int rk, .int (nI ra), .int rw, .int lw]))] H := hP
  have hD : va_D A [(aB, .inr (3, [.ref aM, .ref aR, .int (nI sl), .int sv, .int iv, .int ug])), (aR, .inl (cO, n, .inr (.inr (.inr (.inr g))))), (aK, .inr (1, [.ref aC, .ref b1, .ref b2, .int (nI k), .int rk, .int (nI ra), .int rw, .int lw]))] := hD
  refine lv_if_eq (tgt := 27) hx hb d_Bus_drain_21 rfl (fun h => absurd h (by decide)) (fun _ => ?_)
  refine lv_bipush (v := (-2)) hx hb d_Bus_drain_24 (by decide) ?_
  exact mk_iret hx hb hr hlocks hK hP hD hS d_Bus_drain_26 rfl rfl
set_option maxRecDepth 100000 in
set_option maxHeartbeats 4000000 in
theorem c_drain_not (l : Launch) (D : va_G) (cI cO : ClassId) (aB aM aR n sl : Nat) (sv iv ug : Int32) (g : Nat → Option Nat) (i : Nat) (aK aC b1 b2 k ra : Nat) (rk rw lw : Int32) (hn : n ≤ 4) (hi : i < n) (hg : g i = some aK) (hb1 : rk = 0) (hk : k = 0) : mk_M l y_Bus_drain w_Bus_drain ({ frames := 1, cells := 0, slots := 0, locals := 21 } : Room) D (tysK cI cO) [.ref aB, .int (nI i)] [(aB, .inr (3, [.ref aM, .ref aR, .int (nI sl), .int sv, .int iv, .int ug])), (aR, .inl (cO, n, .inr (.inr (.inr (.inr g))))), (aK, .inr (1, [.ref aC, .ref b1, .ref b2, .int (nI k), .int rk, .int (nI ra), .int rw, .int lw]))] (mk_Qi D (tysK cI cO) (-4) [(aB, .inr (3, [.ref aM, .ref aR, .int (nI sl), .int sv, .int iv, .int ug])), (aR, .inl (cO, n, .inr (.inr (.inr (.inr g))))), (aK, .inr (1, [.ref aC, .ref b1, .ref b2, .int (nI k), .int rk, .int (nI ra), .int rw, .int lw]))]) := by
  refine mk_start (cc := b_Bus_drain) (maxL := 3) (ret := (some FieldType.int)) (by decide) (Nat.le_of_ble_eq_true rfl) (fun p e s m below meth c A ls H locs hx hb hml hr hlocks hnm hts hN hown hK hP hD hA hl hS => ?_)
  have hl : lv_has ls 3 [(0, .ref aB), (1, .int (nI i))] := hl
  refine lv_aload_n hx hb d_Bus_drain_0 rfl (lv_at hl 0 rfl) ?_
  refine lv_iload_n hx hb d_Bus_drain_1 rfl (lv_at hl 1 rfl) ?_
  refine mk_calli (X := [(aB, .inr (3, [.ref aM, .ref aR, .int (nI sl), .int sv, .int iv, .int ug])), (aR, .inl (cO, n, .inr (.inr (.inr (.inr g))))), (aK, .inr (1, [.ref aC, .ref b1, .ref b2, .int (nI k), .int rk, .int (nI ra), .int rw, .int lw]))]) (pl := []) (wc := [(aB, .inr (3, [.ref aM, .ref aR, .int (nI sl), .int sv, .int iv, .int ug])), (aR, .inl (cO, n, .inr (.inr (.inr (.inr g)))))]) (wr := [(aK, .inr (1, [.ref aC, .ref b1, .ref b2, .int (nI k), .int rk, .int (nI ra), .int rw, .int lw]))]) (w1 := [(aB, .inr (3, [.ref aM, .ref aR, .int (nI sl), .int sv, .int iv, .int ug])), (aR, .inl (cO, n, .inr (.inr (.inr (.inr g)))))]) (X1 := [(aB, .inr (3, [.ref aM, .ref aR, .int (nI sl), .int sv, .int iv, .int ug])), (aR, .inl (cO, n, .inr (.inr (.inr (.inr g))))), (aK, .inr (1, [.ref aC, .ref b1, .ref b2, .int (nI k), .int rk, .int (nI ra), .int rw, .int lw]))]) hP hD hS hA [0, 1] [2] [1, 2, 0] rfl rfl rfl (by decide) (by decide) (by decide)
    (va_runV (b := aB) (As := [.int (nI i)]) (rest := []) ⟨hx, hb, hml, hown, hts⟩ (c_isCore_1 l D cI cO aB aM aR n sl sv iv ug g i (by first | assumption | omega) (by first | assumption | omega) H.size) ⟨callB_of 1 hts g_Bus_isCore rfl rfl rfl (hts _ iw_39) (hts _ iw_78) (by decide +kernel) ⟨by decide, by decide⟩, hts _ iw_82, hts _ iw_83⟩ (mk_preV (X := [(aB, .inr (3, [.ref aM, .ref aR, .int (nI sl), .int sv, .int iv, .int ug])), (aR, .inl (cO, n, .inr (.inr (.inr (.inr g))))), (aK, .inr (1, [.ref aC, .ref b1, .ref b2, .int (nI k), .int rk, .int (nI ra), .int rw, .int lw]))]) (pl := []) hN hK hP hD [0, 1] (by decide) rfl 0 rfl rfl rfl) rfl rfl hl.1 rfl (lv_room (Nat.le_of_ble_eq_true rfl)) d_Bus_drain_2 ⟨Nat.le_refl _, Nat.le_refl _⟩) (fun H locs hP hD hS => ?_)
  have hP : va_P D vwCl [(aB, .inr (3, [.ref aM, .ref aR, .int (nI sl), .int sv, .int iv, .int ug])), (aR, .inl (cO, n, .inr (.inr (.inr (.inr g))))), (aK, .inr (1, [.ref aC, .ref b1, .ref b2, .int (nI k), .int rk, .int (nI ra), .int rw, .int lw]))] H := hP
  have hD : va_D A [(aB, .inr (3, [.ref aM, .ref aR, .int (nI sl), .int sv, .int iv, .int ug])), (aR, .inl (cO, n, .inr (.inr (.inr (.inr g))))), (aK, .inr (1, [.ref aC, .ref b1, .ref b2, .int (nI k), .int rk, .int (nI ra), .int rw, .int lw]))] := hD
  refine lv_if_ne (tgt := 10) hx hb d_Bus_drain_5 rfl (fun _ => ?_) (fun h => absurd h (by decide))
  refine lv_aload_n hx hb d_Bus_drain_10 rfl (lv_at hl 0 rfl) ?_
  refine va_get (D := D) (ci := 3) (v := .ref aR) (C := R_Bus) (T := T_Bus) (N := 6) hx hb hts in_Bus hown hK hP 0 rfl rfl 1 (by decide) (hts _ iw_53) (fun _ h9 => h9) rfl d_Bus_drain_11 ?_
  refine lv_iload_n hx hb d_Bus_drain_14 rfl (lv_at hl 1 rfl) ?_
  refine mk_aald hx hb hK hP 1 1 rfl rfl (j := i) (b := aK) (by omega) (by omega) hg d_Bus_drain_15 ?_
  refine lv_astore_n hx hb d_Bus_drain_16 rfl hl (by decide) rfl (fun ls hl => ?_)
  have hl : lv_has ls 3 [(2, .ref aK), (0, .ref aB), (1, .int (nI i))] := hl
  refine lv_aload_n hx hb d_Bus_drain_17 rfl (lv_at hl 0 rfl) ?_
  refine mk_calli (X := [(aB, .inr (3, [.ref aM, .ref aR, .int (nI sl), .int sv, .int iv, .int ug])), (aR, .inl (cO, n, .inr (.inr (.inr (.inr g))))), (aK, .inr (1, [.ref aC, .ref b1, .ref b2, .int (nI k), .int rk, .int (nI ra), .int rw, .int lw]))]) (pl := []) (wc := [(aK, .inr (1, [.ref aC, .ref b1, .ref b2, .int (nI k), .int rk, .int (nI ra), .int rw, .int lw]))]) (wr := [(aB, .inr (3, [.ref aM, .ref aR, .int (nI sl), .int sv, .int iv, .int ug])), (aR, .inl (cO, n, .inr (.inr (.inr (.inr g)))))]) (w1 := [(aK, .inr (1, [.ref aC, .ref b1, .ref b2, .int (nI k), .int rk, .int (nI ra), .int rw, .int lw]))]) (X1 := [(aB, .inr (3, [.ref aM, .ref aR, .int (nI sl), .int sv, .int iv, .int ug])), (aR, .inl (cO, n, .inr (.inr (.inr (.inr g))))), (aK, .inr (1, [.ref aC, .ref b1, .ref b2, .int (nI k), .int rk, .int (nI ra), .int rw, .int lw]))]) hP hD hS hA [2] [0, 1] [0, 1, 2] rfl rfl rfl (by decide) (by decide) (by decide)
    (va_runVN (b := aK) (As := []) (rest := []) ⟨hx, hb, hml, hown, hts⟩ (c_waits_0 l D cI cO aK aC b1 b2 k ra rk rw lw (by first | assumption | omega) H.size) ⟨va_cnB 0 hts g_Core_waits rfl rfl rfl (hN _ in_w3) (hts _ iw_41) (by decide +kernel) ⟨by decide, by decide⟩, hts _ iw_87, hts _ iw_88⟩ (mk_preV (X := [(aB, .inr (3, [.ref aM, .ref aR, .int (nI sl), .int sv, .int iv, .int ug])), (aR, .inl (cO, n, .inr (.inr (.inr (.inr g))))), (aK, .inr (1, [.ref aC, .ref b1, .ref b2, .int (nI k), .int rk, .int (nI ra), .int rw, .int lw]))]) (pl := []) hN hK hP hD [2] (by decide) rfl 2 rfl rfl rfl) rfl rfl hl.1 rfl (lv_room (Nat.le_of_ble_eq_true rfl)) d_Bus_drain_18 ⟨Nat.le_refl _, Nat.le_refl _⟩) (fun H locs hP hD hS => ?_)
  have hP : va_P D vwCl [(aB, .inr (3, [.ref aM, .ref aR, .int (nI sl), .int sv, .int iv, .int ug])), (aR, .inl (cO, n, .inr (.inr (.inr (.inr g))))), (aK, .inr (1, [.ref aC, .ref b1, .ref b2, .int (nI k), .int rk, .int (nI ra), .int rw, .int lw]))] H := hP
  have hD : va_D A [(aB, .inr (3, [.ref aM, .ref aR, .int (nI sl), .int sv, .int iv, .int ug])), (aR, .inl (cO, n, .inr (.inr (.inr (.inr g))))), (aK, .inr (1, [.ref aC, .ref b1, .ref b2, .int (nI k), .int rk, .int (nI ra), .int rw, .int lw]))] := hD
  refine lv_if_eq (tgt := 27) hx hb d_Bus_drain_21 rfl (fun _ => ?_) (fun h => absurd (by decide) h)
  refine lv_aload_n hx hb d_Bus_drain_27 rfl (lv_at hl 0 rfl) ?_
  refine va_getN (D := D) (ci := 1) (v := .int (nI k)) (C := R_Core) (T := T_Core) (N := 8) hx hb hts in_Core hown hK hP 2 rfl rfl 3 (by decide) (va_Nw.use rfl (hN _ in_w12)) (fun _ h9 => h9) rfl d_Bus_drain_28 ?_
  refine lv_if_ne (tgt := 37) hx hb d_Bus_drain_31 rfl (fun h => absurd (by rw [hk]; rfl) h) (fun _ => ?_)
  refine lv_bipush (v := (-4)) hx hb d_Bus_drain_34 (by decide) ?_
  exact mk_iret hx hb hr hlocks hK hP hD hS d_Bus_drain_36 rfl rfl
set_option maxRecDepth 100000 in
set_option maxHeartbeats 4000000 in
theorem c_drain_ask (l : Launch) (D : va_G) (cI cO : ClassId) (aB aM aR n sl : Nat) (sv iv ug : Int32) (g : Nat → Option Nat) (i : Nat) (aK aC b1 b2 k ra : Nat) (rk rw lw : Int32) (a1 a2 a3 wy : Nat) (us : Int32) (j : Nat) (sa sw st : Nat → Int32) (hn : n ≤ 4) (hi : i < n) (hg : g i = some aK) (hb1 : rk = 0) (hj : j < 32) (hk0 : 1 ≤ k) (hk : k ≤ 4) (hs0 : sa 0 = nI j) (h1 : ¬ st (j / 4) = nI 2) (h2 : ¬ st (j / 4) = nI 3) : mk_M l y_Bus_drain w_Bus_drain ({ frames := 2, cells := 0, slots := 0, locals := 46 } : Room) D (tysK cI cO) [.ref aB, .int (nI i)] [(aB, .inr (3, [.ref aM, .ref aR, .int (nI sl), .int sv, .int iv, .int ug])), (aR, .inl (cO, n, .inr (.inr (.inr (.inr g))))), (aK, .inr (1, [.ref aC, .ref b1, .ref b2, .int (nI k), .int rk, .int (nI ra), .int rw, .int lw])), (b1, .inl (cI, 4, .inl sa)), (b2, .inl (cI, 4, .inl sw)), (aC, .inr (0, [.ref aM, .int (nI wy), .ref a1, .ref a2, .ref a3, .int us])), (a1, .inl (cI, 8, .inl st))] (mk_Qi D (tysK cI cO) (nI 1) [(aB, .inr (3, [.ref aM, .ref aR, .int (nI sl), .int sv, .int iv, .int ug])), (aR, .inl (cO, n, .inr (.inr (.inr (.inr g))))), (aK, .inr (1, [.ref aC, .ref b1, .ref b2, .int (nI k), .int (nI 2), .int (nI j), .int (sw 0), .int lw])), (b1, .inl (cI, 4, .inl sa)), (b2, .inl (cI, 4, .inl sw)), (aC, .inr (0, [.ref aM, .int (nI wy), .ref a1, .ref a2, .ref a3, .int us])), (a1, .inl (cI, 8, .inl st))]) := by
  refine mk_start (cc := b_Bus_drain) (maxL := 3) (ret := (some FieldType.int)) (by decide) (Nat.le_of_ble_eq_true rfl) (fun p e s m below meth c A ls H locs hx hb hml hr hlocks hnm hts hN hown hK hP hD hA hl hS => ?_)
  have hl : lv_has ls 3 [(0, .ref aB), (1, .int (nI i))] := hl
  refine lv_aload_n hx hb d_Bus_drain_0 rfl (lv_at hl 0 rfl) ?_
  refine lv_iload_n hx hb d_Bus_drain_1 rfl (lv_at hl 1 rfl) ?_
  refine mk_calli (X := [(aB, .inr (3, [.ref aM, .ref aR, .int (nI sl), .int sv, .int iv, .int ug])), (aR, .inl (cO, n, .inr (.inr (.inr (.inr g))))), (aK, .inr (1, [.ref aC, .ref b1, .ref b2, .int (nI k), .int rk, .int (nI ra), .int rw, .int lw])), (b1, .inl (cI, 4, .inl sa)), (b2, .inl (cI, 4, .inl sw)), (aC, .inr (0, [.ref aM, .int (nI wy), .ref a1, .ref a2, .ref a3, .int us])), (a1, .inl (cI, 8, .inl st))]) (pl := []) (wc := [(aB, .inr (3, [.ref aM, .ref aR, .int (nI sl), .int sv, .int iv, .int ug])), (aR, .inl (cO, n, .inr (.inr (.inr (.inr g)))))]) (wr := [(aK, .inr (1, [.ref aC, .ref b1, .ref b2, .int (nI k), .int rk, .int (nI ra), .int rw, .int lw])), (b1, .inl (cI, 4, .inl sa)), (b2, .inl (cI, 4, .inl sw)), (aC, .inr (0, [.ref aM, .int (nI wy), .ref a1, .ref a2, .ref a3, .int us])), (a1, .inl (cI, 8, .inl st))]) (w1 := [(aB, .inr (3, [.ref aM, .ref aR, .int (nI sl), .int sv, .int iv, .int ug])), (aR, .inl (cO, n, .inr (.inr (.inr (.inr g)))))]) (X1 := [(aB, .inr (3, [.ref aM, .ref aR, .int (nI sl), .int sv, .int iv, .int ug])), (aR, .inl (cO, n, .inr (.inr (.inr (.inr g))))), (aK, .inr (1, [.ref aC, .ref b1, .ref b2, .int (nI k), .int rk, .int (nI ra), .int rw, .int lw])), (b1, .inl (cI, 4, .inl sa)), (b2, .inl (cI, 4, .inl sw)), (aC, .inr (0, [.ref aM, .int (nI wy), .ref a1, .ref a2, .ref a3, .int us])), (a1, .inl (cI, 8, .inl st))]) hP hD hS hA [0, 1] [2, 3, 4, 5, 6] [5, 6, 0, 1, 2, 3, 4] rfl rfl rfl (by decide) (by decide) (by decide)
    (va_runV (b := aB) (As := [.int (nI i)]) (rest := []) ⟨hx, hb, hml, hown, hts⟩ (c_isCore_1 l D cI cO aB aM aR n sl sv iv ug g i (by first | assumption | omega) (by first | assumption | omega) H.size) ⟨callB_of 1 hts g_Bus_isCore rfl rfl rfl (hts _ iw_39) (hts _ iw_78) (by decide +kernel) ⟨by decide, by decide⟩, hts _ iw_82, hts _ iw_83⟩ (mk_preV (X := [(aB, .inr (3, [.ref aM, .ref aR, .int (nI sl), .int sv, .int iv, .int ug])), (aR, .inl (cO, n, .inr (.inr (.inr (.inr g))))), (aK, .inr (1, [.ref aC, .ref b1, .ref b2, .int (nI k), .int rk, .int (nI ra), .int rw, .int lw])), (b1, .inl (cI, 4, .inl sa)), (b2, .inl (cI, 4, .inl sw)), (aC, .inr (0, [.ref aM, .int (nI wy), .ref a1, .ref a2, .ref a3, .int us])), (a1, .inl (cI, 8, .inl st))]) (pl := []) hN hK hP hD [0, 1] (by decide) rfl 0 rfl rfl rfl) rfl rfl hl.1 rfl (lv_room (Nat.le_of_ble_eq_true rfl)) d_Bus_drain_2 ⟨Nat.le_refl _, Nat.le_refl _⟩) (fun H locs hP hD hS => ?_)
  have hP : va_P D vwCl [(aB, .inr (3, [.ref aM, .ref aR, .int (nI sl), .int sv, .int iv, .int ug])), (aR, .inl (cO, n, .inr (.inr (.inr (.inr g))))), (aK, .inr (1, [.ref aC, .ref b1, .ref b2, .int (nI k), .int rk, .int (nI ra), .int rw, .int lw])), (b1, .inl (cI, 4, .inl sa)), (b2, .inl (cI, 4, .inl sw)), (aC, .inr (0, [.ref aM, .int (nI wy), .ref a1, .ref a2, .ref a3, .int us])), (a1, .inl (cI, 8, .inl st))] H := hP
  have hD : va_D A [(aB, .inr (3, [.ref aM, .ref aR, .int (nI sl), .int sv, .int iv, .int ug])), (aR, .inl (cO, n, .inr (.inr (.inr (.inr g))))), (aK, .inr (1, [.ref aC, .ref b1, .ref b2, .int (nI k), .int rk, .int (nI ra), .int rw, .int lw])), (b1, .inl (cI, 4, .inl sa)), (b2, .inl (cI, 4, .inl sw)), (aC, .inr (0, [.ref aM, .int (nI wy), .ref a1, .ref a2, .ref a3, .int us])), (a1, .inl (cI, 8, .inl st))] := hD
  refine lv_if_ne (tgt := 10) hx hb d_Bus_drain_5 rfl (fun _ => ?_) (fun h => absurd h (by decide))
  refine lv_aload_n hx hb d_Bus_drain_10 rfl (lv_at hl 0 rfl) ?_
  refine va_get (D := D) (ci := 3) (v := .ref aR) (C := R_Bus) (T := T_Bus) (N := 6) hx hb hts in_Bus hown hK hP 0 rfl rfl 1 (by decide) (hts _ iw_53) (fun _ h9 => h9) rfl d_Bus_drain_11 ?_
  refine lv_iload_n hx hb d_Bus_drain_14 rfl (lv_at hl 1 rfl) ?_
  refine mk_aald hx hb hK hP 1 1 rfl rfl (j := i) (b := aK) (by omega) (by omega) hg d_Bus_drain_15 ?_
  refine lv_astore_n hx hb d_Bus_drain_16 rfl hl (by decide) rfl (fun ls hl => ?_)
  have hl : lv_has ls 3 [(2, .ref aK), (0, .ref aB), (1, .int (nI i))] := hl
  refine lv_aload_n hx hb d_Bus_drain_17 rfl (lv_at hl 0 rfl) ?_
  refine mk_calli (X := [(aB, .inr (3, [.ref aM, .ref aR, .int (nI sl), .int sv, .int iv, .int ug])), (aR, .inl (cO, n, .inr (.inr (.inr (.inr g))))), (aK, .inr (1, [.ref aC, .ref b1, .ref b2, .int (nI k), .int rk, .int (nI ra), .int rw, .int lw])), (b1, .inl (cI, 4, .inl sa)), (b2, .inl (cI, 4, .inl sw)), (aC, .inr (0, [.ref aM, .int (nI wy), .ref a1, .ref a2, .ref a3, .int us])), (a1, .inl (cI, 8, .inl st))]) (pl := []) (wc := [(aK, .inr (1, [.ref aC, .ref b1, .ref b2, .int (nI k), .int rk, .int (nI ra), .int rw, .int lw]))]) (wr := [(aB, .inr (3, [.ref aM, .ref aR, .int (nI sl), .int sv, .int iv, .int ug])), (aR, .inl (cO, n, .inr (.inr (.inr (.inr g))))), (b1, .inl (cI, 4, .inl sa)), (b2, .inl (cI, 4, .inl sw)), (aC, .inr (0, [.ref aM, .int (nI wy), .ref a1, .ref a2, .ref a3, .int us])), (a1, .inl (cI, 8, .inl st))]) (w1 := [(aK, .inr (1, [.ref aC, .ref b1, .ref b2, .int (nI k), .int rk, .int (nI ra), .int rw, .int lw]))]) (X1 := [(aB, .inr (3, [.ref aM, .ref aR, .int (nI sl), .int sv, .int iv, .int ug])), (aR, .inl (cO, n, .inr (.inr (.inr (.inr g))))), (aK, .inr (1, [.ref aC, .ref b1, .ref b2, .int (nI k), .int rk, .int (nI ra), .int rw, .int lw])), (b1, .inl (cI, 4, .inl sa)), (b2, .inl (cI, 4, .inl sw)), (aC, .inr (0, [.ref aM, .int (nI wy), .ref a1, .ref a2, .ref a3, .int us])), (a1, .inl (cI, 8, .inl st))]) hP hD hS hA [2] [0, 1, 3, 4, 5, 6] [0, 1, 6, 2, 3, 4, 5] rfl rfl rfl (by decide) (by decide) (by decide)
    (va_runVN (b := aK) (As := []) (rest := []) ⟨hx, hb, hml, hown, hts⟩ (c_waits_0 l D cI cO aK aC b1 b2 k ra rk rw lw (by first | assumption | omega) H.size) ⟨va_cnB 0 hts g_Core_waits rfl rfl rfl (hN _ in_w3) (hts _ iw_41) (by decide +kernel) ⟨by decide, by decide⟩, hts _ iw_87, hts _ iw_88⟩ (mk_preV (X := [(aB, .inr (3, [.ref aM, .ref aR, .int (nI sl), .int sv, .int iv, .int ug])), (aR, .inl (cO, n, .inr (.inr (.inr (.inr g))))), (aK, .inr (1, [.ref aC, .ref b1, .ref b2, .int (nI k), .int rk, .int (nI ra), .int rw, .int lw])), (b1, .inl (cI, 4, .inl sa)), (b2, .inl (cI, 4, .inl sw)), (aC, .inr (0, [.ref aM, .int (nI wy), .ref a1, .ref a2, .ref a3, .int us])), (a1, .inl (cI, 8, .inl st))]) (pl := []) hN hK hP hD [2] (by decide) rfl 2 rfl rfl rfl) rfl rfl hl.1 rfl (lv_room (Nat.le_of_ble_eq_true rfl)) d_Bus_drain_18 ⟨Nat.le_refl _, Nat.le_refl _⟩) (fun H locs hP hD hS => ?_)
  have hP : va_P D vwCl [(aB, .inr (3, [.ref aM, .ref aR, .int (nI sl), .int sv, .int iv, .int ug])), (aR, .inl (cO, n, .inr (.inr (.inr (.inr g))))), (aK, .inr (1, [.ref aC, .ref b1, .ref b2, .int (nI k), .int rk, .int (nI ra), .int rw, .int lw])), (b1, .inl (cI, 4, .inl sa)), (b2, .inl (cI, 4, .inl sw)), (aC, .inr (0, [.ref aM, .int (nI wy), .ref a1, .ref a2, .ref a3, .int us])), (a1, .inl (cI, 8, .inl st))] H := hP
  have hD : va_D A [(aB, .inr (3, [.ref aM, .ref aR, .int (nI sl), .int sv, .int iv, .int ug])), (aR, .inl (cO, n, .inr (.inr (.inr (.inr g))))), (aK, .inr (1, [.ref aC, .ref b1, .ref b2, .int (nI k), .int rk, .int (nI ra), .int rw, .int lw])), (b1, .inl (cI, 4, .inl sa)), (b2, .inl (cI, 4, .inl sw)), (aC, .inr (0, [.ref aM, .int (nI wy), .ref a1, .ref a2, .ref a3, .int us])), (a1, .inl (cI, 8, .inl st))] := hD
  refine lv_if_eq (tgt := 27) hx hb d_Bus_drain_21 rfl (fun _ => ?_) (fun h => absurd (by decide) h)
  refine lv_aload_n hx hb d_Bus_drain_27 rfl (lv_at hl 0 rfl) ?_
  refine va_getN (D := D) (ci := 1) (v := .int (nI k)) (C := R_Core) (T := T_Core) (N := 8) hx hb hts in_Core hown hK hP 2 rfl rfl 3 (by decide) (va_Nw.use rfl (hN _ in_w12)) (fun _ h9 => h9) rfl d_Bus_drain_28 ?_
  refine lv_if_ne (tgt := 37) hx hb d_Bus_drain_31 rfl (fun _ => ?_) (fun h => absurd h (nI_ne0 (by omega) (by omega)))
  refine lv_aload_n hx hb d_Bus_drain_37 rfl (lv_at hl 0 rfl) ?_
  refine lv_iconst (v := nI 2) hx hb d_Bus_drain_38 (by decide) ?_
  refine lv_aload_n hx hb d_Bus_drain_39 rfl (lv_at hl 0 rfl) ?_
  refine va_getN (D := D) (ci := 1) (v := .ref b1) (C := R_Core) (T := T_Core) (N := 8) hx hb hts in_Core hown hK hP 2 rfl rfl 1 (by decide) (va_Nw.use rfl (hN _ in_w14)) (fun _ h9 => h9) rfl d_Bus_drain_40 ?_
  refine lv_iconst (v := nI 0) hx hb d_Bus_drain_43 (by decide) ?_
  refine mk_iald hx hb hK hP 3 0 rfl rfl (j := 0) (by omega) (by decide) d_Bus_drain_44 ?_
  refine mk_top (show _ = nI j from hs0) ?_
  refine lv_aload_n hx hb d_Bus_drain_45 rfl (lv_at hl 0 rfl) ?_
  refine va_getN (D := D) (ci := 1) (v := .ref b2) (C := R_Core) (T := T_Core) (N := 8) hx hb hts in_Core hown hK hP 2 rfl rfl 2 (by decide) (va_Nw.use rfl (hN _ in_w5)) (fun _ h9 => h9) rfl d_Bus_drain_46 ?_
  refine lv_iconst (v := nI 0) hx hb d_Bus_drain_49 (by decide) ?_
  refine mk_iald hx hb hK hP 4 0 rfl rfl (j := 0) (by omega) (by decide) d_Bus_drain_50 ?_
  refine mk_calli (X := [(aB, .inr (3, [.ref aM, .ref aR, .int (nI sl), .int sv, .int iv, .int ug])), (aR, .inl (cO, n, .inr (.inr (.inr (.inr g))))), (aK, .inr (1, [.ref aC, .ref b1, .ref b2, .int (nI k), .int rk, .int (nI ra), .int rw, .int lw])), (b1, .inl (cI, 4, .inl sa)), (b2, .inl (cI, 4, .inl sw)), (aC, .inr (0, [.ref aM, .int (nI wy), .ref a1, .ref a2, .ref a3, .int us])), (a1, .inl (cI, 8, .inl st))]) (pl := []) (wc := [(aK, .inr (1, [.ref aC, .ref b1, .ref b2, .int (nI k), .int rk, .int (nI ra), .int rw, .int lw])), (aC, .inr (0, [.ref aM, .int (nI wy), .ref a1, .ref a2, .ref a3, .int us])), (a1, .inl (cI, 8, .inl st))]) (wr := [(aB, .inr (3, [.ref aM, .ref aR, .int (nI sl), .int sv, .int iv, .int ug])), (aR, .inl (cO, n, .inr (.inr (.inr (.inr g))))), (b1, .inl (cI, 4, .inl sa)), (b2, .inl (cI, 4, .inl sw))]) (w1 := [(aK, .inr (1, [.ref aC, .ref b1, .ref b2, .int (nI k), .int (nI 2), .int (nI j), .int (sw 0), .int lw])), (aC, .inr (0, [.ref aM, .int (nI wy), .ref a1, .ref a2, .ref a3, .int us])), (a1, .inl (cI, 8, .inl st))]) (X1 := [(aB, .inr (3, [.ref aM, .ref aR, .int (nI sl), .int sv, .int iv, .int ug])), (aR, .inl (cO, n, .inr (.inr (.inr (.inr g))))), (aK, .inr (1, [.ref aC, .ref b1, .ref b2, .int (nI k), .int (nI 2), .int (nI j), .int (sw 0), .int lw])), (b1, .inl (cI, 4, .inl sa)), (b2, .inl (cI, 4, .inl sw)), (aC, .inr (0, [.ref aM, .int (nI wy), .ref a1, .ref a2, .ref a3, .int us])), (a1, .inl (cI, 8, .inl st))]) hP hD hS hA [2, 5, 6] [0, 1, 3, 4] [0, 1, 4, 2, 3, 5, 6] rfl rfl rfl (by decide) (by decide) (by decide)
    (va_runVN (b := aK) (As := [.int (nI 2), .int (nI j), .int (sw 0)]) (rest := []) ⟨hx, hb, hml, hown, hts⟩ (c_coa_ask l D cI cO aK aC b1 b2 k ra rk rw lw aM a1 a2 a3 wy us st (nI 2) j (sw 0) (by first | assumption | omega) (by first | assumption | omega) (by first | assumption | omega) H.size) ⟨va_cnB 3 hts g_Core_changeOrAsk rfl rfl rfl (hN _ in_w15) (hts _ iw_41) (by decide +kernel) ⟨by decide, by decide⟩, hts _ iw_117, hts _ iw_118⟩ (mk_preV (X := [(aB, .inr (3, [.ref aM, .ref aR, .int (nI sl), .int sv, .int iv, .int ug])), (aR, .inl (cO, n, .inr (.inr (.inr (.inr g))))), (aK, .inr (1, [.ref aC, .ref b1, .ref b2, .int (nI k), .int rk, .int (nI ra), .int rw, .int lw])), (b1, .inl (cI, 4, .inl sa)), (b2, .inl (cI, 4, .inl sw)), (aC, .inr (0, [.ref aM, .int (nI wy), .ref a1, .ref a2, .ref a3, .int us])), (a1, .inl (cI, 8, .inl st))]) (pl := []) hN hK hP hD [2, 5, 6] (by decide) rfl 2 rfl rfl rfl) rfl rfl hl.1 rfl (lv_room (Nat.le_of_ble_eq_true rfl)) d_Bus_drain_51 ⟨Nat.le_refl _, Nat.le_refl _⟩) (fun H locs hP hD hS => ?_)
  have hP : va_P D vwCl [(aB, .inr (3, [.ref aM, .ref aR, .int (nI sl), .int sv, .int iv, .int ug])), (aR, .inl (cO, n, .inr (.inr (.inr (.inr g))))), (aK, .inr (1, [.ref aC, .ref b1, .ref b2, .int (nI k), .int (nI 2), .int (nI j), .int (sw 0), .int lw])), (b1, .inl (cI, 4, .inl sa)), (b2, .inl (cI, 4, .inl sw)), (aC, .inr (0, [.ref aM, .int (nI wy), .ref a1, .ref a2, .ref a3, .int us])), (a1, .inl (cI, 8, .inl st))] H := hP
  have hD : va_D A [(aB, .inr (3, [.ref aM, .ref aR, .int (nI sl), .int sv, .int iv, .int ug])), (aR, .inl (cO, n, .inr (.inr (.inr (.inr g))))), (aK, .inr (1, [.ref aC, .ref b1, .ref b2, .int (nI k), .int (nI 2), .int (nI j), .int (sw 0), .int lw])), (b1, .inl (cI, 4, .inl sa)), (b2, .inl (cI, 4, .inl sw)), (aC, .inr (0, [.ref aM, .int (nI wy), .ref a1, .ref a2, .ref a3, .int us])), (a1, .inl (cI, 8, .inl st))] := hD
  exact mk_iret hx hb hr hlocks hK hP hD hS d_Bus_drain_54 rfl rfl
set_option maxRecDepth 100000 in
set_option maxHeartbeats 4000000 in
theorem c_drain_own (l : Launch) (D : va_G) (cI cO : ClassId) (aB aM aR n sl : Nat) (sv iv ug : Int32) (g : Nat → Option Nat) (i : Nat) (aK aC b1 b2 k ra : Nat) (rk rw lw : Int32) (a1 a2 a3 wy : Nat) (us : Int32) (j : Nat) (sa sw st : Nat → Int32) (ua wd : Nat → Int32) (hn : n ≤ 4) (hi : i < n) (hg : g i = some aK) (hb1 : rk = 0) (hj : j < 32) (hk0 : 1 ≤ k) (hk : k ≤ 4) (hs0 : sa 0 = nI j) (h1 : st (j / 4) = nI 2 ∨ st (j / 4) = nI 3) : mk_M l y_Bus_drain w_Bus_drain ({ frames := 4, cells := 0, slots := 0, locals := 91 } : Room) D (tysK cI cO) [.ref aB, .int (nI i)] [(aB, .inr (3, [.ref aM, .ref aR, .int (nI sl), .int sv, .int iv, .int ug])), (aR, .inl (cO, n, .inr (.inr (.inr (.inr g))))), (aK, .inr (1, [.ref aC, .ref b1, .ref b2, .int (nI k), .int rk, .int (nI ra), .int rw, .int lw])), (b1, .inl (cI, 4, .inl sa)), (b2, .inl (cI, 4, .inl sw)), (aC, .inr (0, [.ref aM, .int (nI wy), .ref a1, .ref a2, .ref a3, .int us])), (a1, .inl (cI, 8, .inl st)), (a2, .inl (cI, 8, .inl ua)), (a3, .inl (cI, 32, .inl wd))] (mk_Qi D (tysK cI cO) (nI 0) [(aB, .inr (3, [.ref aM, .ref aR, .int (nI sl), .int sv, .int iv, .int ug])), (aR, .inl (cO, n, .inr (.inr (.inr (.inr g))))), (aK, .inr (1, [.ref aC, .ref b1, .ref b2, .int (nI (k - 1)), .int rk, .int (nI ra), .int rw, .int lw])), (b1, .inl (cI, 4, .inl (cs_sh sa (k - 1)))), (b2, .inl (cI, 4, .inl (cs_sh sw (k - 1)))), (aC, .inr (0, [.ref aM, .int (nI wy), .ref a1, .ref a2, .ref a3, .int (us + nI 1)])), (a1, .inl (cI, 8, .inl (upd st (j / 4) (nI 3)))), (a2, .inl (cI, 8, .inl (upd ua (j / 4) (us + nI 1)))), (a3, .inl (cI, 32, .inl (upd wd j (sw 0))))]) := by
  refine mk_start (cc := b_Bus_drain) (maxL := 3) (ret := (some FieldType.int)) (by decide) (Nat.le_of_ble_eq_true rfl) (fun p e s m below meth c A ls H locs hx hb hml hr hlocks hnm hts hN hown hK hP hD hA hl hS => ?_)
  have hl : lv_has ls 3 [(0, .ref aB), (1, .int (nI i))] := hl
  refine lv_aload_n hx hb d_Bus_drain_0 rfl (lv_at hl 0 rfl) ?_
  refine lv_iload_n hx hb d_Bus_drain_1 rfl (lv_at hl 1 rfl) ?_
  refine mk_calli (X := [(aB, .inr (3, [.ref aM, .ref aR, .int (nI sl), .int sv, .int iv, .int ug])), (aR, .inl (cO, n, .inr (.inr (.inr (.inr g))))), (aK, .inr (1, [.ref aC, .ref b1, .ref b2, .int (nI k), .int rk, .int (nI ra), .int rw, .int lw])), (b1, .inl (cI, 4, .inl sa)), (b2, .inl (cI, 4, .inl sw)), (aC, .inr (0, [.ref aM, .int (nI wy), .ref a1, .ref a2, .ref a3, .int us])), (a1, .inl (cI, 8, .inl st)), (a2, .inl (cI, 8, .inl ua)), (a3, .inl (cI, 32, .inl wd))]) (pl := []) (wc := [(aB, .inr (3, [.ref aM, .ref aR, .int (nI sl), .int sv, .int iv, .int ug])), (aR, .inl (cO, n, .inr (.inr (.inr (.inr g)))))]) (wr := [(aK, .inr (1, [.ref aC, .ref b1, .ref b2, .int (nI k), .int rk, .int (nI ra), .int rw, .int lw])), (b1, .inl (cI, 4, .inl sa)), (b2, .inl (cI, 4, .inl sw)), (aC, .inr (0, [.ref aM, .int (nI wy), .ref a1, .ref a2, .ref a3, .int us])), (a1, .inl (cI, 8, .inl st)), (a2, .inl (cI, 8, .inl ua)), (a3, .inl (cI, 32, .inl wd))]) (w1 := [(aB, .inr (3, [.ref aM, .ref aR, .int (nI sl), .int sv, .int iv, .int ug])), (aR, .inl (cO, n, .inr (.inr (.inr (.inr g)))))]) (X1 := [(aB, .inr (3, [.ref aM, .ref aR, .int (nI sl), .int sv, .int iv, .int ug])), (aR, .inl (cO, n, .inr (.inr (.inr (.inr g))))), (aK, .inr (1, [.ref aC, .ref b1, .ref b2, .int (nI k), .int rk, .int (nI ra), .int rw, .int lw])), (b1, .inl (cI, 4, .inl sa)), (b2, .inl (cI, 4, .inl sw)), (aC, .inr (0, [.ref aM, .int (nI wy), .ref a1, .ref a2, .ref a3, .int us])), (a1, .inl (cI, 8, .inl st)), (a2, .inl (cI, 8, .inl ua)), (a3, .inl (cI, 32, .inl wd))]) hP hD hS hA [0, 1] [2, 3, 4, 5, 6, 7, 8] [7, 8, 0, 1, 2, 3, 4, 5, 6] rfl rfl rfl (by decide) (by decide) (by decide)
    (va_runV (b := aB) (As := [.int (nI i)]) (rest := []) ⟨hx, hb, hml, hown, hts⟩ (c_isCore_1 l D cI cO aB aM aR n sl sv iv ug g i (by first | assumption | omega) (by first | assumption | omega) H.size) ⟨callB_of 1 hts g_Bus_isCore rfl rfl rfl (hts _ iw_39) (hts _ iw_78) (by decide +kernel) ⟨by decide, by decide⟩, hts _ iw_82, hts _ iw_83⟩ (mk_preV (X := [(aB, .inr (3, [.ref aM, .ref aR, .int (nI sl), .int sv, .int iv, .int ug])), (aR, .inl (cO, n, .inr (.inr (.inr (.inr g))))), (aK, .inr (1, [.ref aC, .ref b1, .ref b2, .int (nI k), .int rk, .int (nI ra), .int rw, .int lw])), (b1, .inl (cI, 4, .inl sa)), (b2, .inl (cI, 4, .inl sw)), (aC, .inr (0, [.ref aM, .int (nI wy), .ref a1, .ref a2, .ref a3, .int us])), (a1, .inl (cI, 8, .inl st)), (a2, .inl (cI, 8, .inl ua)), (a3, .inl (cI, 32, .inl wd))]) (pl := []) hN hK hP hD [0, 1] (by decide) rfl 0 rfl rfl rfl) rfl rfl hl.1 rfl (lv_room (Nat.le_of_ble_eq_true rfl)) d_Bus_drain_2 ⟨Nat.le_refl _, Nat.le_refl _⟩) (fun H locs hP hD hS => ?_)
  have hP : va_P D vwCl [(aB, .inr (3, [.ref aM, .ref aR, .int (nI sl), .int sv, .int iv, .int ug])), (aR, .inl (cO, n, .inr (.inr (.inr (.inr g))))), (aK, .inr (1, [.ref aC, .ref b1, .ref b2, .int (nI k), .int rk, .int (nI ra), .int rw, .int lw])), (b1, .inl (cI, 4, .inl sa)), (b2, .inl (cI, 4, .inl sw)), (aC, .inr (0, [.ref aM, .int (nI wy), .ref a1, .ref a2, .ref a3, .int us])), (a1, .inl (cI, 8, .inl st)), (a2, .inl (cI, 8, .inl ua)), (a3, .inl (cI, 32, .inl wd))] H := hP
  have hD : va_D A [(aB, .inr (3, [.ref aM, .ref aR, .int (nI sl), .int sv, .int iv, .int ug])), (aR, .inl (cO, n, .inr (.inr (.inr (.inr g))))), (aK, .inr (1, [.ref aC, .ref b1, .ref b2, .int (nI k), .int rk, .int (nI ra), .int rw, .int lw])), (b1, .inl (cI, 4, .inl sa)), (b2, .inl (cI, 4, .inl sw)), (aC, .inr (0, [.ref aM, .int (nI wy), .ref a1, .ref a2, .ref a3, .int us])), (a1, .inl (cI, 8, .inl st)), (a2, .inl (cI, 8, .inl ua)), (a3, .inl (cI, 32, .inl wd))] := hD
  refine lv_if_ne (tgt := 10) hx hb d_Bus_drain_5 rfl (fun _ => ?_) (fun h => absurd h (by decide))
  refine lv_aload_n hx hb d_Bus_drain_10 rfl (lv_at hl 0 rfl) ?_
  refine va_get (D := D) (ci := 3) (v := .ref aR) (C := R_Bus) (T := T_Bus) (N := 6) hx hb hts in_Bus hown hK hP 0 rfl rfl 1 (by decide) (hts _ iw_53) (fun _ h9 => h9) rfl d_Bus_drain_11 ?_
  refine lv_iload_n hx hb d_Bus_drain_14 rfl (lv_at hl 1 rfl) ?_
  refine mk_aald hx hb hK hP 1 1 rfl rfl (j := i) (b := aK) (by omega) (by omega) hg d_Bus_drain_15 ?_
  refine lv_astore_n hx hb d_Bus_drain_16 rfl hl (by decide) rfl (fun ls hl => ?_)
  have hl : lv_has ls 3 [(2, .ref aK), (0, .ref aB), (1, .int (nI i))] := hl
  refine lv_aload_n hx hb d_Bus_drain_17 rfl (lv_at hl 0 rfl) ?_
  refine mk_calli (X := [(aB, .inr (3, [.ref aM, .ref aR, .int (nI sl), .int sv, .int iv, .int ug])), (aR, .inl (cO, n, .inr (.inr (.inr (.inr g))))), (aK, .inr (1, [.ref aC, .ref b1, .ref b2, .int (nI k), .int rk, .int (nI ra), .int rw, .int lw])), (b1, .inl (cI, 4, .inl sa)), (b2, .inl (cI, 4, .inl sw)), (aC, .inr (0, [.ref aM, .int (nI wy), .ref a1, .ref a2, .ref a3, .int us])), (a1, .inl (cI, 8, .inl st)), (a2, .inl (cI, 8, .inl ua)), (a3, .inl (cI, 32, .inl wd))]) (pl := []) (wc := [(aK, .inr (1, [.ref aC, .ref b1, .ref b2, .int (nI k), .int rk, .int (nI ra), .int rw, .int lw]))]) (wr := [(aB, .inr (3, [.ref aM, .ref aR, .int (nI sl), .int sv, .int iv, .int ug])), (aR, .inl (cO, n, .inr (.inr (.inr (.inr g))))), (b1, .inl (cI, 4, .inl sa)), (b2, .inl (cI, 4, .inl sw)), (aC, .inr (0, [.ref aM, .int (nI wy), .ref a1, .ref a2, .ref a3, .int us])), (a1, .inl (cI, 8, .inl st)), (a2, .inl (cI, 8, .inl ua)), (a3, .inl (cI, 32, .inl wd))]) (w1 := [(aK, .inr (1, [.ref aC, .ref b1, .ref b2, .int (nI k), .int rk, .int (nI ra), .int rw, .int lw]))]) (X1 := [(aB, .inr (3, [.ref aM, .ref aR, .int (nI sl), .int sv, .int iv, .int ug])), (aR, .inl (cO, n, .inr (.inr (.inr (.inr g))))), (aK, .inr (1, [.ref aC, .ref b1, .ref b2, .int (nI k), .int rk, .int (nI ra), .int rw, .int lw])), (b1, .inl (cI, 4, .inl sa)), (b2, .inl (cI, 4, .inl sw)), (aC, .inr (0, [.ref aM, .int (nI wy), .ref a1, .ref a2, .ref a3, .int us])), (a1, .inl (cI, 8, .inl st)), (a2, .inl (cI, 8, .inl ua)), (a3, .inl (cI, 32, .inl wd))]) hP hD hS hA [2] [0, 1, 3, 4, 5, 6, 7, 8] [0, 1, 8, 2, 3, 4, 5, 6, 7] rfl rfl rfl (by decide) (by decide) (by decide)
    (va_runVN (b := aK) (As := []) (rest := []) ⟨hx, hb, hml, hown, hts⟩ (c_waits_0 l D cI cO aK aC b1 b2 k ra rk rw lw (by first | assumption | omega) H.size) ⟨va_cnB 0 hts g_Core_waits rfl rfl rfl (hN _ in_w3) (hts _ iw_41) (by decide +kernel) ⟨by decide, by decide⟩, hts _ iw_87, hts _ iw_88⟩ (mk_preV (X := [(aB, .inr (3, [.ref aM, .ref aR, .int (nI sl), .int sv, .int iv, .int ug])), (aR, .inl (cO, n, .inr (.inr (.inr (.inr g))))), (aK, .inr (1, [.ref aC, .ref b1, .ref b2, .int (nI k), .int rk, .int (nI ra), .int rw, .int lw])), (b1, .inl (cI, 4, .inl sa)), (b2, .inl (cI, 4, .inl sw)), (aC, .inr (0, [.ref aM, .int (nI wy), .ref a1, .ref a2, .ref a3, .int us])), (a1, .inl (cI, 8, .inl st)), (a2, .inl (cI, 8, .inl ua)), (a3, .inl (cI, 32, .inl wd))]) (pl := []) hN hK hP hD [2] (by decide) rfl 2 rfl rfl rfl) rfl rfl hl.1 rfl (lv_room (Nat.le_of_ble_eq_true rfl)) d_Bus_drain_18 ⟨Nat.le_refl _, Nat.le_refl _⟩) (fun H locs hP hD hS => ?_)
  have hP : va_P D vwCl [(aB, .inr (3, [.ref aM, .ref aR, .int (nI sl), .int sv, .int iv, .int ug])), (aR, .inl (cO, n, .inr (.inr (.inr (.inr g))))), (aK, .inr (1, [.ref aC, .ref b1, .ref b2, .int (nI k), .int rk, .int (nI ra), .int rw, .int lw])), (b1, .inl (cI, 4, .inl sa)), (b2, .inl (cI, 4, .inl sw)), (aC, .inr (0, [.ref aM, .int (nI wy), .ref a1, .ref a2, .ref a3, .int us])), (a1, .inl (cI, 8, .inl st)), (a2, .inl (cI, 8, .inl ua)), (a3, .inl (cI, 32, .inl wd))] H := hP
  have hD : va_D A [(aB, .inr (3, [.ref aM, .ref aR, .int (nI sl), .int sv, .int iv, .int ug])), (aR, .inl (cO, n, .inr (.inr (.inr (.inr g))))), (aK, .inr (1, [.ref aC, .ref b1, .ref b2, .int (nI k), .int rk, .int (nI ra), .int rw, .int lw])), (b1, .inl (cI, 4, .inl sa)), (b2, .inl (cI, 4, .inl sw)), (aC, .inr (0, [.ref aM, .int (nI wy), .ref a1, .ref a2, .ref a3, .int us])), (a1, .inl (cI, 8, .inl st)), (a2, .inl (cI, 8, .inl ua)), (a3, .inl (cI, 32, .inl wd))] := hD
  refine lv_if_eq (tgt := 27) hx hb d_Bus_drain_21 rfl (fun _ => ?_) (fun h => absurd (by decide) h)
  refine lv_aload_n hx hb d_Bus_drain_27 rfl (lv_at hl 0 rfl) ?_
  refine va_getN (D := D) (ci := 1) (v := .int (nI k)) (C := R_Core) (T := T_Core) (N := 8) hx hb hts in_Core hown hK hP 2 rfl rfl 3 (by decide) (va_Nw.use rfl (hN _ in_w12)) (fun _ h9 => h9) rfl d_Bus_drain_28 ?_
  refine lv_if_ne (tgt := 37) hx hb d_Bus_drain_31 rfl (fun _ => ?_) (fun h => absurd h (nI_ne0 (by omega) (by omega)))
  refine lv_aload_n hx hb d_Bus_drain_37 rfl (lv_at hl 0 rfl) ?_
  refine lv_iconst (v := nI 2) hx hb d_Bus_drain_38 (by decide) ?_
  refine lv_aload_n hx hb d_Bus_drain_39 rfl (lv_at hl 0 rfl) ?_
  refine va_getN (D := D) (ci := 1) (v := .ref b1) (C := R_Core) (T := T_Core) (N := 8) hx hb hts in_Core hown hK hP 2 rfl rfl 1 (by decide) (va_Nw.use rfl (hN _ in_w14)) (fun _ h9 => h9) rfl d_Bus_drain_40 ?_
  refine lv_iconst (v := nI 0) hx hb d_Bus_drain_43 (by decide) ?_
  refine mk_iald hx hb hK hP 3 0 rfl rfl (j := 0) (by omega) (by decide) d_Bus_drain_44 ?_
  refine mk_top (show _ = nI j from hs0) ?_
  refine lv_aload_n hx hb d_Bus_drain_45 rfl (lv_at hl 0 rfl) ?_
  refine va_getN (D := D) (ci := 1) (v := .ref b2) (C := R_Core) (T := T_Core) (N := 8) hx hb hts in_Core hown hK hP 2 rfl rfl 2 (by decide) (va_Nw.use rfl (hN _ in_w5)) (fun _ h9 => h9) rfl d_Bus_drain_46 ?_
  refine lv_iconst (v := nI 0) hx hb d_Bus_drain_49 (by decide) ?_
  refine mk_iald hx hb hK hP 4 0 rfl rfl (j := 0) (by omega) (by decide) d_Bus_drain_50 ?_
  refine mk_calli (X := [(aB, .inr (3, [.ref aM, .ref aR, .int (nI sl), .int sv, .int iv, .int ug])), (aR, .inl (cO, n, .inr (.inr (.inr (.inr g))))), (aK, .inr (1, [.ref aC, .ref b1, .ref b2, .int (nI k), .int rk, .int (nI ra), .int rw, .int lw])), (b1, .inl (cI, 4, .inl sa)), (b2, .inl (cI, 4, .inl sw)), (aC, .inr (0, [.ref aM, .int (nI wy), .ref a1, .ref a2, .ref a3, .int us])), (a1, .inl (cI, 8, .inl st)), (a2, .inl (cI, 8, .inl ua)), (a3, .inl (cI, 32, .inl wd))]) (pl := []) (wc := [(aK, .inr (1, [.ref aC, .ref b1, .ref b2, .int (nI k), .int rk, .int (nI ra), .int rw, .int lw])), (b1, .inl (cI, 4, .inl sa)), (b2, .inl (cI, 4, .inl sw)), (aC, .inr (0, [.ref aM, .int (nI wy), .ref a1, .ref a2, .ref a3, .int us])), (a1, .inl (cI, 8, .inl st)), (a2, .inl (cI, 8, .inl ua)), (a3, .inl (cI, 32, .inl wd))]) (wr := [(aB, .inr (3, [.ref aM, .ref aR, .int (nI sl), .int sv, .int iv, .int ug])), (aR, .inl (cO, n, .inr (.inr (.inr (.inr g)))))]) (w1 := [(aK, .inr (1, [.ref aC, .ref b1, .ref b2, .int (nI (k - 1)), .int rk, .int (nI ra), .int rw, .int lw])), (b1, .inl (cI, 4, .inl (cs_sh sa (k - 1)))), (b2, .inl (cI, 4, .inl (cs_sh sw (k - 1)))), (aC, .inr (0, [.ref aM, .int (nI wy), .ref a1, .ref a2, .ref a3, .int (us + nI 1)])), (a1, .inl (cI, 8, .inl (upd st (j / 4) (nI 3)))), (a2, .inl (cI, 8, .inl (upd ua (j / 4) (us + nI 1)))), (a3, .inl (cI, 32, .inl (upd wd j ((sw 0)))))]) (X1 := [(aB, .inr (3, [.ref aM, .ref aR, .int (nI sl), .int sv, .int iv, .int ug])), (aR, .inl (cO, n, .inr (.inr (.inr (.inr g))))), (aK, .inr (1, [.ref aC, .ref b1, .ref b2, .int (nI (k - 1)), .int rk, .int (nI ra), .int rw, .int lw])), (b1, .inl (cI, 4, .inl (cs_sh sa (k - 1)))), (b2, .inl (cI, 4, .inl (cs_sh sw (k - 1)))), (aC, .inr (0, [.ref aM, .int (nI wy), .ref a1, .ref a2, .ref a3, .int (us + nI 1)])), (a1, .inl (cI, 8, .inl (upd st (j / 4) (nI 3)))), (a2, .inl (cI, 8, .inl (upd ua (j / 4) (us + nI 1)))), (a3, .inl (cI, 32, .inl (upd wd j ((sw 0)))))]) hP hD hS hA [2, 3, 4, 5, 6, 7, 8] [0, 1] [0, 1, 2, 3, 4, 5, 6, 7, 8] rfl rfl rfl (by decide) (by decide) (by decide)
    (va_runVN (b := aK) (As := [.int (nI 2), .int (nI j), .int (sw 0)]) (rest := []) ⟨hx, hb, hml, hown, hts⟩ (c_coa_own l D cI cO aK aC b1 b2 k ra rk rw lw aM a1 a2 a3 wy us st ua wd sa sw j (sw 0) (by first | assumption | omega) (by first | assumption | omega) (by first | assumption | omega) (by first | assumption | omega) H.size) ⟨va_cnB 3 hts g_Core_changeOrAsk rfl rfl rfl (hN _ in_w15) (hts _ iw_41) (by decide +kernel) ⟨by decide, by decide⟩, hts _ iw_117, hts _ iw_118⟩ (mk_preV (X := [(aB, .inr (3, [.ref aM, .ref aR, .int (nI sl), .int sv, .int iv, .int ug])), (aR, .inl (cO, n, .inr (.inr (.inr (.inr g))))), (aK, .inr (1, [.ref aC, .ref b1, .ref b2, .int (nI k), .int rk, .int (nI ra), .int rw, .int lw])), (b1, .inl (cI, 4, .inl sa)), (b2, .inl (cI, 4, .inl sw)), (aC, .inr (0, [.ref aM, .int (nI wy), .ref a1, .ref a2, .ref a3, .int us])), (a1, .inl (cI, 8, .inl st)), (a2, .inl (cI, 8, .inl ua)), (a3, .inl (cI, 32, .inl wd))]) (pl := []) hN hK hP hD [2, 3, 4, 5, 6, 7, 8] (by decide) rfl 2 rfl rfl rfl) rfl rfl hl.1 rfl (lv_room (Nat.le_of_ble_eq_true rfl)) d_Bus_drain_51 ⟨Nat.le_refl _, Nat.le_refl _⟩) (fun H locs hP hD hS => ?_)
  have hP : va_P D vwCl [(aB, .inr (3, [.ref aM, .ref aR, .int (nI sl), .int sv, .int iv, .int ug])), (aR, .inl (cO, n, .inr (.inr (.inr (.inr g))))), (aK, .inr (1, [.ref aC, .ref b1, .ref b2, .int (nI (k - 1)), .int rk, .int (nI ra), .int rw, .int lw])), (b1, .inl (cI, 4, .inl (cs_sh sa (k - 1)))), (b2, .inl (cI, 4, .inl (cs_sh sw (k - 1)))), (aC, .inr (0, [.ref aM, .int (nI wy), .ref a1, .ref a2, .ref a3, .int (us + nI 1)])), (a1, .inl (cI, 8, .inl (upd st (j / 4) (nI 3)))), (a2, .inl (cI, 8, .inl (upd ua (j / 4) (us + nI 1)))), (a3, .inl (cI, 32, .inl (upd wd j ((sw 0)))))] H := hP
  have hD : va_D A [(aB, .inr (3, [.ref aM, .ref aR, .int (nI sl), .int sv, .int iv, .int ug])), (aR, .inl (cO, n, .inr (.inr (.inr (.inr g))))), (aK, .inr (1, [.ref aC, .ref b1, .ref b2, .int (nI (k - 1)), .int rk, .int (nI ra), .int rw, .int lw])), (b1, .inl (cI, 4, .inl (cs_sh sa (k - 1)))), (b2, .inl (cI, 4, .inl (cs_sh sw (k - 1)))), (aC, .inr (0, [.ref aM, .int (nI wy), .ref a1, .ref a2, .ref a3, .int (us + nI 1)])), (a1, .inl (cI, 8, .inl (upd st (j / 4) (nI 3)))), (a2, .inl (cI, 8, .inl (upd ua (j / 4) (us + nI 1)))), (a3, .inl (cI, 32, .inl (upd wd j ((sw 0)))))] := hD
  exact mk_iret hx hb hr hlocks hK hP hD hS d_Bus_drain_54 rfl rfl
set_option maxRecDepth 100000 in
set_option maxHeartbeats 4000000 in
theorem c_cao_bc (l : Launch) (D : va_G) (cI cO : ClassId) (aB aM aR n sl : Nat) (sv iv ug : Int32) (g : Nat → Option Nat) (x kd y0 y1 : Int32) (hn : n ≤ 4) (hx0 : ¬ vp_in x n) : mk_M l y_Bus_changeAtOnce w_Bus_changeAtOnce ({ frames := 1, cells := 0, slots := 0, locals := 21 } : Room) D (tysK cI cO) [.ref aB, .int x, .int kd, .int y0, .int y1] [(aB, .inr (3, [.ref aM, .ref aR, .int (nI sl), .int sv, .int iv, .int ug])), (aR, .inl (cO, n, .inr (.inr (.inr (.inr g)))))] (mk_Qi D (tysK cI cO) (-1) [(aB, .inr (3, [.ref aM, .ref aR, .int (nI sl), .int sv, .int iv, .int ug])), (aR, .inl (cO, n, .inr (.inr (.inr (.inr g)))))]) := by
  refine mk_start (cc := b_Bus_changeAtOnce) (maxL := 6) (ret := (some FieldType.int)) (by decide) (Nat.le_of_ble_eq_true rfl) (fun p e s m below meth c A ls H locs hx hb hml hr hlocks hnm hts hN hown hK hP hD hA hl hS => ?_)
  have hl : lv_has ls 6 [(0, .ref aB), (1, .int x), (2, .int kd), (3, .int y0), (4, .int y1)] := hl
  refine lv_aload_n hx hb d_Bus_changeAtOnce_0 rfl (lv_at hl 0 rfl) ?_
  refine lv_iload_n hx hb d_Bus_changeAtOnce_1 rfl (lv_at hl 1 rfl) ?_
  refine mk_calli (X := [(aB, .inr (3, [.ref aM, .ref aR, .int (nI sl), .int sv, .int iv, .int ug])), (aR, .inl (cO, n, .inr (.inr (.inr (.inr g)))))]) (pl := []) (wc := [(aB, .inr (3, [.ref aM, .ref aR, .int (nI sl), .int sv, .int iv, .int ug])), (aR, .inl (cO, n, .inr (.inr (.inr (.inr g)))))]) (wr := []) (w1 := [(aB, .inr (3, [.ref aM, .ref aR, .int (nI sl), .int sv, .int iv, .int ug])), (aR, .inl (cO, n, .inr (.inr (.inr (.inr g)))))]) (X1 := [(aB, .inr (3, [.ref aM, .ref aR, .int (nI sl), .int sv, .int iv, .int ug])), (aR, .inl (cO, n, .inr (.inr (.inr (.inr g)))))]) hP hD hS hA [0, 1] [] [0, 1] rfl rfl rfl (by decide) (by decide) (by decide)
    (va_runV (b := aB) (As := [.int x]) (rest := []) ⟨hx, hb, hml, hown, hts⟩ (c_isCore_0 l D cI cO aB aM aR n sl sv iv ug g x (by first | assumption | omega) (by first | assumption | omega) H.size) ⟨callB_of 1 hts g_Bus_isCore rfl rfl rfl (hts _ iw_39) (hts _ iw_78) (by decide +kernel) ⟨by decide, by decide⟩, hts _ iw_82, hts _ iw_83⟩ (mk_preV (X := [(aB, .inr (3, [.ref aM, .ref aR, .int (nI sl), .int sv, .int iv, .int ug])), (aR, .inl (cO, n, .inr (.inr (.inr (.inr g)))))]) (pl := []) hN hK hP hD [0, 1] (by decide) rfl 0 rfl rfl rfl) rfl rfl hl.1 rfl (lv_room (Nat.le_of_ble_eq_true rfl)) d_Bus_changeAtOnce_2 ⟨Nat.le_refl _, Nat.le_refl _⟩) (fun H locs hP hD hS => ?_)
  have hP : va_P D vwCl [(aB, .inr (3, [.ref aM, .ref aR, .int (nI sl), .int sv, .int iv, .int ug])), (aR, .inl (cO, n, .inr (.inr (.inr (.inr g)))))] H := hP
  have hD : va_D A [(aB, .inr (3, [.ref aM, .ref aR, .int (nI sl), .int sv, .int iv, .int ug])), (aR, .inl (cO, n, .inr (.inr (.inr (.inr g)))))] := hD
  refine lv_if_eq (tgt := 15) hx hb d_Bus_changeAtOnce_5 rfl (fun _ => ?_) (fun h => absurd (by decide) h)
  refine lv_iconst (v := (-1)) hx hb d_Bus_changeAtOnce_15 (by decide) ?_
  exact mk_iret hx hb hr hlocks hK hP hD hS d_Bus_changeAtOnce_16 rfl rfl
set_option maxRecDepth 100000 in
set_option maxHeartbeats 4000000 in
theorem c_cao_ba (l : Launch) (D : va_G) (cI cO : ClassId) (aB aM aR n sl : Nat) (sv iv ug : Int32) (g : Nat → Option Nat) (i : Nat) (kd y0 y1 : Int32) (hn : n ≤ 4) (hi : i < n) (hy0 : ¬ vp_in y0 32) : mk_M l y_Bus_changeAtOnce w_Bus_changeAtOnce ({ frames := 1, cells := 0, slots := 0, locals := 21 } : Room) D (tysK cI cO) [.ref aB, .int (nI i), .int kd, .int y0, .int y1] [(aB, .inr (3, [.ref aM, .ref aR, .int (nI sl), .int sv, .int iv, .int ug])), (aR, .inl (cO, n, .inr (.inr (.inr (.inr g)))))] (mk_Qi D (tysK cI cO) (-1) [(aB, .inr (3, [.ref aM, .ref aR, .int (nI sl), .int sv, .int iv, .int ug])), (aR, .inl (cO, n, .inr (.inr (.inr (.inr g)))))]) := by
  refine mk_start (cc := b_Bus_changeAtOnce) (maxL := 6) (ret := (some FieldType.int)) (by decide) (Nat.le_of_ble_eq_true rfl) (fun p e s m below meth c A ls H locs hx hb hml hr hlocks hnm hts hN hown hK hP hD hA hl hS => ?_)
  have hl : lv_has ls 6 [(0, .ref aB), (1, .int (nI i)), (2, .int kd), (3, .int y0), (4, .int y1)] := hl
  refine lv_aload_n hx hb d_Bus_changeAtOnce_0 rfl (lv_at hl 0 rfl) ?_
  refine lv_iload_n hx hb d_Bus_changeAtOnce_1 rfl (lv_at hl 1 rfl) ?_
  refine mk_calli (X := [(aB, .inr (3, [.ref aM, .ref aR, .int (nI sl), .int sv, .int iv, .int ug])), (aR, .inl (cO, n, .inr (.inr (.inr (.inr g)))))]) (pl := []) (wc := [(aB, .inr (3, [.ref aM, .ref aR, .int (nI sl), .int sv, .int iv, .int ug])), (aR, .inl (cO, n, .inr (.inr (.inr (.inr g)))))]) (wr := []) (w1 := [(aB, .inr (3, [.ref aM, .ref aR, .int (nI sl), .int sv, .int iv, .int ug])), (aR, .inl (cO, n, .inr (.inr (.inr (.inr g)))))]) (X1 := [(aB, .inr (3, [.ref aM, .ref aR, .int (nI sl), .int sv, .int iv, .int ug])), (aR, .inl (cO, n, .inr (.inr (.inr (.inr g)))))]) hP hD hS hA [0, 1] [] [0, 1] rfl rfl rfl (by decide) (by decide) (by decide)
    (va_runV (b := aB) (As := [.int (nI i)]) (rest := []) ⟨hx, hb, hml, hown, hts⟩ (c_isCore_1 l D cI cO aB aM aR n sl sv iv ug g i (by first | assumption | omega) (by first | assumption | omega) H.size) ⟨callB_of 1 hts g_Bus_isCore rfl rfl rfl (hts _ iw_39) (hts _ iw_78) (by decide +kernel) ⟨by decide, by decide⟩, hts _ iw_82, hts _ iw_83⟩ (mk_preV (X := [(aB, .inr (3, [.ref aM, .ref aR, .int (nI sl), .int sv, .int iv, .int ug])), (aR, .inl (cO, n, .inr (.inr (.inr (.inr g)))))]) (pl := []) hN hK hP hD [0, 1] (by decide) rfl 0 rfl rfl rfl) rfl rfl hl.1 rfl (lv_room (Nat.le_of_ble_eq_true rfl)) d_Bus_changeAtOnce_2 ⟨Nat.le_refl _, Nat.le_refl _⟩) (fun H locs hP hD hS => ?_)
  have hP : va_P D vwCl [(aB, .inr (3, [.ref aM, .ref aR, .int (nI sl), .int sv, .int iv, .int ug])), (aR, .inl (cO, n, .inr (.inr (.inr (.inr g)))))] H := hP
  have hD : va_D A [(aB, .inr (3, [.ref aM, .ref aR, .int (nI sl), .int sv, .int iv, .int ug])), (aR, .inl (cO, n, .inr (.inr (.inr (.inr g)))))] := hD
  refine lv_if_eq (tgt := 15) hx hb d_Bus_changeAtOnce_5 rfl (fun h => absurd h (by decide)) (fun _ => ?_)
  refine lv_iload_n hx hb d_Bus_changeAtOnce_8 rfl (lv_at hl 3 rfl) ?_
  refine mk_calli (X := [(aB, .inr (3, [.ref aM, .ref aR, .int (nI sl), .int sv, .int iv, .int ug])), (aR, .inl (cO, n, .inr (.inr (.inr (.inr g)))))]) (pl := []) (wc := []) (wr := [(aB, .inr (3, [.ref aM, .ref aR, .int (nI sl), .int sv, .int iv, .int ug])), (aR, .inl (cO, n, .inr (.inr (.inr (.inr g)))))]) (w1 := []) (X1 := [(aB, .inr (3, [.ref aM, .ref aR, .int (nI sl), .int sv, .int iv, .int ug])), (aR, .inl (cO, n, .inr (.inr (.inr (.inr g)))))]) hP hD hS hA [] [0, 1] [0, 1] rfl rfl rfl (by decide) (by decide) (by decide)
    (va_runS (As := [.int y0]) (rest := []) ⟨hx, hb, hml, hown, hts⟩ (c_isAddress_0 l D cI cO y0 (by first | assumption | omega) H.size) ⟨callB_of 1 hts g_Bus_isAddress rfl rfl rfl (hts _ iw_39) (hts _ iw_79) (by decide +kernel) ⟨by decide, by decide⟩, hts _ iw_85⟩ (mk_preS (X := [(aB, .inr (3, [.ref aM, .ref aR, .int (nI sl), .int sv, .int iv, .int ug])), (aR, .inl (cO, n, .inr (.inr (.inr (.inr g)))))]) (pl := []) hN hK hP hD [] (by decide) rfl) rfl rfl hl.1 rfl (lv_room (Nat.le_of_ble_eq_true rfl)) d_Bus_changeAtOnce_9 ⟨Nat.le_refl _, Nat.le_refl _⟩) (fun H locs hP hD hS => ?_)
  have hP : va_P D vwCl [(aB, .inr (3, [.ref aM, .ref aR, .int (nI sl), .int sv, .int iv, .int ug])), (aR, .inl (cO, n, .inr (.inr (.inr (.inr g)))))] H := hP
  have hD : va_D A [(aB, .inr (3, [.ref aM, .ref aR, .int (nI sl), .int sv, .int iv, .int ug])), (aR, .inl (cO, n, .inr (.inr (.inr (.inr g)))))] := hD
  refine lv_if_ne (tgt := 17) hx hb d_Bus_changeAtOnce_12 rfl (fun h => absurd (by decide) h) (fun _ => ?_)
  refine lv_iconst (v := (-1)) hx hb d_Bus_changeAtOnce_15 (by decide) ?_
  exact mk_iret hx hb hr hlocks hK hP hD hS d_Bus_changeAtOnce_16 rfl rfl
set_option maxRecDepth 100000 in
set_option maxHeartbeats 4000000 in
theorem c_cao_busy (l : Launch) (D : va_G) (cI cO : ClassId) (aB aM aR n sl : Nat) (sv iv ug : Int32) (g : Nat → Option Nat) (i : Nat) (aK aC b1 b2 k ra : Nat) (rk rw lw : Int32) (j : Nat) (kd x : Int32) (hn : n ≤ 4) (hi : i < n) (hg : g i = some aK) (hb1 : ¬ rk = 0) (hj : j < 32) : mk_M l y_Bus_changeAtOnce w_Bus_changeAtOnce ({ frames := 1, cells := 0, slots := 0, locals := 21 } : Room) D (tysK cI cO) [.ref aB, .int (nI i), .int kd, .int (nI j), .int x] [(aB, .inr (3, [.ref aM, .ref aR, .int (nI sl), .int sv, .int iv, .int ug])), (aR, .inl (cO, n, .inr (.inr (.inr (.inr g))))), (aK, .inr (1, [.ref aC, .ref b1, .ref b2, .int (nI k), .int rk, .int (nI ra), .int rw, .int lw]))] (mk_Qi D (tysK cI cO) (-2) [(aB, .inr (3, [.ref aM, .ref aR, .int (nI sl), .int sv, .int iv, .int ug])), (aR, .inl (cO, n, .inr (.inr (.inr (.inr g))))), (aK, .inr (1, [.ref aC, .ref b1, .ref b2, .int (nI k), .int rk, .int (nI ra), .int rw, .int lw]))]) := by
  refine mk_start (cc := b_Bus_changeAtOnce) (maxL := 6) (ret := (some FieldType.int)) (by decide) (Nat.le_of_ble_eq_true rfl) (fun p e s m below meth c A ls H locs hx hb hml hr hlocks hnm hts hN hown hK hP hD hA hl hS => ?_)
  have hl : lv_has ls 6 [(0, .ref aB), (1, .int (nI i)), (2, .int kd), (3, .int (nI j)), (4, .int x)] := hl
  refine lv_aload_n hx hb d_Bus_changeAtOnce_0 rfl (lv_at hl 0 rfl) ?_
  refine lv_iload_n hx hb d_Bus_changeAtOnce_1 rfl (lv_at hl 1 rfl) ?_
  refine mk_calli (X := [(aB, .inr (3, [.ref aM, .ref aR, .int (nI sl), .int sv, .int iv, .int ug])), (aR, .inl (cO, n, .inr (.inr (.inr (.inr g))))), (aK, .inr (1, [.ref aC, .ref b1, .ref b2, .int (nI k), .int rk, .int (nI ra), .int rw, .int lw]))]) (pl := []) (wc := [(aB, .inr (3, [.ref aM, .ref aR, .int (nI sl), .int sv, .int iv, .int ug])), (aR, .inl (cO, n, .inr (.inr (.inr (.inr g)))))]) (wr := [(aK, .inr (1, [.ref aC, .ref b1, .ref b2, .int (nI k), .int rk, .int (nI ra), .int rw, .int lw]))]) (w1 := [(aB, .inr (3, [.ref aM, .ref aR, .int (nI sl), .int sv, .int iv, .int ug])), (aR, .inl (cO, n, .inr (.inr (.inr (.inr g)))))]) (X1 := [(aB, .inr (3, [.ref aM, .ref aR, .int (nI sl), .int sv, .int iv, .int ug])), (aR, .inl (cO, n, .inr (.inr (.inr (.inr g))))), (aK, .inr (1, [.ref aC, .ref b1, .ref b2, .int (nI k), .int rk, .int (nI ra), .int rw, .int lw]))]) hP hD hS hA [0, 1] [2] [1, 2, 0] rfl rfl rfl (by decide) (by decide) (by decide)
    (va_runV (b := aB) (As := [.int (nI i)]) (rest := []) ⟨hx, hb, hml, hown, hts⟩ (c_isCore_1 l D cI cO aB aM aR n sl sv iv ug g i (by first | assumption | omega) (by first | assumption | omega) H.size) ⟨callB_of 1 hts g_Bus_isCore rfl rfl rfl (hts _ iw_39) (hts _ iw_78) (by decide +kernel) ⟨by decide, by decide⟩, hts _ iw_82, hts _ iw_83⟩ (mk_preV (X := [(aB, .inr (3, [.ref aM, .ref aR, .int (nI sl), .int sv, .int iv, .int ug])), (aR, .inl (cO, n, .inr (.inr (.inr (.inr g))))), (aK, .inr (1, [.ref aC, .ref b1, .ref b2, .int (nI k), .int rk, .int (nI ra), .int rw, .int lw]))]) (pl := []) hN hK hP hD [0, 1] (by decide) rfl 0 rfl rfl rfl) rfl rfl hl.1 rfl (lv_room (Nat.le_of_ble_eq_true rfl)) d_Bus_changeAtOnce_2 ⟨Nat.le_refl _, Nat.le_refl _⟩) (fun H locs hP hD hS => ?_)
  have hP : va_P D vwCl [(aB, .inr (3, [.ref aM, .ref aR, .int (nI sl), .int sv, .int iv, .int ug])), (aR, .inl (cO, n, .inr (.inr (.inr (.inr g))))), (aK, .inr (1, [.ref aC, .ref b1, .ref b2, .int (nI k), .int rk, .int (nI ra), .int rw, .int lw]))] H := hP
  have hD : va_D A [(aB, .inr (3, [.ref aM, .ref aR, .int (nI sl), .int sv, .int iv, .int ug])), (aR, .inl (cO, n, .inr (.inr (.inr (.inr g))))), (aK, .inr (1, [.ref aC, .ref b1, .ref b2, .int (nI k), .int rk, .int (nI ra), .int rw, .int lw]))] := hD
  refine lv_if_eq (tgt := 15) hx hb d_Bus_changeAtOnce_5 rfl (fun h => absurd h (by decide)) (fun _ => ?_)
  refine lv_iload_n hx hb d_Bus_changeAtOnce_8 rfl (lv_at hl 3 rfl) ?_
  refine mk_calli (X := [(aB, .inr (3, [.ref aM, .ref aR, .int (nI sl), .int sv, .int iv, .int ug])), (aR, .inl (cO, n, .inr (.inr (.inr (.inr g))))), (aK, .inr (1, [.ref aC, .ref b1, .ref b2, .int (nI k), .int rk, .int (nI ra), .int rw, .int lw]))]) (pl := []) (wc := []) (wr := [(aB, .inr (3, [.ref aM, .ref aR, .int (nI sl), .int sv, .int iv, .int ug])), (aR, .inl (cO, n, .inr (.inr (.inr (.inr g))))), (aK, .inr (1, [.ref aC, .ref b1, .ref b2, .int (nI k), .int rk, .int (nI ra), .int rw, .int lw]))]) (w1 := []) (X1 := [(aB, .inr (3, [.ref aM, .ref aR, .int (nI sl), .int sv, .int iv, .int ug])), (aR, .inl (cO, n, .inr (.inr (.inr (.inr g))))), (aK, .inr (1, [.ref aC, .ref b1, .ref b2, .int (nI k), .int rk, .int (nI ra), .int rw, .int lw]))]) hP hD hS hA [] [0, 1, 2] [0, 1, 2] rfl rfl rfl (by decide) (by decide) (by decide)
    (va_runS (As := [.int (nI j)]) (rest := []) ⟨hx, hb, hml, hown, hts⟩ (c_isAddress_1 l D cI cO j (by first | assumption | omega) H.size) ⟨callB_of 1 hts g_Bus_isAddress rfl rfl rfl (hts _ iw_39) (hts _ iw_79) (by decide +kernel) ⟨by decide, by decide⟩, hts _ iw_85⟩ (mk_preS (X := [(aB, .inr (3, [.ref aM, .ref aR, .int (nI sl), .int sv, .int iv, .int ug])), (aR, .inl (cO, n, .inr (.inr (.inr (.inr g))))), (aK, .inr (1, [.ref aC, .ref b1, .ref b2, .int (nI k), .int rk, .int (nI ra), .int rw, .int lw]))]) (pl := []) hN hK hP hD [] (by decide) rfl) rfl rfl hl.1 rfl (lv_room (Nat.le_of_ble_eq_true rfl)) d_Bus_changeAtOnce_9 ⟨Nat.le_refl _, Nat.le_refl _⟩) (fun H locs hP hD hS => ?_)
  have hP : va_P D vwCl [(aB, .inr (3, [.ref aM, .ref aR, .int (nI sl), .int sv, .int iv, .int ug])), (aR, .inl (cO, n, .inr (.inr (.inr (.inr g))))), (aK, .inr (1, [.ref aC, .ref b1, .ref b2, .int (nI k), .int rk, .int (nI ra), .int rw, .int lw]))] H := hP
  have hD : va_D A [(aB, .inr (3, [.ref aM, .ref aR, .int (nI sl), .int sv, .int iv, .int ug])), (aR, .inl (cO, n, .inr (.inr (.inr (.inr g))))), (aK, .inr (1, [.ref aC, .ref b1, .ref b2, .int (nI k), .int rk, .int (nI ra), .int rw, .int lw]))] := hD
  refine lv_if_ne (tgt := 17) hx hb d_Bus_changeAtOnce_12 rfl (fun _ => ?_) (fun h => absurd h (by decide))
  refine lv_aload_n hx hb d_Bus_changeAtOnce_17 rfl (lv_at hl 0 rfl) ?_
  refine va_get (D := D) (ci := 3) (v := .ref aR) (C := R_Bus) (T := T_Bus) (N := 6) hx hb hts in_Bus hown hK hP 0 rfl rfl 1 (by decide) (hts _ iw_53) (fun _ h9 => h9) rfl d_Bus_changeAtOnce_18 ?_
  refine lv_iload_n hx hb d_Bus_changeAtOnce_21 rfl (lv_at hl 1 rfl) ?_
  refine mk_aald hx hb hK hP 1 1 rfl rfl (j := i) (b := aK) (by omega) (by omega) hg d_Bus_changeAtOnce_22 ?_
  refine lv_astore hx hb d_Bus_changeAtOnce_23 hl (by decide) rfl (fun ls hl => ?_)
  have hl : lv_has ls 6 [(5, .ref aK), (0, .ref aB), (1, .int (nI i)), (2, .int kd), (3, .int (nI j)), (4, .int x)] := hl
  refine lv_aload hx hb d_Bus_changeAtOnce_25 (lv_at hl 0 rfl) ?_
  refine mk_calli (X := [(aB, .inr (3, [.ref aM, .ref aR, .int (nI sl), .int sv, .int iv, .int ug])), (aR, .inl (cO, n, .inr (.inr (.inr (.inr g))))), (aK, .inr (1, [.ref aC, .ref b1, .ref b2, .int (nI k), .int rk, .int (nI ra), .int rw, .int lw]))]) (pl := []) (wc := [(aK, .inr (1, [.ref aC, .ref b1, .ref b2, .int (nI k), .int rk, .int (nI ra), .int rw, .int lw]))]) (wr := [(aB, .inr (3, [.ref aM, .ref aR, .int (nI sl), .int sv, .int iv, .int ug])), (aR, .inl (cO, n, .inr (.inr (.inr (.inr g)))))]) (w1 := [(aK, .inr (1, [.ref aC, .ref b1, .ref b2, .int (nI k), .int rk, .int (nI ra), .int rw, .int lw]))]) (X1 := [(aB, .inr (3, [.ref aM, .ref aR, .int (nI sl), .int sv, .int iv, .int ug])), (aR, .inl (cO, n, .inr (.inr (.inr (.inr g))))), (aK, .inr (1, [.ref aC, .ref b1, .ref b2, .int (nI k), .int rk, .int (nI ra), .int rw, .int lw]))]) hP hD hS hA [2] [0, 1] [0, 1, 2] rfl rfl rfl (by decide) (by decide) (by decide)
    (va_runVN (b := aK) (As := []) (rest := []) ⟨hx, hb, hml, hown, hts⟩ (c_waits_1 l D cI cO aK aC b1 b2 k ra rk rw lw (by first | assumption | omega) H.size) ⟨va_cnB 0 hts g_Core_waits rfl rfl rfl (hN _ in_w3) (hts _ iw_41) (by decide +kernel) ⟨by decide, by decide⟩, hts _ iw_87, hts _ iw_88⟩ (mk_preV (X := [(aB, .inr (3, [.ref aM, .ref aR, .int (nI sl), .int sv, .int iv, .int ug])), (aR, .inl (cO, n, .inr (.inr (.inr (.inr g))))), (aK, .inr (1, [.ref aC, .ref b1, .ref b2, .int (nI k), .int rk, .int (nI ra), .int rw, .int lw]))]) (pl := []) hN hK hP hD [2] (by decide) rfl 2 rfl rfl rfl) rfl rfl hl.1 rfl (lv_room (Nat.le_of_ble_eq_true rfl)) d_Bus_changeAtOnce_27 ⟨Nat.le_refl _, Nat.le_refl _⟩) (fun H locs hP hD hS => ?_)
  have hP : va_P D vwCl [(aB, .inr (3, [.ref aM, .ref aR, .int (nI sl), .int sv, .int iv, .int ug])), (aR, .inl (cO, n, .inr (.inr (.inr (.inr g))))), (aK, .inr (1, [.ref aC, .ref b1, .ref b2, .int (nI k), .int rk, .int (nI ra), .int rw, .int lw]))] H := hP
  have hD : va_D A [(aB, .inr (3, [.ref aM, .ref aR, .int (nI sl), .int sv, .int iv, .int ug])), (aR, .inl (cO, n, .inr (.inr (.inr (.inr g))))), (aK, .inr (1, [.ref aC, .ref b1, .ref b2, .int (nI k), .int rk, .int (nI ra), .int rw, .int lw]))] := hD
  refine lv_if_eq (tgt := 36) hx hb d_Bus_changeAtOnce_30 rfl (fun h => absurd h (by decide)) (fun _ => ?_)
  refine lv_bipush (v := (-2)) hx hb d_Bus_changeAtOnce_33 (by decide) ?_
  exact mk_iret hx hb hr hlocks hK hP hD hS d_Bus_changeAtOnce_35 rfl rfl
set_option maxRecDepth 100000 in
set_option maxHeartbeats 4000000 in
theorem c_cao_not (l : Launch) (D : va_G) (cI cO : ClassId) (aB aM aR n sl : Nat) (sv iv ug : Int32) (g : Nat → Option Nat) (i : Nat) (aK aC b1 b2 k ra : Nat) (rk rw lw : Int32) (j : Nat) (kd x : Int32) (hn : n ≤ 4) (hi : i < n) (hg : g i = some aK) (hb1 : rk = 0) (hj : j < 32) (hk0 : 1 ≤ k) (hk : k ≤ 4) : mk_M l y_Bus_changeAtOnce w_Bus_changeAtOnce ({ frames := 1, cells := 0, slots := 0, locals := 21 } : Room) D (tysK cI cO) [.ref aB, .int (nI i), .int kd, .int (nI j), .int x] [(aB, .inr (3, [.ref aM, .ref aR, .int (nI sl), .int sv, .int iv, .int ug])), (aR, .inl (cO, n, .inr (.inr (.inr (.inr g))))), (aK, .inr (1, [.ref aC, .ref b1, .ref b2, .int (nI k), .int rk, .int (nI ra), .int rw, .int lw]))] (mk_Qi D (tysK cI cO) (-4) [(aB, .inr (3, [.ref aM, .ref aR, .int (nI sl), .int sv, .int iv, .int ug])), (aR, .inl (cO, n, .inr (.inr (.inr (.inr g))))), (aK, .inr (1, [.ref aC, .ref b1, .ref b2, .int (nI k), .int rk, .int (nI ra), .int rw, .int lw]))]) := by
  refine mk_start (cc := b_Bus_changeAtOnce) (maxL := 6) (ret := (some FieldType.int)) (by decide) (Nat.le_of_ble_eq_true rfl) (fun p e s m below meth c A ls H locs hx hb hml hr hlocks hnm hts hN hown hK hP hD hA hl hS => ?_)
  have hl : lv_has ls 6 [(0, .ref aB), (1, .int (nI i)), (2, .int kd), (3, .int (nI j)), (4, .int x)] := hl
  refine lv_aload_n hx hb d_Bus_changeAtOnce_0 rfl (lv_at hl 0 rfl) ?_
  refine lv_iload_n hx hb d_Bus_changeAtOnce_1 rfl (lv_at hl 1 rfl) ?_
  refine mk_calli (X := [(aB, .inr (3, [.ref aM, .ref aR, .int (nI sl), .int sv, .int iv, .int ug])), (aR, .inl (cO, n, .inr (.inr (.inr (.inr g))))), (aK, .inr (1, [.ref aC, .ref b1, .ref b2, .int (nI k), .int rk, .int (nI ra), .int rw, .int lw]))]) (pl := []) (wc := [(aB, .inr (3, [.ref aM, .ref aR, .int (nI sl), .int sv, .int iv, .int ug])), (aR, .inl (cO, n, .inr (.inr (.inr (.inr g)))))]) (wr := [(aK, .inr (1, [.ref aC, .ref b1, .ref b2, .int (nI k), .int rk, .int (nI ra), .int rw, .int lw]))]) (w1 := [(aB, .inr (3, [.ref aM, .ref aR, .int (nI sl), .int sv, .int iv, .int ug])), (aR, .inl (cO, n, .inr (.inr (.inr (.inr g)))))]) (X1 := [(aB, .inr (3, [.ref aM, .ref aR, .int (nI sl), .int sv, .int iv, .int ug])), (aR, .inl (cO, n, .inr (.inr (.inr (.inr g))))), (aK, .inr (1, [.ref aC, .ref b1, .ref b2, .int (nI k), .int rk, .int (nI ra), .int rw, .int lw]))]) hP hD hS hA [0, 1] [2] [1, 2, 0] rfl rfl rfl (by decide) (by decide) (by decide)
    (va_runV (b := aB) (As := [.int (nI i)]) (rest := []) ⟨hx, hb, hml, hown, hts⟩ (c_isCore_1 l D cI cO aB aM aR n sl sv iv ug g i (by first | assumption | omega) (by first | assumption | omega) H.size) ⟨callB_of 1 hts g_Bus_isCore rfl rfl rfl (hts _ iw_39) (hts _ iw_78) (by decide +kernel) ⟨by decide, by decide⟩, hts _ iw_82, hts _ iw_83⟩ (mk_preV (X := [(aB, .inr (3, [.ref aM, .ref aR, .int (nI sl), .int sv, .int iv, .int ug])), (aR, .inl (cO, n, .inr (.inr (.inr (.inr g))))), (aK, .inr (1, [.ref aC, .ref b1, .ref b2, .int (nI k), .int rk, .int (nI ra), .int rw, .int lw]))]) (pl := []) hN hK hP hD [0, 1] (by decide) rfl 0 rfl rfl rfl) rfl rfl hl.1 rfl (lv_room (Nat.le_of_ble_eq_true rfl)) d_Bus_changeAtOnce_2 ⟨Nat.le_refl _, Nat.le_refl _⟩) (fun H locs hP hD hS => ?_)
  have hP : va_P D vwCl [(aB, .inr (3, [.ref aM, .ref aR, .int (nI sl), .int sv, .int iv, .int ug])), (aR, .inl (cO, n, .inr (.inr (.inr (.inr g))))), (aK, .inr (1, [.ref aC, .ref b1, .ref b2, .int (nI k), .int rk, .int (nI ra), .int rw, .int lw]))] H := hP
  have hD : va_D A [(aB, .inr (3, [.ref aM, .ref aR, .int (nI sl), .int sv, .int iv, .int ug])), (aR, .inl (cO, n, .inr (.inr (.inr (.inr g))))), (aK, .inr (1, [.ref aC, .ref b1, .ref b2, .int (nI k), .int rk, .int (nI ra), .int rw, .int lw]))] := hD
  refine lv_if_eq (tgt := 15) hx hb d_Bus_changeAtOnce_5 rfl (fun h => absurd h (by decide)) (fun _ => ?_)
  refine lv_iload_n hx hb d_Bus_changeAtOnce_8 rfl (lv_at hl 3 rfl) ?_
  refine mk_calli (X := [(aB, .inr (3, [.ref aM, .ref aR, .int (nI sl), .int sv, .int iv, .int ug])), (aR, .inl (cO, n, .inr (.inr (.inr (.inr g))))), (aK, .inr (1, [.ref aC, .ref b1, .ref b2, .int (nI k), .int rk, .int (nI ra), .int rw, .int lw]))]) (pl := []) (wc := []) (wr := [(aB, .inr (3, [.ref aM, .ref aR, .int (nI sl), .int sv, .int iv, .int ug])), (aR, .inl (cO, n, .inr (.inr (.inr (.inr g))))), (aK, .inr (1, [.ref aC, .ref b1, .ref b2, .int (nI k), .int rk, .int (nI ra), .int rw, .int lw]))]) (w1 := []) (X1 := [(aB, .inr (3, [.ref aM, .ref aR, .int (nI sl), .int sv, .int iv, .int ug])), (aR, .inl (cO, n, .inr (.inr (.inr (.inr g))))), (aK, .inr (1, [.ref aC, .ref b1, .ref b2, .int (nI k), .int rk, .int (nI ra), .int rw, .int lw]))]) hP hD hS hA [] [0, 1, 2] [0, 1, 2] rfl rfl rfl (by decide) (by decide) (by decide)
    (va_runS (As := [.int (nI j)]) (rest := []) ⟨hx, hb, hml, hown, hts⟩ (c_isAddress_1 l D cI cO j (by first | assumption | omega) H.size) ⟨callB_of 1 hts g_Bus_isAddress rfl rfl rfl (hts _ iw_39) (hts _ iw_79) (by decide +kernel) ⟨by decide, by decide⟩, hts _ iw_85⟩ (mk_preS (X := [(aB, .inr (3, [.ref aM, .ref aR, .int (nI sl), .int sv, .int iv, .int ug])), (aR, .inl (cO, n, .inr (.inr (.inr (.inr g))))), (aK, .inr (1, [.ref aC, .ref b1, .ref b2, .int (nI k), .int rk, .int (nI ra), .int rw, .int lw]))]) (pl := []) hN hK hP hD [] (by decide) rfl) rfl rfl hl.1 rfl (lv_room (Nat.le_of_ble_eq_true rfl)) d_Bus_changeAtOnce_9 ⟨Nat.le_refl _, Nat.le_refl _⟩) (fun H locs hP hD hS => ?_)
  have hP : va_P D vwCl [(aB, .inr (3, [.ref aM, .ref aR, .int (nI sl), .int sv, .int iv, .int ug])), (aR, .inl (cO, n, .inr (.inr (.inr (.inr g))))), (aK, .inr (1, [.ref aC, .ref b1, .ref b2, .int (nI k), .int rk, .int (nI ra), .int rw, .int lw]))] H := hP
  have hD : va_D A [(aB, .inr (3, [.ref aM, .ref aR, .int (nI sl), .int sv, .int iv, .int ug])), (aR, .inl (cO, n, .inr (.inr (.inr (.inr g))))), (aK, .inr (1, [.ref aC, .ref b1, .ref b2, .int (nI k), .int rk, .int (nI ra), .int rw, .int lw]))] := hD
  refine lv_if_ne (tgt := 17) hx hb d_Bus_changeAtOnce_12 rfl (fun _ => ?_) (fun h => absurd h (by decide))
  refine lv_aload_n hx hb d_Bus_changeAtOnce_17 rfl (lv_at hl 0 rfl) ?_
  refine va_get (D := D) (ci := 3) (v := .ref aR) (C := R_Bus) (T := T_Bus) (N := 6) hx hb hts in_Bus hown hK hP 0 rfl rfl 1 (by decide) (hts _ iw_53) (fun _ h9 => h9) rfl d_Bus_changeAtOnce_18 ?_
  refine lv_iload_n hx hb d_Bus_changeAtOnce_21 rfl (lv_at hl 1 rfl) ?_
  refine mk_aald hx hb hK hP 1 1 rfl rfl (j := i) (b := aK) (by omega) (by omega) hg d_Bus_changeAtOnce_22 ?_
  refine lv_astore hx hb d_Bus_changeAtOnce_23 hl (by decide) rfl (fun ls hl => ?_)
  have hl : lv_has ls 6 [(5, .ref aK), (0, .ref aB), (1, .int (nI i)), (2, .int kd), (3, .int (nI j)), (4, .int x)] := hl
  refine lv_aload hx hb d_Bus_changeAtOnce_25 (lv_at hl 0 rfl) ?_
  refine mk_calli (X := [(aB, .inr (3, [.ref aM, .ref aR, .int (nI sl), .int sv, .int iv, .int ug])), (aR, .inl (cO, n, .inr (.inr (.inr (.inr g))))), (aK, .inr (1, [.ref aC, .ref b1, .ref b2, .int (nI k), .int rk, .int (nI ra), .int rw, .int lw]))]) (pl := []) (wc := [(aK, .inr (1, [.ref aC, .ref b1, .ref b2, .int (nI k), .int rk, .int (nI ra), .int rw, .int lw]))]) (wr := [(aB, .inr (3, [.ref aM, .ref aR, .int (nI sl), .int sv, .int iv, .int ug])), (aR, .inl (cO, n, .inr (.inr (.inr (.inr g)))))]) (w1 := [(aK, .inr (1, [.ref aC, .ref b1, .ref b2, .int (nI k), .int rk, .int (nI ra), .int rw, .int lw]))]) (X1 := [(aB, .inr (3, [.ref aM, .ref aR, .int (nI sl), .int sv, .int iv, .int ug])), (aR, .inl (cO, n, .inr (.inr (.inr (.inr g))))), (aK, .inr (1, [.ref aC, .ref b1, .ref b2, .int (nI k), .int rk, .int (nI ra), .int rw, .int lw]))]) hP hD hS hA [2] [0, 1] [0, 1, 2] rfl rfl rfl (by decide) (by decide) (by decide)
    (va_runVN (b := aK) (As := []) (rest := []) ⟨hx, hb, hml, hown, hts⟩ (c_waits_0 l D cI cO aK aC b1 b2 k ra rk rw lw (by first | assumption | omega) H.size) ⟨va_cnB 0 hts g_Core_waits rfl rfl rfl (hN _ in_w3) (hts _ iw_41) (by decide +kernel) ⟨by decide, by decide⟩, hts _ iw_87, hts _ iw_88⟩ (mk_preV (X := [(aB, .inr (3, [.ref aM, .ref aR, .int (nI sl), .int sv, .int iv, .int ug])), (aR, .inl (cO, n, .inr (.inr (.inr (.inr g))))), (aK, .inr (1, [.ref aC, .ref b1, .ref b2, .int (nI k), .int rk, .int (nI ra), .int rw, .int lw]))]) (pl := []) hN hK hP hD [2] (by decide) rfl 2 rfl rfl rfl) rfl rfl hl.1 rfl (lv_room (Nat.le_of_ble_eq_true rfl)) d_Bus_changeAtOnce_27 ⟨Nat.le_refl _, Nat.le_refl _⟩) (fun H locs hP hD hS => ?_)
  have hP : va_P D vwCl [(aB, .inr (3, [.ref aM, .ref aR, .int (nI sl), .int sv, .int iv, .int ug])), (aR, .inl (cO, n, .inr (.inr (.inr (.inr g))))), (aK, .inr (1, [.ref aC, .ref b1, .ref b2, .int (nI k), .int rk, .int (nI ra), .int rw, .int lw]))] H := hP
  have hD : va_D A [(aB, .inr (3, [.ref aM, .ref aR, .int (nI sl), .int sv, .int iv, .int ug])), (aR, .inl (cO, n, .inr (.inr (.inr (.inr g))))), (aK, .inr (1, [.ref aC, .ref b1, .ref b2, .int (nI k), .int rk, .int (nI ra), .int rw, .int lw]))] := hD
  refine lv_if_eq (tgt := 36) hx hb d_Bus_changeAtOnce_30 rfl (fun _ => ?_) (fun h => absurd (by decide) h)
  refine lv_aload hx hb d_Bus_changeAtOnce_36 (lv_at hl 0 rfl) ?_
  refine va_getN (D := D) (ci := 1) (v := .int (nI k)) (C := R_Core) (T := T_Core) (N := 8) hx hb hts in_Core hown hK hP 2 rfl rfl 3 (by decide) (va_Nw.use rfl (hN _ in_w12)) (fun _ h9 => h9) rfl d_Bus_changeAtOnce_38 ?_
  refine lv_if_eq (tgt := 47) hx hb d_Bus_changeAtOnce_41 rfl (fun h => absurd h (nI_ne0 (by omega) (by omega))) (fun _ => ?_)
  refine lv_bipush (v := (-4)) hx hb d_Bus_changeAtOnce_44 (by decide) ?_
  exact mk_iret hx hb hr hlocks hK hP hD hS d_Bus_changeAtOnce_46 rfl rfl
set_option maxRecDepth 100000 in
set_option maxHeartbeats 4000000 in
theorem c_cao_ask (l : Launch) (D : va_G) (cI cO : ClassId) (aB aM aR n sl : Nat) (sv iv ug : Int32) (g : Nat → Option Nat) (i : Nat) (aK aC b1 b2 k ra : Nat) (rk rw lw : Int32) (a1 a2 a3 wy : Nat) (us : Int32) (j : Nat) (kd x : Int32) (st : Nat → Int32) (hn : n ≤ 4) (hi : i < n) (hg : g i = some aK) (hb1 : rk = 0) (hj : j < 32) (hk : k = 0) (h1 : ¬ st (j / 4) = nI 2) (h2 : ¬ st (j / 4) = nI 3) : mk_M l y_Bus_changeAtOnce w_Bus_changeAtOnce ({ frames := 2, cells := 0, slots := 0, locals := 46 } : Room) D (tysK cI cO) [.ref aB, .int (nI i), .int kd, .int (nI j), .int x] [(aB, .inr (3, [.ref aM, .ref aR, .int (nI sl), .int sv, .int iv, .int ug])), (aR, .inl (cO, n, .inr (.inr (.inr (.inr g))))), (aK, .inr (1, [.ref aC, .ref b1, .ref b2, .int (nI k), .int rk, .int (nI ra), .int rw, .int lw])), (aC, .inr (0, [.ref aM, .int (nI wy), .ref a1, .ref a2, .ref a3, .int us])), (a1, .inl (cI, 8, .inl st))] (mk_Qi D (tysK cI cO) (nI 1) [(aB, .inr (3, [.ref aM, .ref aR, .int (nI sl), .int sv, .int iv, .int ug])), (aR, .inl (cO, n, .inr (.inr (.inr (.inr g))))), (aK, .inr (1, [.ref aC, .ref b1, .ref b2, .int (nI k), .int kd, .int (nI j), .int x, .int lw])), (aC, .inr (0, [.ref aM, .int (nI wy), .ref a1, .ref a2, .ref a3, .int us])), (a1, .inl (cI, 8, .inl st))]) := by
  refine mk_start (cc := b_Bus_changeAtOnce) (maxL := 6) (ret := (some FieldType.int)) (by decide) (Nat.le_of_ble_eq_true rfl) (fun p e s m below meth c A ls H locs hx hb hml hr hlocks hnm hts hN hown hK hP hD hA hl hS => ?_)
  have hl : lv_has ls 6 [(0, .ref aB), (1, .int (nI i)), (2, .int kd), (3, .int (nI j)), (4, .int x)] := hl
  refine lv_aload_n hx hb d_Bus_changeAtOnce_0 rfl (lv_at hl 0 rfl) ?_
  refine lv_iload_n hx hb d_Bus_changeAtOnce_1 rfl (lv_at hl 1 rfl) ?_
  refine mk_calli (X := [(aB, .inr (3, [.ref aM, .ref aR, .int (nI sl), .int sv, .int iv, .int ug])), (aR, .inl (cO, n, .inr (.inr (.inr (.inr g))))), (aK, .inr (1, [.ref aC, .ref b1, .ref b2, .int (nI k), .int rk, .int (nI ra), .int rw, .int lw])), (aC, .inr (0, [.ref aM, .int (nI wy), .ref a1, .ref a2, .ref a3, .int us])), (a1, .inl (cI, 8, .inl st))]) (pl := []) (wc := [(aB, .inr (3, [.ref aM, .ref aR, .int (nI sl), .int sv, .int iv, .int ug])), (aR, .inl (cO, n, .inr (.inr (.inr (.inr g)))))]) (wr := [(aK, .inr (1, [.ref aC, .ref b1, .ref b2, .int (nI k), .int rk, .int (nI ra), .int rw, .int lw])), (aC, .inr (0, [.ref aM, .int (nI wy), .ref a1, .ref a2, .ref a3, .int us])), (a1, .inl (cI, 8, .inl st))]) (w1 := [(aB, .inr (3, [.ref aM, .ref aR, .int (nI sl), .int sv, .int iv, .int ug])), (aR, .inl (cO, n, .inr (.inr (.inr (.inr g)))))]) (X1 := [(aB, .inr (3, [.ref aM, .ref aR, .int (nI sl), .int sv, .int iv, .int ug])), (aR, .inl (cO, n, .inr (.inr (.inr (.inr g))))), (aK, .inr (1, [.ref aC, .ref b1, .ref b2, .int (nI k), .int rk, .int (nI ra), .int rw, .int lw])), (aC, .inr (0, [.ref aM, .int (nI wy), .ref a1, .ref a2, .ref a3, .int us])), (a1, .inl (cI, 8, .inl st))]) hP hD hS hA [0, 1] [2, 3, 4] [3, 4, 0, 1, 2] rfl rfl rfl (by decide) (by decide) (by decide)
    (va_runV (b := aB) (As := [.int (nI i)]) (rest := []) ⟨hx, hb, hml, hown, hts⟩ (c_isCore_1 l D cI cO aB aM aR n sl sv iv ug g i (by first | assumption | omega) (by first | assumption | omega) H.size) ⟨callB_of 1 hts g_Bus_isCore rfl rfl rfl (hts _ iw_39) (hts _ iw_78) (by decide +kernel) ⟨by decide, by decide⟩, hts _ iw_82, hts _ iw_83⟩ (mk_preV (X := [(aB, .inr (3, [.ref aM, .ref aR, .int (nI sl), .int sv, .int iv, .int ug])), (aR, .inl (cO, n, .inr (.inr (.inr (.inr g))))), (aK, .inr (1, [.ref aC, .ref b1, .ref b2, .int (nI k), .int rk, .int (nI ra), .int rw, .int lw])), (aC, .inr (0, [.ref aM, .int (nI wy), .ref a1, .ref a2, .ref a3, .int us])), (a1, .inl (cI, 8, .inl st))]) (pl := []) hN hK hP hD [0, 1] (by decide) rfl 0 rfl rfl rfl) rfl rfl hl.1 rfl (lv_room (Nat.le_of_ble_eq_true rfl)) d_Bus_changeAtOnce_2 ⟨Nat.le_refl _, Nat.le_refl _⟩) (fun H locs hP hD hS => ?_)
  have hP : va_P D vwCl [(aB, .inr (3, [.ref aM, .ref aR, .int (nI sl), .int sv, .int iv, .int ug])), (aR, .inl (cO, n, .inr (.inr (.inr (.inr g))))), (aK, .inr (1, [.ref aC, .ref b1, .ref b2, .int (nI k), .int rk, .int (nI ra), .int rw, .int lw])), (aC, .inr (0, [.ref aM, .int (nI wy), .ref a1, .ref a2, .ref a3, .int us])), (a1, .inl (cI, 8, .inl st))] H := hP
  have hD : va_D A [(aB, .inr (3, [.ref aM, .ref aR, .int (nI sl), .int sv, .int iv, .int ug])), (aR, .inl (cO, n, .inr (.inr (.inr (.inr g))))), (aK, .inr (1, [.ref aC, .ref b1, .ref b2, .int (nI k), .int rk, .int (nI ra), .int rw, .int lw])), (aC, .inr (0, [.ref aM, .int (nI wy), .ref a1, .ref a2, .ref a3, .int us])), (a1, .inl (cI, 8, .inl st))] := hD
  refine lv_if_eq (tgt := 15) hx hb d_Bus_changeAtOnce_5 rfl (fun h => absurd h (by decide)) (fun _ => ?_)
  refine lv_iload_n hx hb d_Bus_changeAtOnce_8 rfl (lv_at hl 3 rfl) ?_
  refine mk_calli (X := [(aB, .inr (3, [.ref aM, .ref aR, .int (nI sl), .int sv, .int iv, .int ug])), (aR, .inl (cO, n, .inr (.inr (.inr (.inr g))))), (aK, .inr (1, [.ref aC, .ref b1, .ref b2, .int (nI k), .int rk, .int (nI ra), .int rw, .int lw])), (aC, .inr (0, [.ref aM, .int (nI wy), .ref a1, .ref a2, .ref a3, .int us])), (a1, .inl (cI, 8, .inl st))]) (pl := []) (wc := []) (wr := [(aB, .inr (3, [.ref aM, .ref aR, .int (nI sl), .int sv, .int iv, .int ug])), (aR, .inl (cO, n, .inr (.inr (.inr (.inr g))))), (aK, .inr (1, [.ref aC, .ref b1, .ref b2, .int (nI k), .int rk, .int (nI ra), .int rw, .int lw])), (aC, .inr (0, [.ref aM, .int (nI wy), .ref a1, .ref a2, .ref a3, .int us])), (a1, .inl (cI, 8, .inl st))]) (w1 := []) (X1 := [(aB, .inr (3, [.ref aM, .ref aR, .int (nI sl), .int sv, .int iv, .int ug])), (aR, .inl (cO, n, .inr (.inr (.inr (.inr g))))), (aK, .inr (1, [.ref aC, .ref b1, .ref b2, .int (nI k), .int rk, .int (nI ra), .int rw, .int lw])), (aC, .inr (0, [.ref aM, .int (nI wy), .ref a1, .ref a2, .ref a3, .int us])), (a1, .inl (cI, 8, .inl st))]) hP hD hS hA [] [0, 1, 2, 3, 4] [0, 1, 2, 3, 4] rfl rfl rfl (by decide) (by decide) (by decide)
    (va_runS (As := [.int (nI j)]) (rest := []) ⟨hx, hb, hml, hown, hts⟩ (c_isAddress_1 l D cI cO j (by first | assumption | omega) H.size) ⟨callB_of 1 hts g_Bus_isAddress rfl rfl rfl (hts _ iw_39) (hts _ iw_79) (by decide +kernel) ⟨by decide, by decide⟩, hts _ iw_85⟩ (mk_preS (X := [(aB, .inr (3, [.ref aM, .ref aR, .int (nI sl), .int sv, .int iv, .int ug])), (aR, .inl (cO, n, .inr (.inr (.inr (.inr g))))), (aK, .inr (1, [.ref aC, .ref b1, .ref b2, .int (nI k), .int rk, .int (nI ra), .int rw, .int lw])), (aC, .inr (0, [.ref aM, .int (nI wy), .ref a1, .ref a2, .ref a3, .int us])), (a1, .inl (cI, 8, .inl st))]) (pl := []) hN hK hP hD [] (by decide) rfl) rfl rfl hl.1 rfl (lv_room (Nat.le_of_ble_eq_true rfl)) d_Bus_changeAtOnce_9 ⟨Nat.le_refl _, Nat.le_refl _⟩) (fun H locs hP hD hS => ?_)
  have hP : va_P D vwCl [(aB, .inr (3, [.ref aM, .ref aR, .int (nI sl), .int sv, .int iv, .int ug])), (aR, .inl (cO, n, .inr (.inr (.inr (.inr g))))), (aK, .inr (1, [.ref aC, .ref b1, .ref b2, .int (nI k), .int rk, .int (nI ra), .int rw, .int lw])), (aC, .inr (0, [.ref aM, .int (nI wy), .ref a1, .ref a2, .ref a3, .int us])), (a1, .inl (cI, 8, .inl st))] H := hP
  have hD : va_D A [(aB, .inr (3, [.ref aM, .ref aR, .int (nI sl), .int sv, .int iv, .int ug])), (aR, .inl (cO, n, .inr (.inr (.inr (.inr g))))), (aK, .inr (1, [.ref aC, .ref b1, .ref b2, .int (nI k), .int rk, .int (nI ra), .int rw, .int lw])), (aC, .inr (0, [.ref aM, .int (nI wy), .ref a1, .ref a2, .ref a3, .int us])), (a1, .inl (cI, 8, .inl st))] := hD
  refine lv_if_ne (tgt := 17) hx hb d_Bus_changeAtOnce_12 rfl (fun _ => ?_) (fun h => absurd h (by decide))
  refine lv_aload_n hx hb d_Bus_changeAtOnce_17 rfl (lv_at hl 0 rfl) ?_
  refine va_get (D := D) (ci := 3) (v := .ref aR) (C := R_Bus) (T := T_Bus) (N := 6) hx hb hts in_Bus hown hK hP 0 rfl rfl 1 (by decide) (hts _ iw_53) (fun _ h9 => h9) rfl d_Bus_changeAtOnce_18 ?_
  refine lv_iload_n hx hb d_Bus_changeAtOnce_21 rfl (lv_at hl 1 rfl) ?_
  refine mk_aald hx hb hK hP 1 1 rfl rfl (j := i) (b := aK) (by omega) (by omega) hg d_Bus_changeAtOnce_22 ?_
  refine lv_astore hx hb d_Bus_changeAtOnce_23 hl (by decide) rfl (fun ls hl => ?_)
  have hl : lv_has ls 6 [(5, .ref aK), (0, .ref aB), (1, .int (nI i)), (2, .int kd), (3, .int (nI j)), (4, .int x)] := hl
  refine lv_aload hx hb d_Bus_changeAtOnce_25 (lv_at hl 0 rfl) ?_
  refine mk_calli (X := [(aB, .inr (3, [.ref aM, .ref aR, .int (nI sl), .int sv, .int iv, .int ug])), (aR, .inl (cO, n, .inr (.inr (.inr (.inr g))))), (aK, .inr (1, [.ref aC, .ref b1, .ref b2, .int (nI k), .int rk, .int (nI ra), .int rw, .int lw])), (aC, .inr (0, [.ref aM, .int (nI wy), .ref a1, .ref a2, .ref a3, .int us])), (a1, .inl (cI, 8, .inl st))]) (pl := []) (wc := [(aK, .inr (1, [.ref aC, .ref b1, .ref b2, .int (nI k), .int rk, .int (nI ra), .int rw, .int lw]))]) (wr := [(aB, .inr (3, [.ref aM, .ref aR, .int (nI sl), .int sv, .int iv, .int ug])), (aR, .inl (cO, n, .inr (.inr (.inr (.inr g))))), (aC, .inr (0, [.ref aM, .int (nI wy), .ref a1, .ref a2, .ref a3, .int us])), (a1, .inl (cI, 8, .inl st))]) (w1 := [(aK, .inr (1, [.ref aC, .ref b1, .ref b2, .int (nI k), .int rk, .int (nI ra), .int rw, .int lw]))]) (X1 := [(aB, .inr (3, [.ref aM, .ref aR, .int (nI sl), .int sv, .int iv, .int ug])), (aR, .inl (cO, n, .inr (.inr (.inr (.inr g))))), (aK, .inr (1, [.ref aC, .ref b1, .ref b2, .int (nI k), .int rk, .int (nI ra), .int rw, .int lw])), (aC, .inr (0, [.ref aM, .int (nI wy), .ref a1, .ref a2, .ref a3, .int us])), (a1, .inl (cI, 8, .inl st))]) hP hD hS hA [2] [0, 1, 3, 4] [0, 1, 4, 2, 3] rfl rfl rfl (by decide) (by decide) (by decide)
    (va_runVN (b := aK) (As := []) (rest := []) ⟨hx, hb, hml, hown, hts⟩ (c_waits_0 l D cI cO aK aC b1 b2 k ra rk rw lw (by first | assumption | omega) H.size) ⟨va_cnB 0 hts g_Core_waits rfl rfl rfl (hN _ in_w3) (hts _ iw_41) (by decide +kernel) ⟨by decide, by decide⟩, hts _ iw_87, hts _ iw_88⟩ (mk_preV (X := [(aB, .inr (3, [.ref aM, .ref aR, .int (nI sl), .int sv, .int iv, .int ug])), (aR, .inl (cO, n, .inr (.inr (.inr (.inr g))))), (aK, .inr (1, [.ref aC, .ref b1, .ref b2, .int (nI k), .int rk, .int (nI ra), .int rw, .int lw])), (aC, .inr (0, [.ref aM, .int (nI wy), .ref a1, .ref a2, .ref a3, .int us])), (a1, .inl (cI, 8, .inl st))]) (pl := []) hN hK hP hD [2] (by decide) rfl 2 rfl rfl rfl) rfl rfl hl.1 rfl (lv_room (Nat.le_of_ble_eq_true rfl)) d_Bus_changeAtOnce_27 ⟨Nat.le_refl _, Nat.le_refl _⟩) (fun H locs hP hD hS => ?_)
  have hP : va_P D vwCl [(aB, .inr (3, [.ref aM, .ref aR, .int (nI sl), .int sv, .int iv, .int ug])), (aR, .inl (cO, n, .inr (.inr (.inr (.inr g))))), (aK, .inr (1, [.ref aC, .ref b1, .ref b2, .int (nI k), .int rk, .int (nI ra), .int rw, .int lw])), (aC, .inr (0, [.ref aM, .int (nI wy), .ref a1, .ref a2, .ref a3, .int us])), (a1, .inl (cI, 8, .inl st))] H := hP
  have hD : va_D A [(aB, .inr (3, [.ref aM, .ref aR, .int (nI sl), .int sv, .int iv, .int ug])), (aR, .inl (cO, n, .inr (.inr (.inr (.inr g))))), (aK, .inr (1, [.ref aC, .ref b1, .ref b2, .int (nI k), .int rk, .int (nI ra), .int rw, .int lw])), (aC, .inr (0, [.ref aM, .int (nI wy), .ref a1, .ref a2, .ref a3, .int us])), (a1, .inl (cI, 8, .inl st))] := hD
  refine lv_if_eq (tgt := 36) hx hb d_Bus_changeAtOnce_30 rfl (fun _ => ?_) (fun h => absurd (by decide) h)
  refine lv_aload hx hb d_Bus_changeAtOnce_36 (lv_at hl 0 rfl) ?_
  refine va_getN (D := D) (ci := 1) (v := .int (nI k)) (C := R_Core) (T := T_Core) (N := 8) hx hb hts in_Core hown hK hP 2 rfl rfl 3 (by decide) (va_Nw.use rfl (hN _ in_w12)) (fun _ h9 => h9) rfl d_Bus_changeAtOnce_38 ?_
  refine lv_if_eq (tgt := 47) hx hb d_Bus_changeAtOnce_41 rfl (fun _ => ?_) (fun h => absurd (by rw [hk]; rfl) h)
  refine lv_aload hx hb d_Bus_changeAtOnce_47 (lv_at hl 0 rfl) ?_
  refine lv_iload_n hx hb d_Bus_changeAtOnce_49 rfl (lv_at hl 3 rfl) ?_
  refine lv_iload_n hx hb d_Bus_changeAtOnce_50 rfl (lv_at hl 4 rfl) ?_
  refine lv_iload hx hb d_Bus_changeAtOnce_51 (lv_at hl 5 rfl) ?_
  refine mk_calli (X := [(aB, .inr (3, [.ref aM, .ref aR, .int (nI sl), .int sv, .int iv, .int ug])), (aR, .inl (cO, n, .inr (.inr (.inr (.inr g))))), (aK, .inr (1, [.ref aC, .ref b1, .ref b2, .int (nI k), .int rk, .int (nI ra), .int rw, .int lw])), (aC, .inr (0, [.ref aM, .int (nI wy), .ref a1, .ref a2, .ref a3, .int us])), (a1, .inl (cI, 8, .inl st))]) (pl := []) (wc := [(aK, .inr (1, [.ref aC, .ref b1, .ref b2, .int (nI k), .int rk, .int (nI ra), .int rw, .int lw])), (aC, .inr (0, [.ref aM, .int (nI wy), .ref a1, .ref a2, .ref a3, .int us])), (a1, .inl (cI, 8, .inl st))]) (wr := [(aB, .inr (3, [.ref aM, .ref aR, .int (nI sl), .int sv, .int iv, .int ug])), (aR, .inl (cO, n, .inr (.inr (.inr (.inr g)))))]) (w1 := [(aK, .inr (1, [.ref aC, .ref b1, .ref b2, .int (nI k), .int kd, .int (nI j), .int x, .int lw])), (aC, .inr (0, [.ref aM, .int (nI wy), .ref a1, .ref a2, .ref a3, .int us])), (a1, .inl (cI, 8, .inl st))]) (X1 := [(aB, .inr (3, [.ref aM, .ref aR, .int (nI sl), .int sv, .int iv, .int ug])), (aR, .inl (cO, n, .inr (.inr (.inr (.inr g))))), (aK, .inr (1, [.ref aC, .ref b1, .ref b2, .int (nI k), .int kd, .int (nI j), .int x, .int lw])), (aC, .inr (0, [.ref aM, .int (nI wy), .ref a1, .ref a2, .ref a3, .int us])), (a1, .inl (cI, 8, .inl st))]) hP hD hS hA [2, 3, 4] [0, 1] [0, 1, 2, 3, 4] rfl rfl rfl (by decide) (by decide) (by decide)
    (va_runVN (b := aK) (As := [.int kd, .int (nI j), .int x]) (rest := []) ⟨hx, hb, hml, hown, hts⟩ (c_coa_ask l D cI cO aK aC b1 b2 k ra rk rw lw aM a1 a2 a3 wy us st kd j x (by first | assumption | omega) (by first | assumption | omega) (by first | assumption | omega) H.size) ⟨va_cnB 3 hts g_Core_changeOrAsk rfl rfl rfl (hN _ in_w15) (hts _ iw_41) (by decide +kernel) ⟨by decide, by decide⟩, hts _ iw_117, hts _ iw_118⟩ (mk_preV (X := [(aB, .inr (3, [.ref aM, .ref aR, .int (nI sl), .int sv, .int iv, .int ug])), (aR, .inl (cO, n, .inr (.inr (.inr (.inr g))))), (aK, .inr (1, [.ref aC, .ref b1, .ref b2, .int (nI k), .int rk, .int (nI ra), .int rw, .int lw])), (aC, .inr (0, [.ref aM, .int (nI wy), .ref a1, .ref a2, .ref a3, .int us])), (a1, .inl (cI, 8, .inl st))]) (pl := []) hN hK hP hD [2, 3, 4] (by decide) rfl 2 rfl rfl rfl) rfl rfl hl.1 rfl (lv_room (Nat.le_of_ble_eq_true rfl)) d_Bus_changeAtOnce_53 ⟨Nat.le_refl _, Nat.le_refl _⟩) (fun H locs hP hD hS => ?_)
  have hP : va_P D vwCl [(aB, .inr (3, [.ref aM, .ref aR, .int (nI sl), .int sv, .int iv, .int ug])), (aR, .inl (cO, n, .inr (.inr (.inr (.inr g))))), (aK, .inr (1, [.ref aC, .ref b1, .ref b2, .int (nI k), .int kd, .int (nI j), .int x, .int lw])), (aC, .inr (0, [.ref aM, .int (nI wy), .ref a1, .ref a2, .ref a3, .int us])), (a1, .inl (cI, 8, .inl st))] H := hP
  have hD : va_D A [(aB, .inr (3, [.ref aM, .ref aR, .int (nI sl), .int sv, .int iv, .int ug])), (aR, .inl (cO, n, .inr (.inr (.inr (.inr g))))), (aK, .inr (1, [.ref aC, .ref b1, .ref b2, .int (nI k), .int kd, .int (nI j), .int x, .int lw])), (aC, .inr (0, [.ref aM, .int (nI wy), .ref a1, .ref a2, .ref a3, .int us])), (a1, .inl (cI, 8, .inl st))] := hD
  exact mk_iret hx hb hr hlocks hK hP hD hS d_Bus_changeAtOnce_56 rfl rfl
set_option maxRecDepth 100000 in
set_option maxHeartbeats 4000000 in
theorem c_cao_tr (l : Launch) (D : va_G) (cI cO : ClassId) (aB aM aR n sl : Nat) (sv iv ug : Int32) (g : Nat → Option Nat) (i : Nat) (aK aC b1 b2 k ra : Nat) (rk rw lw : Int32) (a1 a2 a3 wy : Nat) (us : Int32) (j : Nat) (x : Int32) (st ua wd : Nat → Int32) (hn : n ≤ 4) (hi : i < n) (hg : g i = some aK) (hb1 : rk = 0) (hj : j < 32) (hk : k = 0) (h1 : st (j / 4) = nI 2 ∨ st (j / 4) = nI 3) : mk_M l y_Bus_changeAtOnce w_Bus_changeAtOnce ({ frames := 4, cells := 0, slots := 0, locals := 91 } : Room) D (tysK cI cO) [.ref aB, .int (nI i), .int (nI 3), .int (nI j), .int x] [(aB, .inr (3, [.ref aM, .ref aR, .int (nI sl), .int sv, .int iv, .int ug])), (aR, .inl (cO, n, .inr (.inr (.inr (.inr g))))), (aK, .inr (1, [.ref aC, .ref b1, .ref b2, .int (nI k), .int rk, .int (nI ra), .int rw, .int lw])), (aC, .inr (0, [.ref aM, .int (nI wy), .ref a1, .ref a2, .ref a3, .int us])), (a1, .inl (cI, 8, .inl st)), (a2, .inl (cI, 8, .inl ua)), (a3, .inl (cI, 32, .inl wd))] (mk_Qi D (tysK cI cO) (nI 0) [(aB, .inr (3, [.ref aM, .ref aR, .int (nI sl), .int sv, .int iv, .int ug])), (aR, .inl (cO, n, .inr (.inr (.inr (.inr g))))), (aK, .inr (1, [.ref aC, .ref b1, .ref b2, .int (nI k), .int rk, .int (nI ra), .int rw, .int (wd j)])), (aC, .inr (0, [.ref aM, .int (nI wy), .ref a1, .ref a2, .ref a3, .int (us + nI 1)])), (a1, .inl (cI, 8, .inl (upd st (j / 4) (nI 3)))), (a2, .inl (cI, 8, .inl (upd ua (j / 4) (us + nI 1)))), (a3, .inl (cI, 32, .inl (upd wd j (x))))]) := by
  refine mk_start (cc := b_Bus_changeAtOnce) (maxL := 6) (ret := (some FieldType.int)) (by decide) (Nat.le_of_ble_eq_true rfl) (fun p e s m below meth c A ls H locs hx hb hml hr hlocks hnm hts hN hown hK hP hD hA hl hS => ?_)
  have hl : lv_has ls 6 [(0, .ref aB), (1, .int (nI i)), (2, .int (nI 3)), (3, .int (nI j)), (4, .int x)] := hl
  refine lv_aload_n hx hb d_Bus_changeAtOnce_0 rfl (lv_at hl 0 rfl) ?_
  refine lv_iload_n hx hb d_Bus_changeAtOnce_1 rfl (lv_at hl 1 rfl) ?_
  refine mk_calli (X := [(aB, .inr (3, [.ref aM, .ref aR, .int (nI sl), .int sv, .int iv, .int ug])), (aR, .inl (cO, n, .inr (.inr (.inr (.inr g))))), (aK, .inr (1, [.ref aC, .ref b1, .ref b2, .int (nI k), .int rk, .int (nI ra), .int rw, .int lw])), (aC, .inr (0, [.ref aM, .int (nI wy), .ref a1, .ref a2, .ref a3, .int us])), (a1, .inl (cI, 8, .inl st)), (a2, .inl (cI, 8, .inl ua)), (a3, .inl (cI, 32, .inl wd))]) (pl := []) (wc := [(aB, .inr (3, [.ref aM, .ref aR, .int (nI sl), .int sv, .int iv, .int ug])), (aR, .inl (cO, n, .inr (.inr (.inr (.inr g)))))]) (wr := [(aK, .inr (1, [.ref aC, .ref b1, .ref b2, .int (nI k), .int rk, .int (nI ra), .int rw, .int lw])), (aC, .inr (0, [.ref aM, .int (nI wy), .ref a1, .ref a2, .ref a3, .int us])), (a1, .inl (cI, 8, .inl st)), (a2, .inl (cI, 8, .inl ua)), (a3, .inl (cI, 32, .inl wd))]) (w1 := [(aB, .inr (3, [.ref aM, .ref aR, .int (nI sl), .int sv, .int iv, .int ug])), (aR, .inl (cO, n, .inr (.inr (.inr (.inr g)))))]) (X1 := [(aB, .inr (3, [.ref aM, .ref aR, .int (nI sl), .int sv, .int iv, .int ug])), (aR, .inl (cO, n, .inr (.inr (.inr (.inr g))))), (aK, .inr (1, [.ref aC, .ref b1, .ref b2, .int (nI k), .int rk, .int (nI ra), .int rw, .int lw])), (aC, .inr (0, [.ref aM, .int (nI wy), .ref a1, .ref a2, .ref a3, .int us])), (a1, .inl (cI, 8, .inl st)), (a2, .inl (cI, 8, .inl ua)), (a3, .inl (cI, 32, .inl wd))]) hP hD hS hA [0, 1] [2, 3, 4, 5, 6] [5, 6, 0, 1, 2, 3, 4] rfl rfl rfl (by decide) (by decide) (by decide)
    (va_runV (b := aB) (As := [.int (nI i)]) (rest := []) ⟨hx, hb, hml, hown, hts⟩ (c_isCore_1 l D cI cO aB aM aR n sl sv iv ug g i (by first | assumption | omega) (by first | assumption | omega) H.size) ⟨callB_of 1 hts g_Bus_isCore rfl rfl rfl (hts _ iw_39) (hts _ iw_78) (by decide +kernel) ⟨by decide, by decide⟩, hts _ iw_82, hts _ iw_83⟩ (mk_preV (X := [(aB, .inr (3, [.ref aM, .ref aR, .int (nI sl), .int sv, .int iv, .int ug])), (aR, .inl (cO, n, .inr (.inr (.inr (.inr g))))), (aK, .inr (1, [.ref aC, .ref b1, .ref b2, .int (nI k), .int rk, .int (nI ra), .int rw, .int lw])), (aC, .inr (0, [.ref aM, .int (nI wy), .ref a1, .ref a2, .ref a3, .int us])), (a1, .inl (cI, 8, .inl st)), (a2, .inl (cI, 8, .inl ua)), (a3, .inl (cI, 32, .inl wd))]) (pl := []) hN hK hP hD [0, 1] (by decide) rfl 0 rfl rfl rfl) rfl rfl hl.1 rfl (lv_room (Nat.le_of_ble_eq_true rfl)) d_Bus_changeAtOnce_2 ⟨Nat.le_refl _, Nat.le_refl _⟩) (fun H locs hP hD hS => ?_)
  have hP : va_P D vwCl [(aB, .inr (3, [.ref aM, .ref aR, .int (nI sl), .int sv, .int iv, .int ug])), (aR, .inl (cO, n, .inr (.inr (.inr (.inr g))))), (aK, .inr (1, [.ref aC, .ref b1, .ref b2, .int (nI k), .int rk, .int (nI ra), .int rw, .int lw])), (aC, .inr (0, [.ref aM, .int (nI wy), .ref a1, .ref a2, .ref a3, .int us])), (a1, .inl (cI, 8, .inl st)), (a2, .inl (cI, 8, .inl ua)), (a3, .inl (cI, 32, .inl wd))] H := hP
  have hD : va_D A [(aB, .inr (3, [.ref aM, .ref aR, .int (nI sl), .int sv, .int iv, .int ug])), (aR, .inl (cO, n, .inr (.inr (.inr (.inr g))))), (aK, .inr (1, [.ref aC, .ref b1, .ref b2, .int (nI k), .int rk, .int (nI ra), .int rw, .int lw])), (aC, .inr (0, [.ref aM, .int (nI wy), .ref a1, .ref a2, .ref a3, .int us])), (a1, .inl (cI, 8, .inl st)), (a2, .inl (cI, 8, .inl ua)), (a3, .inl (cI, 32, .inl wd))] := hD
  refine lv_if_eq (tgt := 15) hx hb d_Bus_changeAtOnce_5 rfl (fun h => absurd h (by decide)) (fun _ => ?_)
  refine lv_iload_n hx hb d_Bus_changeAtOnce_8 rfl (lv_at hl 3 rfl) ?_
  refine mk_calli (X := [(aB, .inr (3, [.ref aM, .ref aR, .int (nI sl), .int sv, .int iv, .int ug])), (aR, .inl (cO, n, .inr (.inr (.inr (.inr g))))), (aK, .inr (1, [.ref aC, .ref b1, .ref b2, .int (nI k), .int rk, .int (nI ra), .int rw, .int lw])), (aC, .inr (0, [.ref aM, .int (nI wy), .ref a1, .ref a2, .ref a3, .int us])), (a1, .inl (cI, 8, .inl st)), (a2, .inl (cI, 8, .inl ua)), (a3, .inl (cI, 32, .inl wd))]) (pl := []) (wc := []) (wr := [(aB, .inr (3, [.ref aM, .ref aR, .int (nI sl), .int sv, .int iv, .int ug])), (aR, .inl (cO, n, .inr (.inr (.inr (.inr g))))), (aK, .inr (1, [.ref aC, .ref b1, .ref b2, .int (nI k), .int rk, .int (nI ra), .int rw, .int lw])), (aC, .inr (0, [.ref aM, .int (nI wy), .ref a1, .ref a2, .ref a3, .int us])), (a1, .inl (cI, 8, .inl st)), (a2, .inl (cI, 8, .inl ua)), (a3, .inl (cI, 32, .inl wd))]) (w1 := []) (X1 := [(aB, .inr (3, [.ref aM, .ref aR, .int (nI sl), .int sv, .int iv, .int ug])), (aR, .inl (cO, n, .inr (.inr (.inr (.inr g))))), (aK, .inr (1, [.ref aC, .ref b1, .ref b2, .int (nI k), .int rk, .int (nI ra), .int rw, .int lw])), (aC, .inr (0, [.ref aM, .int (nI wy), .ref a1, .ref a2, .ref a3, .int us])), (a1, .inl (cI, 8, .inl st)), (a2, .inl (cI, 8, .inl ua)), (a3, .inl (cI, 32, .inl wd))]) hP hD hS hA [] [0, 1, 2, 3, 4, 5, 6] [0, 1, 2, 3, 4, 5, 6] rfl rfl rfl (by decide) (by decide) (by decide)
    (va_runS (As := [.int (nI j)]) (rest := []) ⟨hx, hb, hml, hown, hts⟩ (c_isAddress_1 l D cI cO j (by first | assumption | omega) H.size) ⟨callB_of 1 hts g_Bus_isAddress rfl rfl rfl (hts _ iw_39) (hts _ iw_79) (by decide +kernel) ⟨by decide, by decide⟩, hts _ iw_85⟩ (mk_preS (X := [(aB, .inr (3, [.ref aM, .ref aR, .int (nI sl), .int sv, .int iv, .int ug])), (aR, .inl (cO, n, .inr (.inr (.inr (.inr g))))), (aK, .inr (1, [.ref aC, .ref b1, .ref b2, .int (nI k), .int rk, .int (nI ra), .int rw, .int lw])), (aC, .inr (0, [.ref aM, .int (nI wy), .ref a1, .ref a2, .ref a3, .int us])), (a1, .inl (cI, 8, .inl st)), (a2, .inl (cI, 8, .inl ua)), (a3, .inl (cI, 32, .inl wd))]) (pl := []) hN hK hP hD [] (by decide) rfl) rfl rfl hl.1 rfl (lv_room (Nat.le_of_ble_eq_true rfl)) d_Bus_changeAtOnce_9 ⟨Nat.le_refl _, Nat.le_refl _⟩) (fun H locs hP hD hS => ?_)
  have hP : va_P D vwCl [(aB, .inr (3, [.ref aM, .ref aR, .int (nI sl), .int sv, .int iv, .int ug])), (aR, .inl (cO, n, .inr (.inr (.inr (.inr g))))), (aK, .inr (1, [.ref aC, .ref b1, .ref b2, .int (nI k), .int rk, .int (nI ra), .int rw, .int lw])), (aC, .inr (0, [.ref aM, .int (nI wy), .ref a1, .ref a2, .ref a3, .int us])), (a1, .inl (cI, 8, .inl st)), (a2, .inl (cI, 8, .inl ua)), (a3, .inl (cI, 32, .inl wd))] H := hP
  have hD : va_D A [(aB, .inr (3, [.ref aM, .ref aR, .int (nI sl), .int sv, .int iv, .int ug])), (aR, .inl (cO, n, .inr (.inr (.inr (.inr g))))), (aK, .inr (1, [.ref aC, .ref b1, .ref b2, .int (nI k), .int rk, .int (nI ra), .int rw, .int lw])), (aC, .inr (0, [.ref aM, .int (nI wy), .ref a1, .ref a2, .ref a3, .int us])), (a1, .inl (cI, 8, .inl st)), (a2, .inl (cI, 8, .inl ua)), (a3, .inl (cI, 32, .inl wd))] := hD
  refine lv_if_ne (tgt := 17) hx hb d_Bus_changeAtOnce_12 rfl (fun _ => ?_) (fun h => absurd h (by decide))
  refine lv_aload_n hx hb d_Bus_changeAtOnce_17 rfl (lv_at hl 0 rfl) ?_
  refine va_get (D := D) (ci := 3) (v := .ref aR) (C := R_Bus) (T := T_Bus) (N := 6) hx hb hts in_Bus hown hK hP 0 rfl rfl 1 (by decide) (hts _ iw_53) (fun _ h9 => h9) rfl d_Bus_changeAtOnce_18 ?_
  refine lv_iload_n hx hb d_Bus_changeAtOnce_21 rfl (lv_at hl 1 rfl) ?_
  refine mk_aald hx hb hK hP 1 1 rfl rfl (j := i) (b := aK) (by omega) (by omega) hg d_Bus_changeAtOnce_22 ?_
  refine lv_astore hx hb d_Bus_changeAtOnce_23 hl (by decide) rfl (fun ls hl => ?_)
  have hl : lv_has ls 6 [(5, .ref aK), (0, .ref aB), (1, .int (nI i)), (2, .int (nI 3)), (3, .int (nI j)), (4, .int x)] := hl
  refine lv_aload hx hb d_Bus_changeAtOnce_25 (lv_at hl 0 rfl) ?_
  refine mk_calli (X := [(aB, .inr (3, [.ref aM, .ref aR, .int (nI sl), .int sv, .int iv, .int ug])), (aR, .inl (cO, n, .inr (.inr (.inr (.inr g))))), (aK, .inr (1, [.ref aC, .ref b1, .ref b2, .int (nI k), .int rk, .int (nI ra), .int rw, .int lw])), (aC, .inr (0, [.ref aM, .int (nI wy), .ref a1, .ref a2, .ref a3, .int us])), (a1, .inl (cI, 8, .inl st)), (a2, .inl (cI, 8, .inl ua)), (a3, .inl (cI, 32, .inl wd))]) (pl := []) (wc := [(aK, .inr (1, [.ref aC, .ref b1, .ref b2, .int (nI k), .int rk, .int (nI ra), .int rw, .int lw]))]) (wr := [(aB, .inr (3, [.ref aM, .ref aR, .int (nI sl), .int sv, .int iv, .int ug])), (aR, .inl (cO, n, .inr (.inr (.inr (.inr g))))), (aC, .inr (0, [.ref aM, .int (nI wy), .ref a1, .ref a2, .ref a3, .int us])), (a1, .inl (cI, 8, .inl st)), (a2, .inl (cI, 8, .inl ua)), (a3, .inl (cI, 32, .inl wd))]) (w1 := [(aK, .inr (1, [.ref aC, .ref b1, .ref b2, .int (nI k), .int rk, .int (nI ra), .int rw, .int lw]))]) (X1 := [(aB, .inr (3, [.ref aM, .ref aR, .int (nI sl), .int sv, .int iv, .int ug])), (aR, .inl (cO, n, .inr (.inr (.inr (.inr g))))), (aK, .inr (1, [.ref aC, .ref b1, .ref b2, .int (nI k), .int rk, .int (nI ra), .int rw, .int lw])), (aC, .inr (0, [.ref aM, .int (nI wy), .ref a1, .ref a2, .ref a3, .int us])), (a1, .inl (cI, 8, .inl st)), (a2, .inl (cI, 8, .inl ua)), (a3, .inl (cI, 32, .inl wd))]) hP hD hS hA [2] [0, 1, 3, 4, 5, 6] [0, 1, 6, 2, 3, 4, 5] rfl rfl rfl (by decide) (by decide) (by decide)
    (va_runVN (b := aK) (As := []) (rest := []) ⟨hx, hb, hml, hown, hts⟩ (c_waits_0 l D cI cO aK aC b1 b2 k ra rk rw lw (by first | assumption | omega) H.size) ⟨va_cnB 0 hts g_Core_waits rfl rfl rfl (hN _ in_w3) (hts _ iw_41) (by decide +kernel) ⟨by decide, by decide⟩, hts _ iw_87, hts _ iw_88⟩ (mk_preV (X := [(aB, .inr (3, [.ref aM, .ref aR, .int (nI sl), .int sv, .int iv, .int ug])), (aR, .inl (cO, n, .inr (.inr (.inr (.inr g))))), (aK, .inr (1, [.ref aC, .ref b1, .ref b2, .int (nI k), .int rk, .int (nI ra), .int rw, .int lw])), (aC, .inr (0, [.ref aM, .int (nI wy), .ref a1, .ref a2, .ref a3, .int us])), (a1, .inl (cI, 8, .inl st)), (a2, .inl (cI, 8, .inl ua)), (a3, .inl (cI, 32, .inl wd))]) (pl := []) hN hK hP hD [2] (by decide) rfl 2 rfl rfl rfl) rfl rfl hl.1 rfl (lv_room (Nat.le_of_ble_eq_true rfl)) d_Bus_changeAtOnce_27 ⟨Nat.le_refl _, Nat.le_refl _⟩) (fun H locs hP hD hS => ?_)
  have hP : va_P D vwCl [(aB, .inr (3, [.ref aM, .ref aR, .int (nI sl), .int sv, .int iv, .int ug])), (aR, .inl (cO, n, .inr (.inr (.inr (.inr g))))), (aK, .inr (1, [.ref aC, .ref b1, .ref b2, .int (nI k), .int rk, .int (nI ra), .int rw, .int lw])), (aC, .inr (0, [.ref aM, .int (nI wy), .ref a1, .ref a2, .ref a3, .int us])), (a1, .inl (cI, 8, .inl st)), (a2, .inl (cI, 8, .inl ua)), (a3, .inl (cI, 32, .inl wd))] H := hP
  have hD : va_D A [(aB, .inr (3, [.ref aM, .ref aR, .int (nI sl), .int sv, .int iv, .int ug])), (aR, .inl (cO, n, .inr (.inr (.inr (.inr g))))), (aK, .inr (1, [.ref aC, .ref b1, .ref b2, .int (nI k), .int rk, .int (nI ra), .int rw, .int lw])), (aC, .inr (0, [.ref aM, .int (nI wy), .ref a1, .ref a2, .ref a3, .int us])), (a1, .inl (cI, 8, .inl st)), (a2, .inl (cI, 8, .inl ua)), (a3, .inl (cI, 32, .inl wd))] := hD
  refine lv_if_eq (tgt := 36) hx hb d_Bus_changeAtOnce_30 rfl (fun _ => ?_) (fun h => absurd (by decide) h)
  refine lv_aload hx hb d_Bus_changeAtOnce_36 (lv_at hl 0 rfl) ?_
  refine va_getN (D := D) (ci := 1) (v := .int (nI k)) (C := R_Core) (T := T_Core) (N := 8) hx hb hts in_Core hown hK hP 2 rfl rfl 3 (by decide) (va_Nw.use rfl (hN _ in_w12)) (fun _ h9 => h9) rfl d_Bus_changeAtOnce_38 ?_
  refine lv_if_eq (tgt := 47) hx hb d_Bus_changeAtOnce_41 rfl (fun _ => ?_) (fun h => absurd (by rw [hk]; rfl) h)
  refine lv_aload hx hb d_Bus_changeAtOnce_47 (lv_at hl 0 rfl) ?_
  refine lv_iload_n hx hb d_Bus_changeAtOnce_49 rfl (lv_at hl 3 rfl) ?_
  refine lv_iload_n hx hb d_Bus_changeAtOnce_50 rfl (lv_at hl 4 rfl) ?_
  refine lv_iload hx hb d_Bus_changeAtOnce_51 (lv_at hl 5 rfl) ?_
  refine mk_calli (X := [(aB, .inr (3, [.ref aM, .ref aR, .int (nI sl), .int sv, .int iv, .int ug])), (aR, .inl (cO, n, .inr (.inr (.inr (.inr g))))), (aK, .inr (1, [.ref aC, .ref b1, .ref b2, .int (nI k), .int rk, .int (nI ra), .int rw, .int lw])), (aC, .inr (0, [.ref aM, .int (nI wy), .ref a1, .ref a2, .ref a3, .int us])), (a1, .inl (cI, 8, .inl st)), (a2, .inl (cI, 8, .inl ua)), (a3, .inl (cI, 32, .inl wd))]) (pl := []) (wc := [(aK, .inr (1, [.ref aC, .ref b1, .ref b2, .int (nI k), .int rk, .int (nI ra), .int rw, .int lw])), (aC, .inr (0, [.ref aM, .int (nI wy), .ref a1, .ref a2, .ref a3, .int us])), (a1, .inl (cI, 8, .inl st)), (a2, .inl (cI, 8, .inl ua)), (a3, .inl (cI, 32, .inl wd))]) (wr := [(aB, .inr (3, [.ref aM, .ref aR, .int (nI sl), .int sv, .int iv, .int ug])), (aR, .inl (cO, n, .inr (.inr (.inr (.inr g)))))]) (w1 := [(aK, .inr (1, [.ref aC, .ref b1, .ref b2, .int (nI k), .int rk, .int (nI ra), .int rw, .int (wd j)])), (aC, .inr (0, [.ref aM, .int (nI wy), .ref a1, .ref a2, .ref a3, .int (us + nI 1)])), (a1, .inl (cI, 8, .inl (upd st (j / 4) (nI 3)))), (a2, .inl (cI, 8, .inl (upd ua (j / 4) (us + nI 1)))), (a3, .inl (cI, 32, .inl (upd wd j (x))))]) (X1 := [(aB, .inr (3, [.ref aM, .ref aR, .int (nI sl), .int sv, .int iv, .int ug])), (aR, .inl (cO, n, .inr (.inr (.inr (.inr g))))), (aK, .inr (1, [.ref aC, .ref b1, .ref b2, .int (nI k), .int rk, .int (nI ra), .int rw, .int (wd j)])), (aC, .inr (0, [.ref aM, .int (nI wy), .ref a1, .ref a2, .ref a3, .int (us + nI 1)])), (a1, .inl (cI, 8, .inl (upd st (j / 4) (nI 3)))), (a2, .inl (cI, 8, .inl (upd ua (j / 4) (us + nI 1)))), (a3, .inl (cI, 32, .inl (upd wd j (x))))]) hP hD hS hA [2, 3, 4, 5, 6] [0, 1] [0, 1, 2, 3, 4, 5, 6] rfl rfl rfl (by decide) (by decide) (by decide)
    (va_runVN (b := aK) (As := [.int (nI 3), .int (nI j), .int x]) (rest := []) ⟨hx, hb, hml, hown, hts⟩ (c_coa_tr l D cI cO aK aC b1 b2 k ra rk rw lw aM a1 a2 a3 wy us st ua wd j x (by first | assumption | omega) (by first | assumption | omega) H.size) ⟨va_cnB 3 hts g_Core_changeOrAsk rfl rfl rfl (hN _ in_w15) (hts _ iw_41) (by decide +kernel) ⟨by decide, by decide⟩, hts _ iw_117, hts _ iw_118⟩ (mk_preV (X := [(aB, .inr (3, [.ref aM, .ref aR, .int (nI sl), .int sv, .int iv, .int ug])), (aR, .inl (cO, n, .inr (.inr (.inr (.inr g))))), (aK, .inr (1, [.ref aC, .ref b1, .ref b2, .int (nI k), .int rk, .int (nI ra), .int rw, .int lw])), (aC, .inr (0, [.ref aM, .int (nI wy), .ref a1, .ref a2, .ref a3, .int us])), (a1, .inl (cI, 8, .inl st)), (a2, .inl (cI, 8, .inl ua)), (a3, .inl (cI, 32, .inl wd))]) (pl := []) hN hK hP hD [2, 3, 4, 5, 6] (by decide) rfl 2 rfl rfl rfl) rfl rfl hl.1 rfl (lv_room (Nat.le_of_ble_eq_true rfl)) d_Bus_changeAtOnce_53 ⟨Nat.le_refl _, Nat.le_refl _⟩) (fun H locs hP hD hS => ?_)
  have hP : va_P D vwCl [(aB, .inr (3, [.ref aM, .ref aR, .int (nI sl), .int sv, .int iv, .int ug])), (aR, .inl (cO, n, .inr (.inr (.inr (.inr g))))), (aK, .inr (1, [.ref aC, .ref b1, .ref b2, .int (nI k), .int rk, .int (nI ra), .int rw, .int (wd j)])), (aC, .inr (0, [.ref aM, .int (nI wy), .ref a1, .ref a2, .ref a3, .int (us + nI 1)])), (a1, .inl (cI, 8, .inl (upd st (j / 4) (nI 3)))), (a2, .inl (cI, 8, .inl (upd ua (j / 4) (us + nI 1)))), (a3, .inl (cI, 32, .inl (upd wd j (x))))] H := hP
  have hD : va_D A [(aB, .inr (3, [.ref aM, .ref aR, .int (nI sl), .int sv, .int iv, .int ug])), (aR, .inl (cO, n, .inr (.inr (.inr (.inr g))))), (aK, .inr (1, [.ref aC, .ref b1, .ref b2, .int (nI k), .int rk, .int (nI ra), .int rw, .int (wd j)])), (aC, .inr (0, [.ref aM, .int (nI wy), .ref a1, .ref a2, .ref a3, .int (us + nI 1)])), (a1, .inl (cI, 8, .inl (upd st (j / 4) (nI 3)))), (a2, .inl (cI, 8, .inl (upd ua (j / 4) (us + nI 1)))), (a3, .inl (cI, 32, .inl (upd wd j (x))))] := hD
  exact mk_iret hx hb hr hlocks hK hP hD hS d_Bus_changeAtOnce_56 rfl rfl
set_option maxRecDepth 100000 in
set_option maxHeartbeats 4000000 in
theorem c_cao_ra (l : Launch) (D : va_G) (cI cO : ClassId) (aB aM aR n sl : Nat) (sv iv ug : Int32) (g : Nat → Option Nat) (i : Nat) (aK aC b1 b2 k ra : Nat) (rk rw lw : Int32) (a1 a2 a3 wy : Nat) (us : Int32) (j : Nat) (x : Int32) (st ua wd : Nat → Int32) (hn : n ≤ 4) (hi : i < n) (hg : g i = some aK) (hb1 : rk = 0) (hj : j < 32) (hk : k = 0) (h1 : st (j / 4) = nI 2 ∨ st (j / 4) = nI 3) : mk_M l y_Bus_changeAtOnce w_Bus_changeAtOnce ({ frames := 4, cells := 0, slots := 0, locals := 91 } : Room) D (tysK cI cO) [.ref aB, .int (nI i), .int (nI 4), .int (nI j), .int x] [(aB, .inr (3, [.ref aM, .ref aR, .int (nI sl), .int sv, .int iv, .int ug])), (aR, .inl (cO, n, .inr (.inr (.inr (.inr g))))), (aK, .inr (1, [.ref aC, .ref b1, .ref b2, .int (nI k), .int rk, .int (nI ra), .int rw, .int lw])), (aC, .inr (0, [.ref aM, .int (nI wy), .ref a1, .ref a2, .ref a3, .int us])), (a1, .inl (cI, 8, .inl st)), (a2, .inl (cI, 8, .inl ua)), (a3, .inl (cI, 32, .inl wd))] (mk_Qi D (tysK cI cO) (nI 0) [(aB, .inr (3, [.ref aM, .ref aR, .int (nI sl), .int sv, .int iv, .int ug])), (aR, .inl (cO, n, .inr (.inr (.inr (.inr g))))), (aK, .inr (1, [.ref aC, .ref b1, .ref b2, .int (nI k), .int rk, .int (nI ra), .int rw, .int (wd j)])), (aC, .inr (0, [.ref aM, .int (nI wy), .ref a1, .ref a2, .ref a3, .int (us + nI 1)])), (a1, .inl (cI, 8, .inl (upd st (j / 4) (nI 3)))), (a2, .inl (cI, 8, .inl (upd ua (j / 4) (us + nI 1)))), (a3, .inl (cI, 32, .inl (upd wd j (wd j + x))))]) := by
  refine mk_start (cc := b_Bus_changeAtOnce) (maxL := 6) (ret := (some FieldType.int)) (by decide) (Nat.le_of_ble_eq_true rfl) (fun p e s m below meth c A ls H locs hx hb hml hr hlocks hnm hts hN hown hK hP hD hA hl hS => ?_)
  have hl : lv_has ls 6 [(0, .ref aB), (1, .int (nI i)), (2, .int (nI 4)), (3, .int (nI j)), (4, .int x)] := hl
  refine lv_aload_n hx hb d_Bus_changeAtOnce_0 rfl (lv_at hl 0 rfl) ?_
  refine lv_iload_n hx hb d_Bus_changeAtOnce_1 rfl (lv_at hl 1 rfl) ?_
  refine mk_calli (X := [(aB, .inr (3, [.ref aM, .ref aR, .int (nI sl), .int sv, .int iv, .int ug])), (aR, .inl (cO, n, .inr (.inr (.inr (.inr g))))), (aK, .inr (1, [.ref aC, .ref b1, .ref b2, .int (nI k), .int rk, .int (nI ra), .int rw, .int lw])), (aC, .inr (0, [.ref aM, .int (nI wy), .ref a1, .ref a2, .ref a3, .int us])), (a1, .inl (cI, 8, .inl st)), (a2, .inl (cI, 8, .inl ua)), (a3, .inl (cI, 32, .inl wd))]) (pl := []) (wc := [(aB, .inr (3, [.ref aM, .ref aR, .int (nI sl), .int sv, .int iv, .int ug])), (aR, .inl (cO, n, .inr (.inr (.inr (.inr g)))))]) (wr := [(aK, .inr (1, [.ref aC, .ref b1, .ref b2, .int (nI k), .int rk, .int (nI ra), .int rw, .int lw])), (aC, .inr (0, [.ref aM, .int (nI wy), .ref a1, .ref a2, .ref a3, .int us])), (a1, .inl (cI, 8, .inl st)), (a2, .inl (cI, 8, .inl ua)), (a3, .inl (cI, 32, .inl wd))]) (w1 := [(aB, .inr (3, [.ref aM, .ref aR, .int (nI sl), .int sv, .int iv, .int ug])), (aR, .inl (cO, n, .inr (.inr (.inr (.inr g)))))]) (X1 := [(aB, .inr (3, [.ref aM, .ref aR, .int (nI sl), .int sv, .int iv, .int ug])), (aR, .inl (cO, n, .inr (.inr (.inr (.inr g))))), (aK, .inr (1, [.ref aC, .ref b1, .ref b2, .int (nI k), .int rk, .int (nI ra), .int rw, .int lw])), (aC, .inr (0, [.ref aM, .int (nI wy), .ref a1, .ref a2, .ref a3, .int us])), (a1, .inl (cI, 8, .inl st)), (a2, .inl (cI, 8, .inl ua)), (a3, .inl (cI, 32, .inl wd))]) hP hD hS hA [0, 1] [2, 3, 4, 5, 6] [5, 6, 0, 1, 2, 3, 4] rfl rfl rfl (by decide) (by decide) (by decide)
    (va_runV (b := aB) (As := [.int (nI i)]) (rest := []) ⟨hx, hb, hml, hown, hts⟩ (c_isCore_1 l D cI cO aB aM aR n sl sv iv ug g i (by first | assumption | omega) (by first | assumption | omega) H.size) ⟨callB_of 1 hts g_Bus_isCore rfl rfl rfl (hts _ iw_39) (hts _ iw_78) (by decide +kernel) ⟨by decide, by decide⟩, hts _ iw_82, hts _ iw_83⟩ (mk_preV (X := [(aB, .inr (3, [.ref aM, .ref aR, .int (nI sl), .int sv, .int iv, .int ug])), (aR, .inl (cO, n, .inr (.inr (.inr (.inr g))))), (aK, .inr (1, [.ref aC, .ref b1, .ref b2, .int (nI k), .int rk, .int (nI ra), .int rw, .int lw])), (aC, .inr (0, [.ref aM, .int (nI wy), .ref a1, .ref a2, .ref a3, .int us])), (a1, .inl (cI, 8, .inl st)), (a2, .inl (cI, 8, .inl ua)), (a3, .inl (cI, 32, .inl wd))]) (pl := []) hN hK hP hD [0, 1] (by decide) rfl 0 rfl rfl rfl) rfl rfl hl.1 rfl (lv_room (Nat.le_of_ble_eq_true rfl)) d_Bus_changeAtOnce_2 ⟨Nat.le_refl _, Nat.le_refl _⟩) (fun H locs hP hD hS => ?_)
  have hP : va_P D vwCl [(aB, .inr (3, [.ref aM, .ref aR, .int (nI sl), .int sv, .int iv, .int ug])), (aR, .inl (cO, n, .inr (.inr (.inr (.inr g))))), (aK, .inr (1, [.ref aC, .ref b1, .ref b2, .int (nI k), .int rk, .int (nI ra), .int rw, .int lw])), (aC, .inr (0, [.ref aM, .int (nI wy), .ref a1, .ref a2, .ref a3, .int us])), (a1, .inl (cI, 8, .inl st)), (a2, .inl (cI, 8, .inl ua)), (a3, .inl (cI, 32, .inl wd))] H := hP
  have hD : va_D A [(aB, .inr (3, [.ref aM, .ref aR, .int (nI sl), .int sv, .int iv, .int ug])), (aR, .inl (cO, n, .inr (.inr (.inr (.inr g))))), (aK, .inr (1, [.ref aC, .ref b1, .ref b2, .int (nI k), .int rk, .int (nI ra), .int rw, .int lw])), (aC, .inr (0, [.ref aM, .int (nI wy), .ref a1, .ref a2, .ref a3, .int us])), (a1, .inl (cI, 8, .inl st)), (a2, .inl (cI, 8, .inl ua)), (a3, .inl (cI, 32, .inl wd))] := hD
  refine lv_if_eq (tgt := 15) hx hb d_Bus_changeAtOnce_5 rfl (fun h => absurd h (by decide)) (fun _ => ?_)
  refine lv_iload_n hx hb d_Bus_changeAtOnce_8 rfl (lv_at hl 3 rfl) ?_
  refine mk_calli (X := [(aB, .inr (3, [.ref aM, .ref aR, .int (nI sl), .int sv, .int iv, .int ug])), (aR, .inl (cO, n, .inr (.inr (.inr (.inr g))))), (aK, .inr (1, [.ref aC, .ref b1, .ref b2, .int (nI k), .int rk, .int (nI ra), .int rw, .int lw])), (aC, .inr (0, [.ref aM, .int (nI wy), .ref a1, .ref a2, .ref a3, .int us])), (a1, .inl (cI, 8, .inl st)), (a2, .inl (cI, 8, .inl ua)), (a3, .inl (cI, 32, .inl wd))]) (pl := []) (wc := []) (wr := [(aB, .inr (3, [.ref aM, .ref aR, .int (nI sl), .int sv, .int iv, .int ug])), (aR, .inl (cO, n, .inr (.inr (.inr (.inr g))))), (aK, .inr (1, [.ref aC, .ref b1, .ref b2, .int (nI k), .int rk, .int (nI ra), .int rw, .int lw])), (aC, .inr (0, [.ref aM, .int (nI wy), .ref a1, .ref a2, .ref a3, .int us])), (a1, .inl (cI, 8, .inl st)), (a2, .inl (cI, 8, .inl ua)), (a3, .inl (cI, 32, .inl wd))]) (w1 := []) (X1 := [(aB, .inr (3, [.ref aM, .ref aR, .int (nI sl), .int sv, .int iv, .int ug])), (aR, .inl (cO, n, .inr (.inr (.inr (.inr g))))), (aK, .inr (1, [.ref aC, .ref b1, .ref b2, .int (nI k), .int rk, .int (nI ra), .int rw, .int lw])), (aC, .inr (0, [.ref aM, .int (nI wy), .ref a1, .ref a2, .ref a3, .int us])), (a1, .inl (cI, 8, .inl st)), (a2, .inl (cI, 8, .inl ua)), (a3, .inl (cI, 32, .inl wd))]) hP hD hS hA [] [0, 1, 2, 3, 4, 5, 6] [0, 1, 2, 3, 4, 5, 6] rfl rfl rfl (by decide) (by decide) (by decide)
    (va_runS (As := [.int (nI j)]) (rest := []) ⟨hx, hb, hml, hown, hts⟩ (c_isAddress_1 l D cI cO j (by first | assumption | omega) H.size) ⟨callB_of 1 hts g_Bus_isAddress rfl rfl rfl (hts _ iw_39) (hts _ iw_79) (by decide +kernel) ⟨by decide, by decide⟩, hts _ iw_85⟩ (mk_preS (X := [(aB, .inr (3, [.ref aM, .ref aR, .int (nI sl), .int sv, .int iv, .int ug])), (aR, .inl (cO, n, .inr (.inr (.inr (.inr g))))), (aK, .inr (1, [.ref aC, .ref b1, .ref b2, .int (nI k), .int rk, .int (nI ra), .int rw, .int lw])), (aC, .inr (0, [.ref aM, .int (nI wy), .ref a1, .ref a2, .ref a3, .int us])), (a1, .inl (cI, 8, .inl st)), (a2, .inl (cI, 8, .inl ua)), (a3, .inl (cI, 32, .inl wd))]) (pl := []) hN hK hP hD [] (by decide) rfl) rfl rfl hl.1 rfl (lv_room (Nat.le_of_ble_eq_true rfl)) d_Bus_changeAtOnce_9 ⟨Nat.le_refl _, Nat.le_refl _⟩) (fun H locs hP hD hS => ?_)
  have hP : va_P D vwCl [(aB, .inr (3, [.ref aM, .ref aR, .int (nI sl), .int sv, .int iv, .int ug])), (aR, .inl (cO, n, .inr (.inr (.inr (.inr g))))), (aK, .inr (1, [.ref aC, .ref b1, .ref b2, .int (nI k), .int rk, .int (nI ra), .int rw, .int lw])), (aC, .inr (0, [.ref aM, .int (nI wy), .ref a1, .ref a2, .ref a3, .int us])), (a1, .inl (cI, 8, .inl st)), (a2, .inl (cI, 8, .inl ua)), (a3, .inl (cI, 32, .inl wd))] H := hP
  have hD : va_D A [(aB, .inr (3, [.ref aM, .ref aR, .int (nI sl), .int sv, .int iv, .int ug])), (aR, .inl (cO, n, .inr (.inr (.inr (.inr g))))), (aK, .inr (1, [.ref aC, .ref b1, .ref b2, .int (nI k), .int rk, .int (nI ra), .int rw, .int lw])), (aC, .inr (0, [.ref aM, .int (nI wy), .ref a1, .ref a2, .ref a3, .int us])), (a1, .inl (cI, 8, .inl st)), (a2, .inl (cI, 8, .inl ua)), (a3, .inl (cI, 32, .inl wd))] := hD
  refine lv_if_ne (tgt := 17) hx hb d_Bus_changeAtOnce_12 rfl (fun _ => ?_) (fun h => absurd h (by decide))
  refine lv_aload_n hx hb d_Bus_changeAtOnce_17 rfl (lv_at hl 0 rfl) ?_
  refine va_get (D := D) (ci := 3) (v := .ref aR) (C := R_Bus) (T := T_Bus) (N := 6) hx hb hts in_Bus hown hK hP 0 rfl rfl 1 (by decide) (hts _ iw_53) (fun _ h9 => h9) rfl d_Bus_changeAtOnce_18 ?_
  refine lv_iload_n hx hb d_Bus_changeAtOnce_21 rfl (lv_at hl 1 rfl) ?_
  refine mk_aald hx hb hK hP 1 1 rfl rfl (j := i) (b := aK) (by omega) (by omega) hg d_Bus_changeAtOnce_22 ?_
  refine lv_astore hx hb d_Bus_changeAtOnce_23 hl (by decide) rfl (fun ls hl => ?_)
  have hl : lv_has ls 6 [(5, .ref aK), (0, .ref aB), (1, .int (nI i)), (2, .int (nI 4)), (3, .int (nI j)), (4, .int x)] := hl
  refine lv_aload hx hb d_Bus_changeAtOnce_25 (lv_at hl 0 rfl) ?_
  refine mk_calli (X := [(aB, .inr (3, [.ref aM, .ref aR, .int (nI sl), .int sv, .int iv, .int ug])), (aR, .inl (cO, n, .inr (.inr (.inr (.inr g))))), (aK, .inr (1, [.ref aC, .ref b1, .ref b2, .int (nI k), .int rk, .int (nI ra), .int rw, .int lw])), (aC, .inr (0, [.ref aM, .int (nI wy), .ref a1, .ref a2, .ref a3, .int us])), (a1, .inl (cI, 8, .inl st)), (a2, .inl (cI, 8, .inl ua)), (a3, .inl (cI, 32, .inl wd))]) (pl := []) (wc := [(aK, .inr (1, [.ref aC, .ref b1, .ref b2, .int (nI k), .int rk, .int (nI ra), .int rw, .int lw]))]) (wr := [(aB, .inr (3, [.ref aM, .ref aR, .int (nI sl), .int sv, .int iv, .int ug])), (aR, .inl (cO, n, .inr (.inr (.inr (.inr g))))), (aC, .inr (0, [.ref aM, .int (nI wy), .ref a1, .ref a2, .ref a3, .int us])), (a1, .inl (cI, 8, .inl st)), (a2, .inl (cI, 8, .inl ua)), (a3, .inl (cI, 32, .inl wd))]) (w1 := [(aK, .inr (1, [.ref aC, .ref b1, .ref b2, .int (nI k), .int rk, .int (nI ra), .int rw, .int lw]))]) (X1 := [(aB, .inr (3, [.ref aM, .ref aR, .int (nI sl), .int sv, .int iv, .int ug])), (aR, .inl (cO, n, .inr (.inr (.inr (.inr g))))), (aK, .inr (1, [.ref aC, .ref b1, .ref b2, .int (nI k), .int rk, .int (nI ra), .int rw, .int lw])), (aC, .inr (0, [.ref aM, .int (nI wy), .ref a1, .ref a2, .ref a3, .int us])), (a1, .inl (cI, 8, .inl st)), (a2, .inl (cI, 8, .inl ua)), (a3, .inl (cI, 32, .inl wd))]) hP hD hS hA [2] [0, 1, 3, 4, 5, 6] [0, 1, 6, 2, 3, 4, 5] rfl rfl rfl (by decide) (by decide) (by decide)
    (va_runVN (b := aK) (As := []) (rest := []) ⟨hx, hb, hml, hown, hts⟩ (c_waits_0 l D cI cO aK aC b1 b2 k ra rk rw lw (by first | assumption | omega) H.size) ⟨va_cnB 0 hts g_Core_waits rfl rfl rfl (hN _ in_w3) (hts _ iw_41) (by decide +kernel) ⟨by decide, by decide⟩, hts _ iw_87, hts _ iw_88⟩ (mk_preV (X := [(aB, .inr (3, [.ref aM, .ref aR, .int (nI sl), .int sv, .int iv, .int ug])), (aR, .inl (cO, n, .inr (.inr (.inr (.inr g))))), (aK, .inr (1, [.ref aC, .ref b1, .ref b2, .int (nI k), .int rk, .int (nI ra), .int rw, .int lw])), (aC, .inr (0, [.ref aM, .int (nI wy), .ref a1, .ref a2, .ref a3, .int us])), (a1, .inl (cI, 8, .inl st)), (a2, .inl (cI, 8, .inl ua)), (a3, .inl (cI, 32, .inl wd))]) (pl := []) hN hK hP hD [2] (by decide) rfl 2 rfl rfl rfl) rfl rfl hl.1 rfl (lv_room (Nat.le_of_ble_eq_true rfl)) d_Bus_changeAtOnce_27 ⟨Nat.le_refl _, Nat.le_refl _⟩) (fun H locs hP hD hS => ?_)
  have hP : va_P D vwCl [(aB, .inr (3, [.ref aM, .ref aR, .int (nI sl), .int sv, .int iv, .int ug])), (aR, .inl (cO, n, .inr (.inr (.inr (.inr g))))), (aK, .inr (1, [.ref aC, .ref b1, .ref b2, .int (nI k), .int rk, .int (nI ra), .int rw, .int lw])), (aC, .inr (0, [.ref aM, .int (nI wy), .ref a1, .ref a2, .ref a3, .int us])), (a1, .inl (cI, 8, .inl st)), (a2, .inl (cI, 8, .inl ua)), (a3, .inl (cI, 32, .inl wd))] H := hP
  have hD : va_D A [(aB, .inr (3, [.ref aM, .ref aR, .int (nI sl), .int sv, .int iv, .int ug])), (aR, .inl (cO, n, .inr (.inr (.inr (.inr g))))), (aK, .inr (1, [.ref aC, .ref b1, .ref b2, .int (nI k), .int rk, .int (nI ra), .int rw, .int lw])), (aC, .inr (0, [.ref aM, .int (nI wy), .ref a1, .ref a2, .ref a3, .int us])), (a1, .inl (cI, 8, .inl st)), (a2, .inl (cI, 8, .inl ua)), (a3, .inl (cI, 32, .inl wd))] := hD
  refine lv_if_eq (tgt := 36) hx hb d_Bus_changeAtOnce_30 rfl (fun _ => ?_) (fun h => absurd (by decide) h)
  refine lv_aload hx hb d_Bus_changeAtOnce_36 (lv_at hl 0 rfl) ?_
  refine va_getN (D := D) (ci := 1) (v := .int (nI k)) (C := R_Core) (T := T_Core) (N := 8) hx hb hts in_Core hown hK hP 2 rfl rfl 3 (by decide) (va_Nw.use rfl (hN _ in_w12)) (fun _ h9 => h9) rfl d_Bus_changeAtOnce_38 ?_
  refine lv_if_eq (tgt := 47) hx hb d_Bus_changeAtOnce_41 rfl (fun _ => ?_) (fun h => absurd (by rw [hk]; rfl) h)
  refine lv_aload hx hb d_Bus_changeAtOnce_47 (lv_at hl 0 rfl) ?_
  refine lv_iload_n hx hb d_Bus_changeAtOnce_49 rfl (lv_at hl 3 rfl) ?_
  refine lv_iload_n hx hb d_Bus_changeAtOnce_50 rfl (lv_at hl 4 rfl) ?_
  refine lv_iload hx hb d_Bus_changeAtOnce_51 (lv_at hl 5 rfl) ?_
  refine mk_calli (X := [(aB, .inr (3, [.ref aM, .ref aR, .int (nI sl), .int sv, .int iv, .int ug])), (aR, .inl (cO, n, .inr (.inr (.inr (.inr g))))), (aK, .inr (1, [.ref aC, .ref b1, .ref b2, .int (nI k), .int rk, .int (nI ra), .int rw, .int lw])), (aC, .inr (0, [.ref aM, .int (nI wy), .ref a1, .ref a2, .ref a3, .int us])), (a1, .inl (cI, 8, .inl st)), (a2, .inl (cI, 8, .inl ua)), (a3, .inl (cI, 32, .inl wd))]) (pl := []) (wc := [(aK, .inr (1, [.ref aC, .ref b1, .ref b2, .int (nI k), .int rk, .int (nI ra), .int rw, .int lw])), (aC, .inr (0, [.ref aM, .int (nI wy), .ref a1, .ref a2, .ref a3, .int us])), (a1, .inl (cI, 8, .inl st)), (a2, .inl (cI, 8, .inl ua)), (a3, .inl (cI, 32, .inl wd))]) (wr := [(aB, .inr (3, [.ref aM, .ref aR, .int (nI sl), .int sv, .int iv, .int ug])), (aR, .inl (cO, n, .inr (.inr (.inr (.inr g)))))]) (w1 := [(aK, .inr (1, [.ref aC, .ref b1, .ref b2, .int (nI k), .int rk, .int (nI ra), .int rw, .int (wd j)])), (aC, .inr (0, [.ref aM, .int (nI wy), .ref a1, .ref a2, .ref a3, .int (us + nI 1)])), (a1, .inl (cI, 8, .inl (upd st (j / 4) (nI 3)))), (a2, .inl (cI, 8, .inl (upd ua (j / 4) (us + nI 1)))), (a3, .inl (cI, 32, .inl (upd wd j (wd j + x))))]) (X1 := [(aB, .inr (3, [.ref aM, .ref aR, .int (nI sl), .int sv, .int iv, .int ug])), (aR, .inl (cO, n, .inr (.inr (.inr (.inr g))))), (aK, .inr (1, [.ref aC, .ref b1, .ref b2, .int (nI k), .int rk, .int (nI ra), .int rw, .int (wd j)])), (aC, .inr (0, [.ref aM, .int (nI wy), .ref a1, .ref a2, .ref a3, .int (us + nI 1)])), (a1, .inl (cI, 8, .inl (upd st (j / 4) (nI 3)))), (a2, .inl (cI, 8, .inl (upd ua (j / 4) (us + nI 1)))), (a3, .inl (cI, 32, .inl (upd wd j (wd j + x))))]) hP hD hS hA [2, 3, 4, 5, 6] [0, 1] [0, 1, 2, 3, 4, 5, 6] rfl rfl rfl (by decide) (by decide) (by decide)
    (va_runVN (b := aK) (As := [.int (nI 4), .int (nI j), .int x]) (rest := []) ⟨hx, hb, hml, hown, hts⟩ (c_coa_ra l D cI cO aK aC b1 b2 k ra rk rw lw aM a1 a2 a3 wy us st ua wd j x (by first | assumption | omega) (by first | assumption | omega) H.size) ⟨va_cnB 3 hts g_Core_changeOrAsk rfl rfl rfl (hN _ in_w15) (hts _ iw_41) (by decide +kernel) ⟨by decide, by decide⟩, hts _ iw_117, hts _ iw_118⟩ (mk_preV (X := [(aB, .inr (3, [.ref aM, .ref aR, .int (nI sl), .int sv, .int iv, .int ug])), (aR, .inl (cO, n, .inr (.inr (.inr (.inr g))))), (aK, .inr (1, [.ref aC, .ref b1, .ref b2, .int (nI k), .int rk, .int (nI ra), .int rw, .int lw])), (aC, .inr (0, [.ref aM, .int (nI wy), .ref a1, .ref a2, .ref a3, .int us])), (a1, .inl (cI, 8, .inl st)), (a2, .inl (cI, 8, .inl ua)), (a3, .inl (cI, 32, .inl wd))]) (pl := []) hN hK hP hD [2, 3, 4, 5, 6] (by decide) rfl 2 rfl rfl rfl) rfl rfl hl.1 rfl (lv_room (Nat.le_of_ble_eq_true rfl)) d_Bus_changeAtOnce_53 ⟨Nat.le_refl _, Nat.le_refl _⟩) (fun H locs hP hD hS => ?_)
  have hP : va_P D vwCl [(aB, .inr (3, [.ref aM, .ref aR, .int (nI sl), .int sv, .int iv, .int ug])), (aR, .inl (cO, n, .inr (.inr (.inr (.inr g))))), (aK, .inr (1, [.ref aC, .ref b1, .ref b2, .int (nI k), .int rk, .int (nI ra), .int rw, .int (wd j)])), (aC, .inr (0, [.ref aM, .int (nI wy), .ref a1, .ref a2, .ref a3, .int (us + nI 1)])), (a1, .inl (cI, 8, .inl (upd st (j / 4) (nI 3)))), (a2, .inl (cI, 8, .inl (upd ua (j / 4) (us + nI 1)))), (a3, .inl (cI, 32, .inl (upd wd j (wd j + x))))] H := hP
  have hD : va_D A [(aB, .inr (3, [.ref aM, .ref aR, .int (nI sl), .int sv, .int iv, .int ug])), (aR, .inl (cO, n, .inr (.inr (.inr (.inr g))))), (aK, .inr (1, [.ref aC, .ref b1, .ref b2, .int (nI k), .int rk, .int (nI ra), .int rw, .int (wd j)])), (aC, .inr (0, [.ref aM, .int (nI wy), .ref a1, .ref a2, .ref a3, .int (us + nI 1)])), (a1, .inl (cI, 8, .inl (upd st (j / 4) (nI 3)))), (a2, .inl (cI, 8, .inl (upd ua (j / 4) (us + nI 1)))), (a3, .inl (cI, 32, .inl (upd wd j (wd j + x))))] := hD
  exact mk_iret hx hb hr hlocks hK hP hD hS d_Bus_changeAtOnce_56 rfl rfl
set_option maxRecDepth 100000 in
set_option maxHeartbeats 4000000 in
theorem c_swap_bc (l : Launch) (D : va_G) (cI cO : ClassId) (aB aM aR n sl : Nat) (sv iv ug : Int32) (g : Nat → Option Nat) (x y0 y1 : Int32) (hn : n ≤ 4) (hx0 : ¬ vp_in x n) : mk_M l y_Bus_swap w_Bus_swap ({ frames := 2, cells := 0, slots := 0, locals := 46 } : Room) D (tysK cI cO) [.ref aB, .int x, .int y0, .int y1] [(aB, .inr (3, [.ref aM, .ref aR, .int (nI sl), .int sv, .int iv, .int ug])), (aR, .inl (cO, n, .inr (.inr (.inr (.inr g)))))] (mk_Qi D (tysK cI cO) (-1) [(aB, .inr (3, [.ref aM, .ref aR, .int (nI sl), .int sv, .int iv, .int ug])), (aR, .inl (cO, n, .inr (.inr (.inr (.inr g)))))]) := by
  refine mk_start (cc := b_Bus_swap) (maxL := 4) (ret := (some FieldType.int)) (by decide) (Nat.le_of_ble_eq_true rfl) (fun p e s m below meth c A ls H locs hx hb hml hr hlocks hnm hts hN hown hK hP hD hA hl hS => ?_)
  have hl : lv_has ls 4 [(0, .ref aB), (1, .int x), (2, .int y0), (3, .int y1)] := hl
  refine lv_aload_n hx hb d_Bus_swap_0 rfl (lv_at hl 0 rfl) ?_
  refine lv_iload_n hx hb d_Bus_swap_1 rfl (lv_at hl 1 rfl) ?_
  refine lv_iconst (v := nI 3) hx hb d_Bus_swap_2 (by decide) ?_
  refine lv_iload_n hx hb d_Bus_swap_3 rfl (lv_at hl 2 rfl) ?_
  refine lv_iload_n hx hb d_Bus_swap_4 rfl (lv_at hl 3 rfl) ?_
  refine mk_calli (X := [(aB, .inr (3, [.ref aM, .ref aR, .int (nI sl), .int sv, .int iv, .int ug])), (aR, .inl (cO, n, .inr (.inr (.inr (.inr g)))))]) (pl := []) (wc := [(aB, .inr (3, [.ref aM, .ref aR, .int (nI sl), .int sv, .int iv, .int ug])), (aR, .inl (cO, n, .inr (.inr (.inr (.inr g)))))]) (wr := []) (w1 := [(aB, .inr (3, [.ref aM, .ref aR, .int (nI sl), .int sv, .int iv, .int ug])), (aR, .inl (cO, n, .inr (.inr (.inr (.inr g)))))]) (X1 := [(aB, .inr (3, [.ref aM, .ref aR, .int (nI sl), .int sv, .int iv, .int ug])), (aR, .inl (cO, n, .inr (.inr (.inr (.inr g)))))]) hP hD hS hA [0, 1] [] [0, 1] rfl rfl rfl (by decide) (by decide) (by decide)
    (va_runV (b := aB) (As := [.int x, .int (nI 3), .int y0, .int y1]) (rest := []) ⟨hx, hb, hml, hown, hts⟩ (c_cao_bc l D cI cO aB aM aR n sl sv iv ug g x (nI 3) y0 y1 (by first | assumption | omega) (by first | assumption | omega) H.size) ⟨callB_of 4 hts g_Bus_changeAtOnce rfl rfl rfl (hts _ iw_39) (hts _ iw_139) (by decide +kernel) ⟨by decide, by decide⟩, hts _ iw_141, hts _ iw_142⟩ (mk_preV (X := [(aB, .inr (3, [.ref aM, .ref aR, .int (nI sl), .int sv, .int iv, .int ug])), (aR, .inl (cO, n, .inr (.inr (.inr (.inr g)))))]) (pl := []) hN hK hP hD [0, 1] (by decide) rfl 0 rfl rfl rfl) rfl rfl hl.1 rfl (lv_room (Nat.le_of_ble_eq_true rfl)) d_Bus_swap_5 ⟨Nat.le_refl _, Nat.le_refl _⟩) (fun H locs hP hD hS => ?_)
  have hP : va_P D vwCl [(aB, .inr (3, [.ref aM, .ref aR, .int (nI sl), .int sv, .int iv, .int ug])), (aR, .inl (cO, n, .inr (.inr (.inr (.inr g)))))] H := hP
  have hD : va_D A [(aB, .inr (3, [.ref aM, .ref aR, .int (nI sl), .int sv, .int iv, .int ug])), (aR, .inl (cO, n, .inr (.inr (.inr (.inr g)))))] := hD
  exact mk_iret hx hb hr hlocks hK hP hD hS d_Bus_swap_8 rfl rfl
set_option maxRecDepth 100000 in
set_option maxHeartbeats 4000000 in
theorem c_swap_ba (l : Launch) (D : va_G) (cI cO : ClassId) (aB aM aR n sl : Nat) (sv iv ug : Int32) (g : Nat → Option Nat) (i : Nat) (y0 y1 : Int32) (hn : n ≤ 4) (hi : i < n) (hy0 : ¬ vp_in y0 32) : mk_M l y_Bus_swap w_Bus_swap ({ frames := 2, cells := 0, slots := 0, locals := 46 } : Room) D (tysK cI cO) [.ref aB, .int (nI i), .int y0, .int y1] [(aB, .inr (3, [.ref aM, .ref aR, .int (nI sl), .int sv, .int iv, .int ug])), (aR, .inl (cO, n, .inr (.inr (.inr (.inr g)))))] (mk_Qi D (tysK cI cO) (-1) [(aB, .inr (3, [.ref aM, .ref aR, .int (nI sl), .int sv, .int iv, .int ug])), (aR, .inl (cO, n, .inr (.inr (.inr (.inr g)))))]) := by
  refine mk_start (cc := b_Bus_swap) (maxL := 4) (ret := (some FieldType.int)) (by decide) (Nat.le_of_ble_eq_true rfl) (fun p e s m below meth c A ls H locs hx hb hml hr hlocks hnm hts hN hown hK hP hD hA hl hS => ?_)
  have hl : lv_has ls 4 [(0, .ref aB), (1, .int (nI i)), (2, .int y0), (3, .int y1)] := hl
  refine lv_aload_n hx hb d_Bus_swap_0 rfl (lv_at hl 0 rfl) ?_
  refine lv_iload_n hx hb d_Bus_swap_1 rfl (lv_at hl 1 rfl) ?_
  refine lv_iconst (v := nI 3) hx hb d_Bus_swap_2 (by decide) ?_
  refine lv_iload_n hx hb d_Bus_swap_3 rfl (lv_at hl 2 rfl) ?_
  refine lv_iload_n hx hb d_Bus_swap_4 rfl (lv_at hl 3 rfl) ?_
  refine mk_calli (X := [(aB, .inr (3, [.ref aM, .ref aR, .int (nI sl), .int sv, .int iv, .int ug])), (aR, .inl (cO, n, .inr (.inr (.inr (.inr g)))))]) (pl := []) (wc := [(aB, .inr (3, [.ref aM, .ref aR, .int (nI sl), .int sv, .int iv, .int ug])), (aR, .inl (cO, n, .inr (.inr (.inr (.inr g)))))]) (wr := []) (w1 := [(aB, .inr (3, [.ref aM, .ref aR, .int (nI sl), .int sv, .int iv, .int ug])), (aR, .inl (cO, n, .inr (.inr (.inr (.inr g)))))]) (X1 := [(aB, .inr (3, [.ref aM, .ref aR, .int (nI sl), .int sv, .int iv, .int ug])), (aR, .inl (cO, n, .inr (.inr (.inr (.inr g)))))]) hP hD hS hA [0, 1] [] [0, 1] rfl rfl rfl (by decide) (by decide) (by decide)
    (va_runV (b := aB) (As := [.int (nI i), .int (nI 3), .int y0, .int y1]) (rest := []) ⟨hx, hb, hml, hown, hts⟩ (c_cao_ba l D cI cO aB aM aR n sl sv iv ug g i (nI 3) y0 y1 (by first | assumption | omega) (by first | assumption | omega) (by first | assumption | omega) H.size) ⟨callB_of 4 hts g_Bus_changeAtOnce rfl rfl rfl (hts _ iw_39) (hts _ iw_139) (by decide +kernel) ⟨by decide, by decide⟩, hts _ iw_141, hts _ iw_142⟩ (mk_preV (X := [(aB, .inr (3, [.ref aM, .ref aR, .int (nI sl), .int sv, .int iv, .int ug])), (aR, .inl (cO, n, .inr (.inr (.inr (.inr g)))))]) (pl := []) hN hK hP hD [0, 1] (by decide) rfl 0 rfl rfl rfl) rfl rfl hl.1 rfl (lv_room (Nat.le_of_ble_eq_true rfl)) d_Bus_swap_5 ⟨Nat.le_refl _, Nat.le_refl _⟩) (fun H locs hP hD hS => ?_)
  have hP : va_P D vwCl [(aB, .inr (3, [.ref aM, .ref aR, .int (nI sl), .int sv, .int iv, .int ug])), (aR, .inl (cO, n, .inr (.inr (.inr (.inr g)))))] H := hP
  have hD : va_D A [(aB, .inr (3, [.ref aM, .ref aR, .int (nI sl), .int sv, .int iv, .int ug])), (aR, .inl (cO, n, .inr (.inr (.inr (.inr g)))))] := hD
  exact mk_iret hx hb hr hlocks hK hP hD hS d_Bus_swap_8 rfl rfl
set_option maxRecDepth 100000 in
set_option maxHeartbeats 4000000 in
theorem c_swap_busy (l : Launch) (D : va_G) (cI cO : ClassId) (aB aM aR n sl : Nat) (sv iv ug : Int32) (g : Nat → Option Nat) (i : Nat) (aK aC b1 b2 k ra : Nat) (rk rw lw : Int32) (j : Nat) (x : Int32) (hn : n ≤ 4) (hi : i < n) (hg : g i = some aK) (hb1 : ¬ rk = 0) (hj : j < 32) : mk_M l y_Bus_swap w_Bus_swap ({ frames := 2, cells := 0, slots := 0, locals := 46 } : Room) D (tysK cI cO) [.ref aB, .int (nI i), .int (nI j), .int x] [(aB, .inr (3, [.ref aM, .ref aR, .int (nI sl), .int sv, .int iv, .int ug])), (aR, .inl (cO, n, .inr (.inr (.inr (.inr g))))), (aK, .inr (1, [.ref aC, .ref b1, .ref b2, .int (nI k), .int rk, .int (nI ra), .int rw, .int lw]))] (mk_Qi D (tysK cI cO) (-2) [(aB, .inr (3, [.ref aM, .ref aR, .int (nI sl), .int sv, .int iv, .int ug])), (aR, .inl (cO, n, .inr (.inr (.inr (.inr g))))), (aK, .inr (1, [.ref aC, .ref b1, .ref b2, .int (nI k), .int rk, .int (nI ra), .int rw, .int lw]))]) := by
  refine mk_start (cc := b_Bus_swap) (maxL := 4) (ret := (some FieldType.int)) (by decide) (Nat.le_of_ble_eq_true rfl) (fun p e s m below meth c A ls H locs hx hb hml hr hlocks hnm hts hN hown hK hP hD hA hl hS => ?_)
  have hl : lv_has ls 4 [(0, .ref aB), (1, .int (nI i)), (2, .int (nI j)), (3, .int x)] := hl
  refine lv_aload_n hx hb d_Bus_swap_0 rfl (lv_at hl 0 rfl) ?_
  refine lv_iload_n hx hb d_Bus_swap_1 rfl (lv_at hl 1 rfl) ?_
  refine lv_iconst (v := nI 3) hx hb d_Bus_swap_2 (by decide) ?_
  refine lv_iload_n hx hb d_Bus_swap_3 rfl (lv_at hl 2 rfl) ?_
  refine lv_iload_n hx hb d_Bus_swap_4 rfl (lv_at hl 3 rfl) ?_
  refine mk_calli (X := [(aB, .inr (3, [.ref aM, .ref aR, .int (nI sl), .int sv, .int iv, .int ug])), (aR, .inl (cO, n, .inr (.inr (.inr (.inr g))))), (aK, .inr (1, [.ref aC, .ref b1, .ref b2, .int (nI k), .int rk, .int (nI ra), .int rw, .int lw]))]) (pl := []) (wc := [(aB, .inr (3, [.ref aM, .ref aR, .int (nI sl), .int sv, .int iv, .int ug])), (aR, .inl (cO, n, .inr (.inr (.inr (.inr g))))), (aK, .inr (1, [.ref aC, .ref b1, .ref b2, .int (nI k), .int rk, .int (nI ra), .int rw, .int lw]))]) (wr := []) (w1 := [(aB, .inr (3, [.ref aM, .ref aR, .int (nI sl), .int sv, .int iv, .int ug])), (aR, .inl (cO, n, .inr (.inr (.inr (.inr g))))), (aK, .inr (1, [.ref aC, .ref b1, .ref b2, .int (nI k), .int rk, .int (nI ra), .int rw, .int lw]))]) (X1 := [(aB, .inr (3, [.ref aM, .ref aR, .int (nI sl), .int sv, .int iv, .int ug])), (aR, .inl (cO, n, .inr (.inr (.inr (.inr g))))), (aK, .inr (1, [.ref aC, .ref b1, .ref b2, .int (nI k), .int rk, .int (nI ra), .int rw, .int lw]))]) hP hD hS hA [0, 1, 2] [] [0, 1, 2] rfl rfl rfl (by decide) (by decide) (by decide)
    (va_runV (b := aB) (As := [.int (nI i), .int (nI 3), .int (nI j), .int x]) (rest := []) ⟨hx, hb, hml, hown, hts⟩ (c_cao_busy l D cI cO aB aM aR n sl sv iv ug g i aK aC b1 b2 k ra rk rw lw j (nI 3) x (by first | assumption | omega) (by first | assumption | omega) (by first | assumption | omega) (by first | assumption | omega) (by first | assumption | omega) H.size) ⟨callB_of 4 hts g_Bus_changeAtOnce rfl rfl rfl (hts _ iw_39) (hts _ iw_139) (by decide +kernel) ⟨by decide, by decide⟩, hts _ iw_141, hts _ iw_142⟩ (mk_preV (X := [(aB, .inr (3, [.ref aM, .ref aR, .int (nI sl), .int sv, .int iv, .int ug])), (aR, .inl (cO, n, .inr (.inr (.inr (.inr g))))), (aK, .inr (1, [.ref aC, .ref b1, .ref b2, .int (nI k), .int rk, .int (nI ra), .int rw, .int lw]))]) (pl := []) hN hK hP hD [0, 1, 2] (by decide) rfl 0 rfl rfl rfl) rfl rfl hl.1 rfl (lv_room (Nat.le_of_ble_eq_true rfl)) d_Bus_swap_5 ⟨Nat.le_refl _, Nat.le_refl _⟩) (fun H locs hP hD hS => ?_)
  have hP : va_P D vwCl [(aB, .inr (3, [.ref aM, .ref aR, .int (nI sl), .int sv, .int iv, .int ug])), (aR, .inl (cO, n, .inr (.inr (.inr (.inr g))))), (aK, .inr (1, [.ref aC, .ref b1, .ref b2, .int (nI k), .int rk, .int (nI ra), .int rw, .int lw]))] H := hP
  have hD : va_D A [(aB, .inr (3, [.ref aM, .ref aR, .int (nI sl), .int sv, .int iv, .int ug])), (aR, .inl (cO, n, .inr (.inr (.inr (.inr g))))), (aK, .inr (1, [.ref aC, .ref b1, .ref b2, .int (nI k), .int rk, .int (nI ra), .int rw, .int lw]))] := hD
  exact mk_iret hx hb hr hlocks hK hP hD hS d_Bus_swap_8 rfl rfl
set_option maxRecDepth 100000 in
set_option maxHeartbeats 4000000 in
theorem c_swap_not (l : Launch) (D : va_G) (cI cO : ClassId) (aB aM aR n sl : Nat) (sv iv ug : Int32) (g : Nat → Option Nat) (i : Nat) (aK aC b1 b2 k ra : Nat) (rk rw lw : Int32) (j : Nat) (x : Int32) (hn : n ≤ 4) (hi : i < n) (hg : g i = some aK) (hb1 : rk = 0) (hj : j < 32) (hk0 : 1 ≤ k) (hk : k ≤ 4) : mk_M l y_Bus_swap w_Bus_swap ({ frames := 2, cells := 0, slots := 0, locals := 46 } : Room) D (tysK cI cO) [.ref aB, .int (nI i), .int (nI j), .int x] [(aB, .inr (3, [.ref aM, .ref aR, .int (nI sl), .int sv, .int iv, .int ug])), (aR, .inl (cO, n, .inr (.inr (.inr (.inr g))))), (aK, .inr (1, [.ref aC, .ref b1, .ref b2, .int (nI k), .int rk, .int (nI ra), .int rw, .int lw]))] (mk_Qi D (tysK cI cO) (-4) [(aB, .inr (3, [.ref aM, .ref aR, .int (nI sl), .int sv, .int iv, .int ug])), (aR, .inl (cO, n, .inr (.inr (.inr (.inr g))))), (aK, .inr (1, [.ref aC, .ref b1, .ref b2, .int (nI k), .int rk, .int (nI ra), .int rw, .int lw]))]) := by
  refine mk_start (cc := b_Bus_swap) (maxL := 4) (ret := (some FieldType.int)) (by decide) (Nat.le_of_ble_eq_true rfl) (fun p e s m below meth c A ls H locs hx hb hml hr hlocks hnm hts hN hown hK hP hD hA hl hS => ?_)
  have hl : lv_has ls 4 [(0, .ref aB), (1, .int (nI i)), (2, .int (nI j)), (3, .int x)] := hl
  refine lv_aload_n hx hb d_Bus_swap_0 rfl (lv_at hl 0 rfl) ?_
  refine lv_iload_n hx hb d_Bus_swap_1 rfl (lv_at hl 1 rfl) ?_
  refine lv_iconst (v := nI 3) hx hb d_Bus_swap_2 (by decide) ?_
  refine lv_iload_n hx hb d_Bus_swap_3 rfl (lv_at hl 2 rfl) ?_
  refine lv_iload_n hx hb d_Bus_swap_4 rfl (lv_at hl 3 rfl) ?_
  refine mk_calli (X := [(aB, .inr (3, [.ref aM, .ref aR, .int (nI sl), .int sv, .int iv, .int ug])), (aR, .inl (cO, n, .inr (.inr (.inr (.inr g))))), (aK, .inr (1, [.ref aC, .ref b1, .ref b2, .int (nI k), .int rk, .int (nI ra), .int rw, .int lw]))]) (pl := []) (wc := [(aB, .inr (3, [.ref aM, .ref aR, .int (nI sl), .int sv, .int iv, .int ug])), (aR, .inl (cO, n, .inr (.inr (.inr (.inr g))))), (aK, .inr (1, [.ref aC, .ref b1, .ref b2, .int (nI k), .int rk, .int (nI ra), .int rw, .int lw]))]) (wr := []) (w1 := [(aB, .inr (3, [.ref aM, .ref aR, .int (nI sl), .int sv, .int iv, .int ug])), (aR, .inl (cO, n, .inr (.inr (.inr (.inr g))))), (aK, .inr (1, [.ref aC, .ref b1, .ref b2, .int (nI k), .int rk, .int (nI ra), .int rw, .int lw]))]) (X1 := [(aB, .inr (3, [.ref aM, .ref aR, .int (nI sl), .int sv, .int iv, .int ug])), (aR, .inl (cO, n, .inr (.inr (.inr (.inr g))))), (aK, .inr (1, [.ref aC, .ref b1, .ref b2, .int (nI k), .int rk, .int (nI ra), .int rw, .int lw]))]) hP hD hS hA [0, 1, 2] [] [0, 1, 2] rfl rfl rfl (by decide) (by decide) (by decide)
    (va_runV (b := aB) (As := [.int (nI i), .int (nI 3), .int (nI j), .int x]) (rest := []) ⟨hx, hb, hml, hown, hts⟩ (c_cao_not l D cI cO aB aM aR n sl sv iv ug g i aK aC b1 b2 k ra rk rw lw j (nI 3) x (by first | assumption | omega) (by first | assumption | omega) (by first | assumption | omega) (by first | assumption | omega) (by first | assumption | omega) (by first | assumption | omega) (by first | assumption | omega) H.size) ⟨callB_of 4 hts g_Bus_changeAtOnce rfl rfl rfl (hts _ iw_39) (hts _ iw_139) (by decide +kernel) ⟨by decide, by decide⟩, hts _ iw_141, hts _ iw_142⟩ (mk_preV (X := [(aB, .inr (3, [.ref aM, .ref aR, .int (nI sl), .int sv, .int iv, .int ug])), (aR, .inl (cO, n, .inr (.inr (.inr (.inr g))))), (aK, .inr (1, [.ref aC, .ref b1, .ref b2, .int (nI k), .int rk, .int (nI ra), .int rw, .int lw]))]) (pl := []) hN hK hP hD [0, 1, 2] (by decide) rfl 0 rfl rfl rfl) rfl rfl hl.1 rfl (lv_room (Nat.le_of_ble_eq_true rfl)) d_Bus_swap_5 ⟨Nat.le_refl _, Nat.le_refl _⟩) (fun H locs hP hD hS => ?_)
  have hP : va_P D vwCl [(aB, .inr (3, [.ref aM, .ref aR, .int (nI sl), .int sv, .int iv, .int ug])), (aR, .inl (cO, n, .inr (.inr (.inr (.inr g))))), (aK, .inr (1, [.ref aC, .ref b1, .ref b2, .int (nI k), .int rk, .int (nI ra), .int rw, .int lw]))] H := hP
  have hD : va_D A [(aB, .inr (3, [.ref aM, .ref aR, .int (nI sl), .int sv, .int iv, .int ug])), (aR, .inl (cO, n, .inr (.inr (.inr (.inr g))))), (aK, .inr (1, [.ref aC, .ref b1, .ref b2, .int (nI k), .int rk, .int (nI ra), .int rw, .int lw]))] := hD
  exact mk_iret hx hb hr hlocks hK hP hD hS d_Bus_swap_8 rfl rfl
set_option maxRecDepth 100000 in
set_option maxHeartbeats 4000000 in
theorem c_swap_ask (l : Launch) (D : va_G) (cI cO : ClassId) (aB aM aR n sl : Nat) (sv iv ug : Int32) (g : Nat → Option Nat) (i : Nat) (aK aC b1 b2 k ra : Nat) (rk rw lw : Int32) (a1 a2 a3 wy : Nat) (us : Int32) (j : Nat) (x : Int32) (st : Nat → Int32) (hn : n ≤ 4) (hi : i < n) (hg : g i = some aK) (hb1 : rk = 0) (hj : j < 32) (hk : k = 0) (h1 : ¬ st (j / 4) = nI 2) (h2 : ¬ st (j / 4) = nI 3) : mk_M l y_Bus_swap w_Bus_swap ({ frames := 3, cells := 0, slots := 0, locals := 71 } : Room) D (tysK cI cO) [.ref aB, .int (nI i), .int (nI j), .int x] [(aB, .inr (3, [.ref aM, .ref aR, .int (nI sl), .int sv, .int iv, .int ug])), (aR, .inl (cO, n, .inr (.inr (.inr (.inr g))))), (aK, .inr (1, [.ref aC, .ref b1, .ref b2, .int (nI k), .int rk, .int (nI ra), .int rw, .int lw])), (aC, .inr (0, [.ref aM, .int (nI wy), .ref a1, .ref a2, .ref a3, .int us])), (a1, .inl (cI, 8, .inl st))] (mk_Qi D (tysK cI cO) (nI 1) [(aB, .inr (3, [.ref aM, .ref aR, .int (nI sl), .int sv, .int iv, .int ug])), (aR, .inl (cO, n, .inr (.inr (.inr (.inr g))))), (aK, .inr (1, [.ref aC, .ref b1, .ref b2, .int (nI k), .int (nI 3), .int (nI j), .int x, .int lw])), (aC, .inr (0, [.ref aM, .int (nI wy), .ref a1, .ref a2, .ref a3, .int us])), (a1, .inl (cI, 8, .inl st))]) := by
  refine mk_start (cc := b_Bus_swap) (maxL := 4) (ret := (some FieldType.int)) (by decide) (Nat.le_of_ble_eq_true rfl) (fun p e s m below meth c A ls H locs hx hb hml hr hlocks hnm hts hN hown hK hP hD hA hl hS => ?_)
  have hl : lv_has ls 4 [(0, .ref aB), (1, .int (nI i)), (2, .int (nI j)), (3, .int x)] := hl
  refine lv_aload_n hx hb d_Bus_swap_0 rfl (lv_at hl 0 rfl) ?_
  refine lv_iload_n hx hb d_Bus_swap_1 rfl (lv_at hl 1 rfl) ?_
  refine lv_iconst (v := nI 3) hx hb d_Bus_swap_2 (by decide) ?_
  refine lv_iload_n hx hb d_Bus_swap_3 rfl (lv_at hl 2 rfl) ?_
  refine lv_iload_n hx hb d_Bus_swap_4 rfl (lv_at hl 3 rfl) ?_
  refine mk_calli (X := [(aB, .inr (3, [.ref aM, .ref aR, .int (nI sl), .int sv, .int iv, .int ug])), (aR, .inl (cO, n, .inr (.inr (.inr (.inr g))))), (aK, .inr (1, [.ref aC, .ref b1, .ref b2, .int (nI k), .int rk, .int (nI ra), .int rw, .int lw])), (aC, .inr (0, [.ref aM, .int (nI wy), .ref a1, .ref a2, .ref a3, .int us])), (a1, .inl (cI, 8, .inl st))]) (pl := []) (wc := [(aB, .inr (3, [.ref aM, .ref aR, .int (nI sl), .int sv, .int iv, .int ug])), (aR, .inl (cO, n, .inr (.inr (.inr (.inr g))))), (aK, .inr (1, [.ref aC, .ref b1, .ref b2, .int (nI k), .int rk, .int (nI ra), .int rw, .int lw])), (aC, .inr (0, [.ref aM, .int (nI wy), .ref a1, .ref a2, .ref a3, .int us])), (a1, .inl (cI, 8, .inl st))]) (wr := []) (w1 := [(aB, .inr (3, [.ref aM, .ref aR, .int (nI sl), .int sv, .int iv, .int ug])), (aR, .inl (cO, n, .inr (.inr (.inr (.inr g))))), (aK, .inr (1, [.ref aC, .ref b1, .ref b2, .int (nI k), .int (nI 3), .int (nI j), .int x, .int lw])), (aC, .inr (0, [.ref aM, .int (nI wy), .ref a1, .ref a2, .ref a3, .int us])), (a1, .inl (cI, 8, .inl st))]) (X1 := [(aB, .inr (3, [.ref aM, .ref aR, .int (nI sl), .int sv, .int iv, .int ug])), (aR, .inl (cO, n, .inr (.inr (.inr (.inr g))))), (aK, .inr (1, [.ref aC, .ref b1, .ref b2, .int (nI k), .int (nI 3), .int (nI j), .int x, .int lw])), (aC, .inr (0, [.ref aM, .int (nI wy), .ref a1, .ref a2, .ref a3, .int us])), (a1, .inl (cI, 8, .inl st))]) hP hD hS hA [0, 1, 2, 3, 4] [] [0, 1, 2, 3, 4] rfl rfl rfl (by decide) (by decide) (by decide)
    (va_runV (b := aB) (As := [.int (nI i), .int (nI 3), .int (nI j), .int x]) (rest := []) ⟨hx, hb, hml, hown, hts⟩ (c_cao_ask l D cI cO aB aM aR n sl sv iv ug g i aK aC b1 b2 k ra rk rw lw a1 a2 a3 wy us j (nI 3) x st (by first | assumption | omega) (by first | assumption | omega) (by first | assumption | omega) (by first | assumption | omega) (by first | assumption | omega) (by first | assumption | omega) (by first | assumption | omega) (by first | assumption | omega) H.size) ⟨callB_of 4 hts g_Bus_changeAtOnce rfl rfl rfl (hts _ iw_39) (hts _ iw_139) (by decide +kernel) ⟨by decide, by decide⟩, hts _ iw_141, hts _ iw_142⟩ (mk_preV (X := [(aB, .inr (3, [.ref aM, .ref aR, .int (nI sl), .int sv, .int iv, .int ug])), (aR, .inl (cO, n, .inr (.inr (.inr (.inr g))))), (aK, .inr (1, [.ref aC, .ref b1, .ref b2, .int (nI k), .int rk, .int (nI ra), .int rw, .int lw])), (aC, .inr (0, [.ref aM, .int (nI wy), .ref a1, .ref a2, .ref a3, .int us])), (a1, .inl (cI, 8, .inl st))]) (pl := []) hN hK hP hD [0, 1, 2, 3, 4] (by decide) rfl 0 rfl rfl rfl) rfl rfl hl.1 rfl (lv_room (Nat.le_of_ble_eq_true rfl)) d_Bus_swap_5 ⟨Nat.le_refl _, Nat.le_refl _⟩) (fun H locs hP hD hS => ?_)
  have hP : va_P D vwCl [(aB, .inr (3, [.ref aM, .ref aR, .int (nI sl), .int sv, .int iv, .int ug])), (aR, .inl (cO, n, .inr (.inr (.inr (.inr g))))), (aK, .inr (1, [.ref aC, .ref b1, .ref b2, .int (nI k), .int (nI 3), .int (nI j), .int x, .int lw])), (aC, .inr (0, [.ref aM, .int (nI wy), .ref a1, .ref a2, .ref a3, .int us])), (a1, .inl (cI, 8, .inl st))] H := hP
  have hD : va_D A [(aB, .inr (3, [.ref aM, .ref aR, .int (nI sl), .int sv, .int iv, .int ug])), (aR, .inl (cO, n, .inr (.inr (.inr (.inr g))))), (aK, .inr (1, [.ref aC, .ref b1, .ref b2, .int (nI k), .int (nI 3), .int (nI j), .int x, .int lw])), (aC, .inr (0, [.ref aM, .int (nI wy), .ref a1, .ref a2, .ref a3, .int us])), (a1, .inl (cI, 8, .inl st))] := hD
  exact mk_iret hx hb hr hlocks hK hP hD hS d_Bus_swap_8 rfl rfl
set_option maxRecDepth 100000 in
set_option maxHeartbeats 4000000 in
theorem c_swap_do (l : Launch) (D : va_G) (cI cO : ClassId) (aB aM aR n sl : Nat) (sv iv ug : Int32) (g : Nat → Option Nat) (i : Nat) (aK aC b1 b2 k ra : Nat) (rk rw lw : Int32) (a1 a2 a3 wy : Nat) (us : Int32) (j : Nat) (x : Int32) (st ua wd : Nat → Int32) (hn : n ≤ 4) (hi : i < n) (hg : g i = some aK) (hb1 : rk = 0) (hj : j < 32) (hk : k = 0) (h1 : st (j / 4) = nI 2 ∨ st (j / 4) = nI 3) : mk_M l y_Bus_swap w_Bus_swap ({ frames := 5, cells := 0, slots := 0, locals := 116 } : Room) D (tysK cI cO) [.ref aB, .int (nI i), .int (nI j), .int x] [(aB, .inr (3, [.ref aM, .ref aR, .int (nI sl), .int sv, .int iv, .int ug])), (aR, .inl (cO, n, .inr (.inr (.inr (.inr g))))), (aK, .inr (1, [.ref aC, .ref b1, .ref b2, .int (nI k), .int rk, .int (nI ra), .int rw, .int lw])), (aC, .inr (0, [.ref aM, .int (nI wy), .ref a1, .ref a2, .ref a3, .int us])), (a1, .inl (cI, 8, .inl st)), (a2, .inl (cI, 8, .inl ua)), (a3, .inl (cI, 32, .inl wd))] (mk_Qi D (tysK cI cO) (nI 0) [(aB, .inr (3, [.ref aM, .ref aR, .int (nI sl), .int sv, .int iv, .int ug])), (aR, .inl (cO, n, .inr (.inr (.inr (.inr g))))), (aK, .inr (1, [.ref aC, .ref b1, .ref b2, .int (nI k), .int rk, .int (nI ra), .int rw, .int (wd j)])), (aC, .inr (0, [.ref aM, .int (nI wy), .ref a1, .ref a2, .ref a3, .int (us + nI 1)])), (a1, .inl (cI, 8, .inl (upd st (j / 4) (nI 3)))), (a2, .inl (cI, 8, .inl (upd ua (j / 4) (us + nI 1)))), (a3, .inl (cI, 32, .inl (upd wd j (x))))]) := by
  refine mk_start (cc := b_Bus_swap) (maxL := 4) (ret := (some FieldType.int)) (by decide) (Nat.le_of_ble_eq_true rfl) (fun p e s m below meth c A ls H locs hx hb hml hr hlocks hnm hts hN hown hK hP hD hA hl hS => ?_)
  have hl : lv_has ls 4 [(0, .ref aB), (1, .int (nI i)), (2, .int (nI j)), (3, .int x)] := hl
  refine lv_aload_n hx hb d_Bus_swap_0 rfl (lv_at hl 0 rfl) ?_
  refine lv_iload_n hx hb d_Bus_swap_1 rfl (lv_at hl 1 rfl) ?_
  refine lv_iconst (v := nI 3) hx hb d_Bus_swap_2 (by decide) ?_
  refine lv_iload_n hx hb d_Bus_swap_3 rfl (lv_at hl 2 rfl) ?_
  refine lv_iload_n hx hb d_Bus_swap_4 rfl (lv_at hl 3 rfl) ?_
  refine mk_calli (X := [(aB, .inr (3, [.ref aM, .ref aR, .int (nI sl), .int sv, .int iv, .int ug])), (aR, .inl (cO, n, .inr (.inr (.inr (.inr g))))), (aK, .inr (1, [.ref aC, .ref b1, .ref b2, .int (nI k), .int rk, .int (nI ra), .int rw, .int lw])), (aC, .inr (0, [.ref aM, .int (nI wy), .ref a1, .ref a2, .ref a3, .int us])), (a1, .inl (cI, 8, .inl st)), (a2, .inl (cI, 8, .inl ua)), (a3, .inl (cI, 32, .inl wd))]) (pl := []) (wc := [(aB, .inr (3, [.ref aM, .ref aR, .int (nI sl), .int sv, .int iv, .int ug])), (aR, .inl (cO, n, .inr (.inr (.inr (.inr g))))), (aK, .inr (1, [.ref aC, .ref b1, .ref b2, .int (nI k), .int rk, .int (nI ra), .int rw, .int lw])), (aC, .inr (0, [.ref aM, .int (nI wy), .ref a1, .ref a2, .ref a3, .int us])), (a1, .inl (cI, 8, .inl st)), (a2, .inl (cI, 8, .inl ua)), (a3, .inl (cI, 32, .inl wd))]) (wr := []) (w1 := [(aB, .inr (3, [.ref aM, .ref aR, .int (nI sl), .int sv, .int iv, .int ug])), (aR, .inl (cO, n, .inr (.inr (.inr (.inr g))))), (aK, .inr (1, [.ref aC, .ref b1, .ref b2, .int (nI k), .int rk, .int (nI ra), .int rw, .int (wd j)])), (aC, .inr (0, [.ref aM, .int (nI wy), .ref a1, .ref a2, .ref a3, .int (us + nI 1)])), (a1, .inl (cI, 8, .inl (upd st (j / 4) (nI 3)))), (a2, .inl (cI, 8, .inl (upd ua (j / 4) (us + nI 1)))), (a3, .inl (cI, 32, .inl (upd wd j (x))))]) (X1 := [(aB, .inr (3, [.ref aM, .ref aR, .int (nI sl), .int sv, .int iv, .int ug])), (aR, .inl (cO, n, .inr (.inr (.inr (.inr g))))), (aK, .inr (1, [.ref aC, .ref b1, .ref b2, .int (nI k), .int rk, .int (nI ra), .int rw, .int (wd j)])), (aC, .inr (0, [.ref aM, .int (nI wy), .ref a1, .ref a2, .ref a3, .int (us + nI 1)])), (a1, .inl (cI, 8, .inl (upd st (j / 4) (nI 3)))), (a2, .inl (cI, 8, .inl (upd ua (j / 4) (us + nI 1)))), (a3, .inl (cI, 32, .inl (upd wd j (x))))]) hP hD hS hA [0, 1, 2, 3, 4, 5, 6] [] [0, 1, 2, 3, 4, 5, 6] rfl rfl rfl (by decide) (by decide) (by decide)
    (va_runV (b := aB) (As := [.int (nI i), .int (nI 3), .int (nI j), .int x]) (rest := []) ⟨hx, hb, hml, hown, hts⟩ (c_cao_tr l D cI cO aB aM aR n sl sv iv ug g i aK aC b1 b2 k ra rk rw lw a1 a2 a3 wy us j x st ua wd (by first | assumption | omega) (by first | assumption | omega) (by first | assumption | omega) (by first | assumption | omega) (by first | assumption | omega) (by first | assumption | omega) (by first | assumption | omega) H.size) ⟨callB_of 4 hts g_Bus_changeAtOnce rfl rfl rfl (hts _ iw_39) (hts _ iw_139) (by decide +kernel) ⟨by decide, by decide⟩, hts _ iw_141, hts _ iw_142⟩ (mk_preV (X := [(aB, .inr (3, [.ref aM, .ref aR, .int (nI sl), .int sv, .int iv, .int ug])), (aR, .inl (cO, n, .inr (.inr (.inr (.inr g))))), (aK, .inr (1, [.ref aC, .ref b1, .ref b2, .int (nI k), .int rk, .int (nI ra), .int rw, .int lw])), (aC, .inr (0, [.ref aM, .int (nI wy), .ref a1, .ref a2, .ref a3, .int us])), (a1, .inl (cI, 8, .inl st)), (a2, .inl (cI, 8, .inl ua)), (a3, .inl (cI, 32, .inl wd))]) (pl := []) hN hK hP hD [0, 1, 2, 3, 4, 5, 6] (by decide) rfl 0 rfl rfl rfl) rfl rfl hl.1 rfl (lv_room (Nat.le_of_ble_eq_true rfl)) d_Bus_swap_5 ⟨Nat.le_refl _, Nat.le_refl _⟩) (fun H locs hP hD hS => ?_)
  have hP : va_P D vwCl [(aB, .inr (3, [.ref aM, .ref aR, .int (nI sl), .int sv, .int iv, .int ug])), (aR, .inl (cO, n, .inr (.inr (.inr (.inr g))))), (aK, .inr (1, [.ref aC, .ref b1, .ref b2, .int (nI k), .int rk, .int (nI ra), .int rw, .int (wd j)])), (aC, .inr (0, [.ref aM, .int (nI wy), .ref a1, .ref a2, .ref a3, .int (us + nI 1)])), (a1, .inl (cI, 8, .inl (upd st (j / 4) (nI 3)))), (a2, .inl (cI, 8, .inl (upd ua (j / 4) (us + nI 1)))), (a3, .inl (cI, 32, .inl (upd wd j (x))))] H := hP
  have hD : va_D A [(aB, .inr (3, [.ref aM, .ref aR, .int (nI sl), .int sv, .int iv, .int ug])), (aR, .inl (cO, n, .inr (.inr (.inr (.inr g))))), (aK, .inr (1, [.ref aC, .ref b1, .ref b2, .int (nI k), .int rk, .int (nI ra), .int rw, .int (wd j)])), (aC, .inr (0, [.ref aM, .int (nI wy), .ref a1, .ref a2, .ref a3, .int (us + nI 1)])), (a1, .inl (cI, 8, .inl (upd st (j / 4) (nI 3)))), (a2, .inl (cI, 8, .inl (upd ua (j / 4) (us + nI 1)))), (a3, .inl (cI, 32, .inl (upd wd j (x))))] := hD
  exact mk_iret hx hb hr hlocks hK hP hD hS d_Bus_swap_8 rfl rfl
set_option maxRecDepth 100000 in
set_option maxHeartbeats 4000000 in
theorem c_add_bc (l : Launch) (D : va_G) (cI cO : ClassId) (aB aM aR n sl : Nat) (sv iv ug : Int32) (g : Nat → Option Nat) (x y0 y1 : Int32) (hn : n ≤ 4) (hx0 : ¬ vp_in x n) : mk_M l y_Bus_add w_Bus_add ({ frames := 2, cells := 0, slots := 0, locals := 46 } : Room) D (tysK cI cO) [.ref aB, .int x, .int y0, .int y1] [(aB, .inr (3, [.ref aM, .ref aR, .int (nI sl), .int sv, .int iv, .int ug])), (aR, .inl (cO, n, .inr (.inr (.inr (.inr g)))))] (mk_Qi D (tysK cI cO) (-1) [(aB, .inr (3, [.ref aM, .ref aR, .int (nI sl), .int sv, .int iv, .int ug])), (aR, .inl (cO, n, .inr (.inr (.inr (.inr g)))))]) := by
  refine mk_start (cc := b_Bus_add) (maxL := 4) (ret := (some FieldType.int)) (by decide) (Nat.le_of_ble_eq_true rfl) (fun p e s m below meth c A ls H locs hx hb hml hr hlocks hnm hts hN hown hK hP hD hA hl hS => ?_)
  have hl : lv_has ls 4 [(0, .ref aB), (1, .int x), (2, .int y0), (3, .int y1)] := hl
  refine lv_aload_n hx hb d_Bus_add_0 rfl (lv_at hl 0 rfl) ?_
  refine lv_iload_n hx hb d_Bus_add_1 rfl (lv_at hl 1 rfl) ?_
  refine lv_iconst (v := nI 4) hx hb d_Bus_add_2 (by decide) ?_
  refine lv_iload_n hx hb d_Bus_add_3 rfl (lv_at hl 2 rfl) ?_
  refine lv_iload_n hx hb d_Bus_add_4 rfl (lv_at hl 3 rfl) ?_
  refine mk_calli (X := [(aB, .inr (3, [.ref aM, .ref aR, .int (nI sl), .int sv, .int iv, .int ug])), (aR, .inl (cO, n, .inr (.inr (.inr (.inr g)))))]) (pl := []) (wc := [(aB, .inr (3, [.ref aM, .ref aR, .int (nI sl), .int sv, .int iv, .int ug])), (aR, .inl (cO, n, .inr (.inr (.inr (.inr g)))))]) (wr := []) (w1 := [(aB, .inr (3, [.ref aM, .ref aR, .int (nI sl), .int sv, .int iv, .int ug])), (aR, .inl (cO, n, .inr (.inr (.inr (.inr g)))))]) (X1 := [(aB, .inr (3, [.ref aM, .ref aR, .int (nI sl), .int sv, .int iv, .int ug])), (aR, .inl (cO, n, .inr (.inr (.inr (.inr g)))))]) hP hD hS hA [0, 1] [] [0, 1] rfl rfl rfl (by decide) (by decide) (by decide)
    (va_runV (b := aB) (As := [.int x, .int (nI 4), .int y0, .int y1]) (rest := []) ⟨hx, hb, hml, hown, hts⟩ (c_cao_bc l D cI cO aB aM aR n sl sv iv ug g x (nI 4) y0 y1 (by first | assumption | omega) (by first | assumption | omega) H.size) ⟨callB_of 4 hts g_Bus_changeAtOnce rfl rfl rfl (hts _ iw_39) (hts _ iw_139) (by decide +kernel) ⟨by decide, by decide⟩, hts _ iw_141, hts _ iw_142⟩ (mk_preV (X := [(aB, .inr (3, [.ref aM, .ref aR, .int (nI sl), .int sv, .int iv, .int ug])), (aR, .inl (cO, n, .inr (.inr (.inr (.inr g)))))]) (pl := []) hN hK hP hD [0, 1] (by decide) rfl 0 rfl rfl rfl) rfl rfl hl.1 rfl (lv_room (Nat.le_of_ble_eq_true rfl)) d_Bus_add_5 ⟨Nat.le_refl _, Nat.le_refl _⟩) (fun H locs hP hD hS => ?_)
  have hP : va_P D vwCl [(aB, .inr (3, [.ref aM, .ref aR, .int (nI sl), .int sv, .int iv, .int ug])), (aR, .inl (cO, n, .inr (.inr (.inr (.inr g)))))] H := hP
  have hD : va_D A [(aB, .inr (3, [.ref aM, .ref aR, .int (nI sl), .int sv, .int iv, .int ug])), (aR, .inl (cO, n, .inr (.inr (.inr (.inr g)))))] := hD
  exact mk_iret hx hb hr hlocks hK hP hD hS d_Bus_add_8 rfl rfl
set_option maxRecDepth 100000 in
set_option maxHeartbeats 4000000 in
theorem c_add_ba (l : Launch) (D : va_G) (cI cO : ClassId) (aB aM aR n sl : Nat) (sv iv ug : Int32) (g : Nat → Option Nat) (i : Nat) (y0 y1 : Int32) (hn : n ≤ 4) (hi : i < n) (hy0 : ¬ vp_in y0 32) : mk_M l y_Bus_add w_Bus_add ({ frames := 2, cells := 0, slots := 0, locals := 46 } : Room) D (tysK cI cO) [.ref aB, .int (nI i), .int y0, .int y1] [(aB, .inr (3, [.ref aM, .ref aR, .int (nI sl), .int sv, .int iv, .int ug])), (aR, .inl (cO, n, .inr (.inr (.inr (.inr g)))))] (mk_Qi D (tysK cI cO) (-1) [(aB, .inr (3, [.ref aM, .ref aR, .int (nI sl), .int sv, .int iv, .int ug])), (aR, .inl (cO, n, .inr (.inr (.inr (.inr g)))))]) := by
  refine mk_start (cc := b_Bus_add) (maxL := 4) (ret := (some FieldType.int)) (by decide) (Nat.le_of_ble_eq_true rfl) (fun p e s m below meth c A ls H locs hx hb hml hr hlocks hnm hts hN hown hK hP hD hA hl hS => ?_)
  have hl : lv_has ls 4 [(0, .ref aB), (1, .int (nI i)), (2, .int y0), (3, .int y1)] := hl
  refine lv_aload_n hx hb d_Bus_add_0 rfl (lv_at hl 0 rfl) ?_
  refine lv_iload_n hx hb d_Bus_add_1 rfl (lv_at hl 1 rfl) ?_
  refine lv_iconst (v := nI 4) hx hb d_Bus_add_2 (by decide) ?_
  refine lv_iload_n hx hb d_Bus_add_3 rfl (lv_at hl 2 rfl) ?_
  refine lv_iload_n hx hb d_Bus_add_4 rfl (lv_at hl 3 rfl) ?_
  refine mk_calli (X := [(aB, .inr (3, [.ref aM, .ref aR, .int (nI sl), .int sv, .int iv, .int ug])), (aR, .inl (cO, n, .inr (.inr (.inr (.inr g)))))]) (pl := []) (wc := [(aB, .inr (3, [.ref aM, .ref aR, .int (nI sl), .int sv, .int iv, .int ug])), (aR, .inl (cO, n, .inr (.inr (.inr (.inr g)))))]) (wr := []) (w1 := [(aB, .inr (3, [.ref aM, .ref aR, .int (nI sl), .int sv, .int iv, .int ug])), (aR, .inl (cO, n, .inr (.inr (.inr (.inr g)))))]) (X1 := [(aB, .inr (3, [.ref aM, .ref aR, .int (nI sl), .int sv, .int iv, .int ug])), (aR, .inl (cO, n, .inr (.inr (.inr (.inr g)))))]) hP hD hS hA [0, 1] [] [0, 1] rfl rfl rfl (by decide) (by decide) (by decide)
    (va_runV (b := aB) (As := [.int (nI i), .int (nI 4), .int y0, .int y1]) (rest := []) ⟨hx, hb, hml, hown, hts⟩ (c_cao_ba l D cI cO aB aM aR n sl sv iv ug g i (nI 4) y0 y1 (by first | assumption | omega) (by first | assumption | omega) (by first | assumption | omega) H.size) ⟨callB_of 4 hts g_Bus_changeAtOnce rfl rfl rfl (hts _ iw_39) (hts _ iw_139) (by decide +kernel) ⟨by decide, by decide⟩, hts _ iw_141, hts _ iw_142⟩ (mk_preV (X := [(aB, .inr (3, [.ref aM, .ref aR, .int (nI sl), .int sv, .int iv, .int ug])), (aR, .inl (cO, n, .inr (.inr (.inr (.inr g)))))]) (pl := []) hN hK hP hD [0, 1] (by decide) rfl 0 rfl rfl rfl) rfl rfl hl.1 rfl (lv_room (Nat.le_of_ble_eq_true rfl)) d_Bus_add_5 ⟨Nat.le_refl _, Nat.le_refl _⟩) (fun H locs hP hD hS => ?_)
  have hP : va_P D vwCl [(aB, .inr (3, [.ref aM, .ref aR, .int (nI sl), .int sv, .int iv, .int ug])), (aR, .inl (cO, n, .inr (.inr (.inr (.inr g)))))] H := hP
  have hD : va_D A [(aB, .inr (3, [.ref aM, .ref aR, .int (nI sl), .int sv, .int iv, .int ug])), (aR, .inl (cO, n, .inr (.inr (.inr (.inr g)))))] := hD
  exact mk_iret hx hb hr hlocks hK hP hD hS d_Bus_add_8 rfl rfl
set_option maxRecDepth 100000 in
set_option maxHeartbeats 4000000 in
theorem c_add_busy (l : Launch) (D : va_G) (cI cO : ClassId) (aB aM aR n sl : Nat) (sv iv ug : Int32) (g : Nat → Option Nat) (i : Nat) (aK aC b1 b2 k ra : Nat) (rk rw lw : Int32) (j : Nat) (x : Int32) (hn : n ≤ 4) (hi : i < n) (hg : g i = some aK) (hb1 : ¬ rk = 0) (hj : j < 32) : mk_M l y_Bus_add w_Bus_add ({ frames := 2, cells := 0, slots := 0, locals := 46 } : Room) D (tysK cI cO) [.ref aB, .int (nI i), .int (nI j), .int x] [(aB, .inr (3, [.ref aM, .ref aR, .int (nI sl), .int sv, .int iv, .int ug])), (aR, .inl (cO, n, .inr (.inr (.inr (.inr g))))), (aK, .inr (1, [.ref aC, .ref b1, .ref b2, .int (nI k), .int rk, .int (nI ra), .int rw, .int lw]))] (mk_Qi D (tysK cI cO) (-2) [(aB, .inr (3, [.ref aM, .ref aR, .int (nI sl), .int sv, .int iv, .int ug])), (aR, .inl (cO, n, .inr (.inr (.inr (.inr g))))), (aK, .inr (1, [.ref aC, .ref b1, .ref b2, .int (nI k), .int rk, .int (nI ra), .int rw, .int lw]))]) := by
  refine mk_start (cc := b_Bus_add) (maxL := 4) (ret := (some FieldType.int)) (by decide) (Nat.le_of_ble_eq_true rfl) (fun p e s m below meth c A ls H locs hx hb hml hr hlocks hnm hts hN hown hK hP hD hA hl hS => ?_)
  have hl : lv_has ls 4 [(0, .ref aB), (1, .int (nI i)), (2, .int (nI j)), (3, .int x)] := hl
  refine lv_aload_n hx hb d_Bus_add_0 rfl (lv_at hl 0 rfl) ?_
  refine lv_iload_n hx hb d_Bus_add_1 rfl (lv_at hl 1 rfl) ?_
  refine lv_iconst (v := nI 4) hx hb d_Bus_add_2 (by decide) ?_
  refine lv_iload_n hx hb d_Bus_add_3 rfl (lv_at hl 2 rfl) ?_
  refine lv_iload_n hx hb d_Bus_add_4 rfl (lv_at hl 3 rfl) ?_
  refine mk_calli (X := [(aB, .inr (3, [.ref aM, .ref aR, .int (nI sl), .int sv, .int iv, .int ug])), (aR, .inl (cO, n, .inr (.inr (.inr (.inr g))))), (aK, .inr (1, [.ref aC, .ref b1, .ref b2, .int (nI k), .int rk, .int (nI ra), .int rw, .int lw]))]) (pl := []) (wc := [(aB, .inr (3, [.ref aM, .ref aR, .int (nI sl), .int sv, .int iv, .int ug])), (aR, .inl (cO, n, .inr (.inr (.inr (.inr g))))), (aK, .inr (1, [.ref aC, .ref b1, .ref b2, .int (nI k), .int rk, .int (nI ra), .int rw, .int lw]))]) (wr := []) (w1 := [(aB, .inr (3, [.ref aM, .ref aR, .int (nI sl), .int sv, .int iv, .int ug])), (aR, .inl (cO, n, .inr (.inr (.inr (.inr g))))), (aK, .inr (1, [.ref aC, .ref b1, .ref b2, .int (nI k), .int rk, .int (nI ra), .int rw, .int lw]))]) (X1 := [(aB, .inr (3, [.ref aM, .ref aR, .int (nI sl), .int sv, .int iv, .int ug])), (aR, .inl (cO, n, .inr (.inr (.inr (.inr g))))), (aK, .inr (1, [.ref aC, .ref b1, .ref b2, .int (nI k), .int rk, .int (nI ra), .int rw, .int lw]))]) hP hD hS hA [0, 1, 2] [] [0, 1, 2] rfl rfl rfl (by decide) (by decide) (by decide)
    (va_runV (b := aB) (As := [.int (nI i), .int (nI 4), .int (nI j), .int x]) (rest := []) ⟨hx, hb, hml, hown, hts⟩ (c_cao_busy l D cI cO aB aM aR n sl sv iv ug g i aK aC b1 b2 k ra rk rw lw j (nI 4) x (by first | assumption | omega) (by first | assumption | omega) (by first | assumption | omega) (by first | assumption | omega) (by first | assumption | omega) H.size) ⟨callB_of 4 hts g_Bus_changeAtOnce rfl rfl rfl (hts _ iw_39) (hts _ iw_139) (by decide +kernel) ⟨by decide, by decide⟩, hts _ iw_141, hts _ iw_142⟩ (mk_preV (X := [(aB, .inr (3, [.ref aM, .ref aR, .int (nI sl), .int sv, .int iv, .int ug])), (aR, .inl (cO, n, .inr (.inr (.inr (.inr g))))), (aK, .inr (1, [.ref aC, .ref b1, .ref b2, .int (nI k), .int rk, .int (nI ra), .int rw, .int lw]))]) (pl := []) hN hK hP hD [0, 1, 2] (by decide) rfl 0 rfl rfl rfl) rfl rfl hl.1 rfl (lv_room (Nat.le_of_ble_eq_true rfl)) d_Bus_add_5 ⟨Nat.le_refl _, Nat.le_refl _⟩) (fun H locs hP hD hS => ?_)
  have hP : va_P D vwCl [(aB, .inr (3, [.ref aM, .ref aR, .int (nI sl), .int sv, .int iv, .int ug])), (aR, .inl (cO, n, .inr (.inr (.inr (.inr g))))), (aK, .inr (1, [.ref aC, .ref b1, .ref b2, .int (nI k), .int rk, .int (nI ra), .int rw, .int lw]))] H := hP
  have hD : va_D A [(aB, .inr (3, [.ref aM, .ref aR, .int (nI sl), .int sv, .int iv, .int ug])), (aR, .inl (cO, n, .inr (.inr (.inr (.inr g))))), (aK, .inr (1, [.ref aC, .ref b1, .ref b2, .int (nI k), .int rk, .int (nI ra), .int rw, .int lw]))] := hD
  exact mk_iret hx hb hr hlocks hK hP hD hS d_Bus_add_8 rfl rfl
set_option maxRecDepth 100000 in
set_option maxHeartbeats 4000000 in
theorem c_add_not (l : Launch) (D : va_G) (cI cO : ClassId) (aB aM aR n sl : Nat) (sv iv ug : Int32) (g : Nat → Option Nat) (i : Nat) (aK aC b1 b2 k ra : Nat) (rk rw lw : Int32) (j : Nat) (x : Int32) (hn : n ≤ 4) (hi : i < n) (hg : g i = some aK) (hb1 : rk = 0) (hj : j < 32) (hk0 : 1 ≤ k) (hk : k ≤ 4) : mk_M l y_Bus_add w_Bus_add ({ frames := 2, cells := 0, slots := 0, locals := 46 } : Room) D (tysK cI cO) [.ref aB, .int (nI i), .int (nI j), .int x] [(aB, .inr (3, [.ref aM, .ref aR, .int (nI sl), .int sv, .int iv, .int ug])), (aR, .inl (cO, n, .inr (.inr (.inr (.inr g))))), (aK, .inr (1, [.ref aC, .ref b1, .ref b2, .int (nI k), .int rk, .int (nI ra), .int rw, .int lw]))] (mk_Qi D (tysK cI cO) (-4) [(aB, .inr (3, [.ref aM, .ref aR, .int (nI sl), .int sv, .int iv, .int ug])), (aR, .inl (cO, n, .inr (.inr (.inr (.inr g))))), (aK, .inr (1, [.ref aC, .ref b1, .ref b2, .int (nI k), .int rk, .int (nI ra), .int rw, .int lw]))]) := by
  refine mk_start (cc := b_Bus_add) (maxL := 4) (ret := (some FieldType.int)) (by decide) (Nat.le_of_ble_eq_true rfl) (fun p e s m below meth c A ls H locs hx hb hml hr hlocks hnm hts hN hown hK hP hD hA hl hS => ?_)
  have hl : lv_has ls 4 [(0, .ref aB), (1, .int (nI i)), (2, .int (nI j)), (3, .int x)] := hl
  refine lv_aload_n hx hb d_Bus_add_0 rfl (lv_at hl 0 rfl) ?_
  refine lv_iload_n hx hb d_Bus_add_1 rfl (lv_at hl 1 rfl) ?_
  refine lv_iconst (v := nI 4) hx hb d_Bus_add_2 (by decide) ?_
  refine lv_iload_n hx hb d_Bus_add_3 rfl (lv_at hl 2 rfl) ?_
  refine lv_iload_n hx hb d_Bus_add_4 rfl (lv_at hl 3 rfl) ?_
  refine mk_calli (X := [(aB, .inr (3, [.ref aM, .ref aR, .int (nI sl), .int sv, .int iv, .int ug])), (aR, .inl (cO, n, .inr (.inr (.inr (.inr g))))), (aK, .inr (1, [.ref aC, .ref b1, .ref b2, .int (nI k), .int rk, .int (nI ra), .int rw, .int lw]))]) (pl := []) (wc := [(aB, .inr (3, [.ref aM, .ref aR, .int (nI sl), .int sv, .int iv, .int ug])), (aR, .inl (cO, n, .inr (.inr (.inr (.inr g))))), (aK, .inr (1, [.ref aC, .ref b1, .ref b2, .int (nI k), .int rk, .int (nI ra), .int rw, .int lw]))]) (wr := []) (w1 := [(aB, .inr (3, [.ref aM, .ref aR, .int (nI sl), .int sv, .int iv, .int ug])), (aR, .inl (cO, n, .inr (.inr (.inr (.inr g))))), (aK, .inr (1, [.ref aC, .ref b1, .ref b2, .int (nI k), .int rk, .int (nI ra), .int rw, .int lw]))]) (X1 := [(aB, .inr (3, [.ref aM, .ref aR, .int (nI sl), .int sv, .int iv, .int ug])), (aR, .inl (cO, n, .inr (.inr (.inr (.inr g))))), (aK, .inr (1, [.ref aC, .ref b1, .ref b2, .int (nI k), .int rk, .int (nI ra), .int rw, .int lw]))]) hP hD hS hA [0, 1, 2] [] [0, 1, 2] rfl rfl rfl (by decide) (by decide) (by decide)
    (va_runV (b := aB) (As := [.int (nI i), .int (nI 4), .int (nI j), .int x]) (rest := []) ⟨hx, hb, hml, hown, hts⟩ (c_cao_not l D cI cO aB aM aR n sl sv iv ug g i aK aC b1 b2 k ra rk rw lw j (nI 4) x (by first | assumption | omega) (by first | assumption | omega) (by first | assumption | omega) (by first | assumption | omega) (by first | assumption | omega) (by first | assumption | omega) (by first | assumption | omega) H.size) ⟨callB_of 4 hts g_Bus_changeAtOnce rfl rfl rfl (hts _ iw_39) (hts _ iw_139) (by decide +kernel) ⟨by decide, by decide⟩, hts _ iw_141, hts _ iw_142⟩ (mk_preV (X := [(aB, .inr (3, [.ref aM, .ref aR, .int (nI sl), .int sv, .int iv, .int ug])), (aR, .inl (cO, n, .inr (.inr (.inr (.inr g))))), (aK, .inr (1, [.ref aC, .ref b1, .ref b2, .int (nI k), .int rk, .int (nI ra), .int rw, .int lw]))]) (pl := []) hN hK hP hD [0, 1, 2] (by decide) rfl 0 rfl rfl rfl) rfl rfl hl.1 rfl (lv_room (Nat.le_of_ble_eq_true rfl)) d_Bus_add_5 ⟨Nat.le_refl _, Nat.le_refl _⟩) (fun H locs hP hD hS => ?_)
  have hP : va_P D vwCl [(aB, .inr (3, [.ref aM, .ref aR, .int (nI sl), .int sv, .int iv, .int ug])), (aR, .inl (cO, n, .inr (.inr (.inr (.inr g))))), (aK, .inr (1, [.ref aC, .ref b1, .ref b2, .int (nI k), .int rk, .int (nI ra), .int rw, .int lw]))] H := hP
  have hD : va_D A [(aB, .inr (3, [.ref aM, .ref aR, .int (nI sl), .int sv, .int iv, .int ug])), (aR, .inl (cO, n, .inr (.inr (.inr (.inr g))))), (aK, .inr (1, [.ref aC, .ref b1, .ref b2, .int (nI k), .int rk, .int (nI ra), .int rw, .int lw]))] := hD
  exact mk_iret hx hb hr hlocks hK hP hD hS d_Bus_add_8 rfl rfl
set_option maxRecDepth 100000 in
set_option maxHeartbeats 4000000 in
theorem c_add_ask (l : Launch) (D : va_G) (cI cO : ClassId) (aB aM aR n sl : Nat) (sv iv ug : Int32) (g : Nat → Option Nat) (i : Nat) (aK aC b1 b2 k ra : Nat) (rk rw lw : Int32) (a1 a2 a3 wy : Nat) (us : Int32) (j : Nat) (x : Int32) (st : Nat → Int32) (hn : n ≤ 4) (hi : i < n) (hg : g i = some aK) (hb1 : rk = 0) (hj : j < 32) (hk : k = 0) (h1 : ¬ st (j / 4) = nI 2) (h2 : ¬ st (j / 4) = nI 3) : mk_M l y_Bus_add w_Bus_add ({ frames := 3, cells := 0, slots := 0, locals := 71 } : Room) D (tysK cI cO) [.ref aB, .int (nI i), .int (nI j), .int x] [(aB, .inr (3, [.ref aM, .ref aR, .int (nI sl), .int sv, .int iv, .int ug])), (aR, .inl (cO, n, .inr (.inr (.inr (.inr g))))), (aK, .inr (1, [.ref aC, .ref b1, .ref b2, .int (nI k), .int rk, .int (nI ra), .int rw, .int lw])), (aC, .inr (0, [.ref aM, .int (nI wy), .ref a1, .ref a2, .ref a3, .int us])), (a1, .inl (cI, 8, .inl st))] (mk_Qi D (tysK cI cO) (nI 1) [(aB, .inr (3, [.ref aM, .ref aR, .int (nI sl), .int sv, .int iv, .int ug])), (aR, .inl (cO, n, .inr (.inr (.inr (.inr g))))), (aK, .inr (1, [.ref aC, .ref b1, .ref b2, .int (nI k), .int (nI 4), .int (nI j), .int x, .int lw])), (aC, .inr (0, [.ref aM, .int (nI wy), .ref a1, .ref a2, .ref a3, .int us])), (a1, .inl (cI, 8, .inl st))]) := by
  refine mk_start (cc := b_Bus_add) (maxL := 4) (ret := (some FieldType.int)) (by decide) (Nat.le_of_ble_eq_true rfl) (fun p e s m below meth c A ls H locs hx hb hml hr hlocks hnm hts hN hown hK hP hD hA hl hS => ?_)
  have hl : lv_has ls 4 [(0, .ref aB), (1, .int (nI i)), (2, .int (nI j)), (3, .int x)] := hl
  refine lv_aload_n hx hb d_Bus_add_0 rfl (lv_at hl 0 rfl) ?_
  refine lv_iload_n hx hb d_Bus_add_1 rfl (lv_at hl 1 rfl) ?_
  refine lv_iconst (v := nI 4) hx hb d_Bus_add_2 (by decide) ?_
  refine lv_iload_n hx hb d_Bus_add_3 rfl (lv_at hl 2 rfl) ?_
  refine lv_iload_n hx hb d_Bus_add_4 rfl (lv_at hl 3 rfl) ?_
  refine mk_calli (X := [(aB, .inr (3, [.ref aM, .ref aR, .int (nI sl), .int sv, .int iv, .int ug])), (aR, .inl (cO, n, .inr (.inr (.inr (.inr g))))), (aK, .inr (1, [.ref aC, .ref b1, .ref b2, .int (nI k), .int rk, .int (nI ra), .int rw, .int lw])), (aC, .inr (0, [.ref aM, .int (nI wy), .ref a1, .ref a2, .ref a3, .int us])), (a1, .inl (cI, 8, .inl st))]) (pl := []) (wc := [(aB, .inr (3, [.ref aM, .ref aR, .int (nI sl), .int sv, .int iv, .int ug])), (aR, .inl (cO, n, .inr (.inr (.inr (.inr g))))), (aK, .inr (1, [.ref aC, .ref b1, .ref b2, .int (nI k), .int rk, .int (nI ra), .int rw, .int lw])), (aC, .inr (0, [.ref aM, .int (nI wy), .ref a1, .ref a2, .ref a3, .int us])), (a1, .inl (cI, 8, .inl st))]) (wr := []) (w1 := [(aB, .inr (3, [.ref aM, .ref aR, .int (nI sl), .int sv, .int iv, .int ug])), (aR, .inl (cO, n, .inr (.inr (.inr (.inr g))))), (aK, .inr (1, [.ref aC, .ref b1, .ref b2, .int (nI k), .int (nI 4), .int (nI j), .int x, .int lw])), (aC, .inr (0, [.ref aM, .int (nI wy), .ref a1, .ref a2, .ref a3, .int us])), (a1, .inl (cI, 8, .inl st))]) (X1 := [(aB, .inr (3, [.ref aM, .ref aR, .int (nI sl), .int sv, .int iv, .int ug])), (aR, .inl (cO, n, .inr (.inr (.inr (.inr g))))), (aK, .inr (1, [.ref aC, .ref b1, .ref b2, .int (nI k), .int (nI 4), .int (nI j), .int x, .int lw])), (aC, .inr (0, [.ref aM, .int (nI wy), .ref a1, .ref a2, .ref a3, .int us])), (a1, .inl (cI, 8, .inl st))]) hP hD hS hA [0, 1, 2, 3, 4] [] [0, 1, 2, 3, 4] rfl rfl rfl (by decide) (by decide) (by decide)
    (va_runV (b := aB) (As := [.int (nI i), .int (nI 4), .int (nI j), .int x]) (rest := []) ⟨hx, hb, hml, hown, hts⟩ (c_cao_ask l D cI cO aB aM aR n sl sv iv ug g i aK aC b1 b2 k ra rk rw lw a1 a2 a3 wy us j (nI 4) x st (by first | assumption | omega) (by first | assumption | omega) (by first | assumption | omega) (by first | assumption | omega) (by first | assumption | omega) (by first | assumption | omega) (by first | assumption | omega) (by first | assumption | omega) H.size) ⟨callB_of 4 hts g_Bus_changeAtOnce rfl rfl rfl (hts _ iw_39) (hts _ iw_139) (by decide +kernel) ⟨by decide, by decide⟩, hts _ iw_141, hts _ iw_142⟩ (mk_preV (X := [(aB, .inr (3, [.ref aM, .ref aR, .int (nI sl), .int sv, .int iv, .int ug])), (aR, .inl (cO, n, .inr (.inr (.inr (.inr g))))), (aK, .inr (1, [.ref aC, .ref b1, .ref b2, .int (nI k), .int rk, .int (nI ra), .int rw, .int lw])), (aC, .inr (0, [.ref aM, .int (nI wy), .ref a1, .ref a2, .ref a3, .int us])), (a1, .inl (cI, 8, .inl st))]) (pl := []) hN hK hP hD [0, 1, 2, 3, 4] (by decide) rfl 0 rfl rfl rfl) rfl rfl hl.1 rfl (lv_room (Nat.le_of_ble_eq_true rfl)) d_Bus_add_5 ⟨Nat.le_refl _, Nat.le_refl _⟩) (fun H locs hP hD hS => ?_)
  have hP : va_P D vwCl [(aB, .inr (3, [.ref aM, .ref aR, .int (nI sl), .int sv, .int iv, .int ug])), (aR, .inl (cO, n, .inr (.inr (.inr (.inr g))))), (aK, .inr (1, [.ref aC, .ref b1, .ref b2, .int (nI k), .int (nI 4), .int (nI j), .int x, .int lw])), (aC, .inr (0, [.ref aM, .int (nI wy), .ref a1, .ref a2, .ref a3, .int us])), (a1, .inl (cI, 8, .inl st))] H := hP
  have hD : va_D A [(aB, .inr (3, [.ref aM, .ref aR, .int (nI sl), .int sv, .int iv, .int ug])), (aR, .inl (cO, n, .inr (.inr (.inr (.inr g))))), (aK, .inr (1, [.ref aC, .ref b1, .ref b2, .int (nI k), .int (nI 4), .int (nI j), .int x, .int lw])), (aC, .inr (0, [.ref aM, .int (nI wy), .ref a1, .ref a2, .ref a3, .int us])), (a1, .inl (cI, 8, .inl st))] := hD
  exact mk_iret hx hb hr hlocks hK hP hD hS d_Bus_add_8 rfl rfl
set_option maxRecDepth 100000 in
set_option maxHeartbeats 4000000 in
theorem c_add_do (l : Launch) (D : va_G) (cI cO : ClassId) (aB aM aR n sl : Nat) (sv iv ug : Int32) (g : Nat → Option Nat) (i : Nat) (aK aC b1 b2 k ra : Nat) (rk rw lw : Int32) (a1 a2 a3 wy : Nat) (us : Int32) (j : Nat) (x : Int32) (st ua wd : Nat → Int32) (hn : n ≤ 4) (hi : i < n) (hg : g i = some aK) (hb1 : rk = 0) (hj : j < 32) (hk : k = 0) (h1 : st (j / 4) = nI 2 ∨ st (j / 4) = nI 3) : mk_M l y_Bus_add w_Bus_add ({ frames := 5, cells := 0, slots := 0, locals := 116 } : Room) D (tysK cI cO) [.ref aB, .int (nI i), .int (nI j), .int x] [(aB, .inr (3, [.ref aM, .ref aR, .int (nI sl), .int sv, .int iv, .int ug])), (aR, .inl (cO, n, .inr (.inr (.inr (.inr g))))), (aK, .inr (1, [.ref aC, .ref b1, .ref b2, .int (nI k), .int rk, .int (nI ra), .int rw, .int lw])), (aC, .inr (0, [.ref aM, .int (nI wy), .ref a1, .ref a2, .ref a3, .int us])), (a1, .inl (cI, 8, .inl st)), (a2, .inl (cI, 8, .inl ua)), (a3, .inl (cI, 32, .inl wd))] (mk_Qi D (tysK cI cO) (nI 0) [(aB, .inr (3, [.ref aM, .ref aR, .int (nI sl), .int sv, .int iv, .int ug])), (aR, .inl (cO, n, .inr (.inr (.inr (.inr g))))), (aK, .inr (1, [.ref aC, .ref b1, .ref b2, .int (nI k), .int rk, .int (nI ra), .int rw, .int (wd j)])), (aC, .inr (0, [.ref aM, .int (nI wy), .ref a1, .ref a2, .ref a3, .int (us + nI 1)])), (a1, .inl (cI, 8, .inl (upd st (j / 4) (nI 3)))), (a2, .inl (cI, 8, .inl (upd ua (j / 4) (us + nI 1)))), (a3, .inl (cI, 32, .inl (upd wd j (wd j + x))))]) := by
  refine mk_start (cc := b_Bus_add) (maxL := 4) (ret := (some FieldType.int)) (by decide) (Nat.le_of_ble_eq_true rfl) (fun p e s m below meth c A ls H locs hx hb hml hr hlocks hnm hts hN hown hK hP hD hA hl hS => ?_)
  have hl : lv_has ls 4 [(0, .ref aB), (1, .int (nI i)), (2, .int (nI j)), (3, .int x)] := hl
  refine lv_aload_n hx hb d_Bus_add_0 rfl (lv_at hl 0 rfl) ?_
  refine lv_iload_n hx hb d_Bus_add_1 rfl (lv_at hl 1 rfl) ?_
  refine lv_iconst (v := nI 4) hx hb d_Bus_add_2 (by decide) ?_
  refine lv_iload_n hx hb d_Bus_add_3 rfl (lv_at hl 2 rfl) ?_
  refine lv_iload_n hx hb d_Bus_add_4 rfl (lv_at hl 3 rfl) ?_
  refine mk_calli (X := [(aB, .inr (3, [.ref aM, .ref aR, .int (nI sl), .int sv, .int iv, .int ug])), (aR, .inl (cO, n, .inr (.inr (.inr (.inr g))))), (aK, .inr (1, [.ref aC, .ref b1, .ref b2, .int (nI k), .int rk, .int (nI ra), .int rw, .int lw])), (aC, .inr (0, [.ref aM, .int (nI wy), .ref a1, .ref a2, .ref a3, .int us])), (a1, .inl (cI, 8, .inl st)), (a2, .inl (cI, 8, .inl ua)), (a3, .inl (cI, 32, .inl wd))]) (pl := []) (wc := [(aB, .inr (3, [.ref aM, .ref aR, .int (nI sl), .int sv, .int iv, .int ug])), (aR, .inl (cO, n, .inr (.inr (.inr (.inr g))))), (aK, .inr (1, [.ref aC, .ref b1, .ref b2, .int (nI k), .int rk, .int (nI ra), .int rw, .int lw])), (aC, .inr (0, [.ref aM, .int (nI wy), .ref a1, .ref a2, .ref a3, .int us])), (a1, .inl (cI, 8, .inl st)), (a2, .inl (cI, 8, .inl ua)), (a3, .inl (cI, 32, .inl wd))]) (wr := []) (w1 := [(aB, .inr (3, [.ref aM, .ref aR, .int (nI sl), .int sv, .int iv, .int ug])), (aR, .inl (cO, n, .inr (.inr (.inr (.inr g))))), (aK, .inr (1, [.ref aC, .ref b1, .ref b2, .int (nI k), .int rk, .int (nI ra), .int rw, .int (wd j)])), (aC, .inr (0, [.ref aM, .int (nI wy), .ref a1, .ref a2, .ref a3, .int (us + nI 1)])), (a1, .inl (cI, 8, .inl (upd st (j / 4) (nI 3)))), (a2, .inl (cI, 8, .inl (upd ua (j / 4) (us + nI 1)))), (a3, .inl (cI, 32, .inl (upd wd j (wd j + x))))]) (X1 := [(aB, .inr (3, [.ref aM, .ref aR, .int (nI sl), .int sv, .int iv, .int ug])), (aR, .inl (cO, n, .inr (.inr (.inr (.inr g))))), (aK, .inr (1, [.ref aC, .ref b1, .ref b2, .int (nI k), .int rk, .int (nI ra), .int rw, .int (wd j)])), (aC, .inr (0, [.ref aM, .int (nI wy), .ref a1, .ref a2, .ref a3, .int (us + nI 1)])), (a1, .inl (cI, 8, .inl (upd st (j / 4) (nI 3)))), (a2, .inl (cI, 8, .inl (upd ua (j / 4) (us + nI 1)))), (a3, .inl (cI, 32, .inl (upd wd j (wd j + x))))]) hP hD hS hA [0, 1, 2, 3, 4, 5, 6] [] [0, 1, 2, 3, 4, 5, 6] rfl rfl rfl (by decide) (by decide) (by decide)
    (va_runV (b := aB) (As := [.int (nI i), .int (nI 4), .int (nI j), .int x]) (rest := []) ⟨hx, hb, hml, hown, hts⟩ (c_cao_ra l D cI cO aB aM aR n sl sv iv ug g i aK aC b1 b2 k ra rk rw lw a1 a2 a3 wy us j x st ua wd (by first | assumption | omega) (by first | assumption | omega) (by first | assumption | omega) (by first | assumption | omega) (by first | assumption | omega) (by first | assumption | omega) (by first | assumption | omega) H.size) ⟨callB_of 4 hts g_Bus_changeAtOnce rfl rfl rfl (hts _ iw_39) (hts _ iw_139) (by decide +kernel) ⟨by decide, by decide⟩, hts _ iw_141, hts _ iw_142⟩ (mk_preV (X := [(aB, .inr (3, [.ref aM, .ref aR, .int (nI sl), .int sv, .int iv, .int ug])), (aR, .inl (cO, n, .inr (.inr (.inr (.inr g))))), (aK, .inr (1, [.ref aC, .ref b1, .ref b2, .int (nI k), .int rk, .int (nI ra), .int rw, .int lw])), (aC, .inr (0, [.ref aM, .int (nI wy), .ref a1, .ref a2, .ref a3, .int us])), (a1, .inl (cI, 8, .inl st)), (a2, .inl (cI, 8, .inl ua)), (a3, .inl (cI, 32, .inl wd))]) (pl := []) hN hK hP hD [0, 1, 2, 3, 4, 5, 6] (by decide) rfl 0 rfl rfl rfl) rfl rfl hl.1 rfl (lv_room (Nat.le_of_ble_eq_true rfl)) d_Bus_add_5 ⟨Nat.le_refl _, Nat.le_refl _⟩) (fun H locs hP hD hS => ?_)
  have hP : va_P D vwCl [(aB, .inr (3, [.ref aM, .ref aR, .int (nI sl), .int sv, .int iv, .int ug])), (aR, .inl (cO, n, .inr (.inr (.inr (.inr g))))), (aK, .inr (1, [.ref aC, .ref b1, .ref b2, .int (nI k), .int rk, .int (nI ra), .int rw, .int (wd j)])), (aC, .inr (0, [.ref aM, .int (nI wy), .ref a1, .ref a2, .ref a3, .int (us + nI 1)])), (a1, .inl (cI, 8, .inl (upd st (j / 4) (nI 3)))), (a2, .inl (cI, 8, .inl (upd ua (j / 4) (us + nI 1)))), (a3, .inl (cI, 32, .inl (upd wd j (wd j + x))))] H := hP
  have hD : va_D A [(aB, .inr (3, [.ref aM, .ref aR, .int (nI sl), .int sv, .int iv, .int ug])), (aR, .inl (cO, n, .inr (.inr (.inr (.inr g))))), (aK, .inr (1, [.ref aC, .ref b1, .ref b2, .int (nI k), .int rk, .int (nI ra), .int rw, .int (wd j)])), (aC, .inr (0, [.ref aM, .int (nI wy), .ref a1, .ref a2, .ref a3, .int (us + nI 1)])), (a1, .inl (cI, 8, .inl (upd st (j / 4) (nI 3)))), (a2, .inl (cI, 8, .inl (upd ua (j / 4) (us + nI 1)))), (a3, .inl (cI, 32, .inl (upd wd j (wd j + x))))] := hD
  exact mk_iret hx hb hr hlocks hK hP hD hS d_Bus_add_8 rfl rfl
set_option maxRecDepth 100000 in
set_option maxHeartbeats 4000000 in
theorem c_evict_busy (l : Launch) (D : va_G) (cI cO : ClassId) (aB aM aR n sl : Nat) (sv iv ug : Int32) (g : Nat → Option Nat) (i : Nat) (aK aC b1 b2 k ra : Nat) (rk rw lw : Int32) (L : Nat) (hn : n ≤ 4) (hi : i < n) (hg : g i = some aK) (hb1 : ¬ rk = 0) (hL : L < 8) : mk_M l y_Bus_evict w_Bus_evict ({ frames := 1, cells := 0, slots := 0, locals := 21 } : Room) D (tysK cI cO) [.ref aB, .int (nI i), .int (nI L)] [(aB, .inr (3, [.ref aM, .ref aR, .int (nI sl), .int sv, .int iv, .int ug])), (aR, .inl (cO, n, .inr (.inr (.inr (.inr g))))), (aK, .inr (1, [.ref aC, .ref b1, .ref b2, .int (nI k), .int rk, .int (nI ra), .int rw, .int lw]))] (mk_Qi D (tysK cI cO) (-2) [(aB, .inr (3, [.ref aM, .ref aR, .int (nI sl), .int sv, .int iv, .int ug])), (aR, .inl (cO, n, .inr (.inr (.inr (.inr g))))), (aK, .inr (1, [.ref aC, .ref b1, .ref b2, .int (nI k), .int rk, .int (nI ra), .int rw, .int lw]))]) := by
  refine mk_start (cc := b_Bus_evict) (maxL := 5) (ret := (some FieldType.int)) (by decide) (Nat.le_of_ble_eq_true rfl) (fun p e s m below meth c A ls H locs hx hb hml hr hlocks hnm hts hN hown hK hP hD hA hl hS => ?_)
  have hl : lv_has ls 5 [(0, .ref aB), (1, .int (nI i)), (2, .int (nI L))] := hl
  refine lv_aload_n hx hb d_Bus_evict_0 rfl (lv_at hl 0 rfl) ?_
  refine lv_iload_n hx hb d_Bus_evict_1 rfl (lv_at hl 1 rfl) ?_
  refine mk_calli (X := [(aB, .inr (3, [.ref aM, .ref aR, .int (nI sl), .int sv, .int iv, .int ug])), (aR, .inl (cO, n, .inr (.inr (.inr (.inr g))))), (aK, .inr (1, [.ref aC, .ref b1, .ref b2, .int (nI k), .int rk, .int (nI ra), .int rw, .int lw]))]) (pl := []) (wc := [(aB, .inr (3, [.ref aM, .ref aR, .int (nI sl), .int sv, .int iv, .int ug])), (aR, .inl (cO, n, .inr (.inr (.inr (.inr g)))))]) (wr := [(aK, .inr (1, [.ref aC, .ref b1, .ref b2, .int (nI k), .int rk, .int (nI ra), .int rw, .int lw]))]) (w1 := [(aB, .inr (3, [.ref aM, .ref aR, .int (nI sl), .int sv, .int iv, .int ug])), (aR, .inl (cO, n, .inr (.inr (.inr (.inr g)))))]) (X1 := [(aB, .inr (3, [.ref aM, .ref aR, .int (nI sl), .int sv, .int iv, .int ug])), (aR, .inl (cO, n, .inr (.inr (.inr (.inr g))))), (aK, .inr (1, [.ref aC, .ref b1, .ref b2, .int (nI k), .int rk, .int (nI ra), .int rw, .int lw]))]) hP hD hS hA [0, 1] [2] [1, 2, 0] rfl rfl rfl (by decide) (by decide) (by decide)
    (va_runV (b := aB) (As := [.int (nI i)]) (rest := []) ⟨hx, hb, hml, hown, hts⟩ (c_isCore_1 l D cI cO aB aM aR n sl sv iv ug g i (by first | assumption | omega) (by first | assumption | omega) H.size) ⟨callB_of 1 hts g_Bus_isCore rfl rfl rfl (hts _ iw_39) (hts _ iw_78) (by decide +kernel) ⟨by decide, by decide⟩, hts _ iw_82, hts _ iw_83⟩ (mk_preV (X := [(aB, .inr (3, [.ref aM, .ref aR, .int (nI sl), .int sv, .int iv, .int ug])), (aR, .inl (cO, n, .inr (.inr (.inr (.inr g))))), (aK, .inr (1, [.ref aC, .ref b1, .ref b2, .int (nI k), .int rk, .int (nI ra), .int rw, .int lw]))]) (pl := []) hN hK hP hD [0, 1] (by decide) rfl 0 rfl rfl rfl) rfl rfl hl.1 rfl (lv_room (Nat.le_of_ble_eq_true rfl)) d_Bus_evict_2 ⟨Nat.le_refl _, Nat.le_refl _⟩) (fun H locs hP hD hS => ?_)
  have hP : va_P D vwCl [(aB, .inr (3, [.ref aM, .ref aR, .int (nI sl), .int sv, .int iv, .int ug])), (aR, .inl (cO, n, .inr (.inr (.inr (.inr g))))), (aK, .inr (1, [.ref aC, .ref b1, .ref b2, .int (nI k), .int rk, .int (nI ra), .int rw, .int lw]))] H := hP
  have hD : va_D A [(aB, .inr (3, [.ref aM, .ref aR, .int (nI sl), .int sv, .int iv, .int ug])), (aR, .inl (cO, n, .inr (.inr (.inr (.inr g))))), (aK, .inr (1, [.ref aC, .ref b1, .ref b2, .int (nI k), .int rk, .int (nI ra), .int rw, .int lw]))] := hD
  refine lv_if_eq (tgt := 15) hx hb d_Bus_evict_5 rfl (fun h => absurd h (by decide)) (fun _ => ?_)
  refine lv_iload_n hx hb d_Bus_evict_8 rfl (lv_at hl 2 rfl) ?_
  refine mk_calli (X := [(aB, .inr (3, [.ref aM, .ref aR, .int (nI sl), .int sv, .int iv, .int ug])), (aR, .inl (cO, n, .inr (.inr (.inr (.inr g))))), (aK, .inr (1, [.ref aC, .ref b1, .ref b2, .int (nI k), .int rk, .int (nI ra), .int rw, .int lw]))]) (pl := []) (wc := []) (wr := [(aB, .inr (3, [.ref aM, .ref aR, .int (nI sl), .int sv, .int iv, .int ug])), (aR, .inl (cO, n, .inr (.inr (.inr (.inr g))))), (aK, .inr (1, [.ref aC, .ref b1, .ref b2, .int (nI k), .int rk, .int (nI ra), .int rw, .int lw]))]) (w1 := []) (X1 := [(aB, .inr (3, [.ref aM, .ref aR, .int (nI sl), .int sv, .int iv, .int ug])), (aR, .inl (cO, n, .inr (.inr (.inr (.inr g))))), (aK, .inr (1, [.ref aC, .ref b1, .ref b2, .int (nI k), .int rk, .int (nI ra), .int rw, .int lw]))]) hP hD hS hA [] [0, 1, 2] [0, 1, 2] rfl rfl rfl (by decide) (by decide) (by decide)
    (va_runS (As := [.int (nI L)]) (rest := []) ⟨hx, hb, hml, hown, hts⟩ (c_isLine_1 l D cI cO L (by first | assumption | omega) H.size) ⟨callB_of 1 hts g_Bus_isLine rfl rfl rfl (hts _ iw_39) (hts _ iw_195) (by decide +kernel) ⟨by decide, by decide⟩, hts _ iw_197⟩ (mk_preS (X := [(aB, .inr (3, [.ref aM, .ref aR, .int (nI sl), .int sv, .int iv, .int ug])), (aR, .inl (cO, n, .inr (.inr (.inr (.inr g))))), (aK, .inr (1, [.ref aC, .ref b1, .ref b2, .int (nI k), .int rk, .int (nI ra), .int rw, .int lw]))]) (pl := []) hN hK hP hD [] (by decide) rfl) rfl rfl hl.1 rfl (lv_room (Nat.le_of_ble_eq_true rfl)) d_Bus_evict_9 ⟨Nat.le_refl _, Nat.le_refl _⟩) (fun H locs hP hD hS => ?_)
  have hP : va_P D vwCl [(aB, .inr (3, [.ref aM, .ref aR, .int (nI sl), .int sv, .int iv, .int ug])), (aR, .inl (cO, n, .inr (.inr (.inr (.inr g))))), (aK, .inr (1, [.ref aC, .ref b1, .ref b2, .int (nI k), .int rk, .int (nI ra), .int rw, .int lw]))] H := hP
  have hD : va_D A [(aB, .inr (3, [.ref aM, .ref aR, .int (nI sl), .int sv, .int iv, .int ug])), (aR, .inl (cO, n, .inr (.inr (.inr (.inr g))))), (aK, .inr (1, [.ref aC, .ref b1, .ref b2, .int (nI k), .int rk, .int (nI ra), .int rw, .int lw]))] := hD
  refine lv_if_ne (tgt := 17) hx hb d_Bus_evict_12 rfl (fun _ => ?_) (fun h => absurd h (by decide))
  refine lv_aload_n hx hb d_Bus_evict_17 rfl (lv_at hl 0 rfl) ?_
  refine va_get (D := D) (ci := 3) (v := .ref aR) (C := R_Bus) (T := T_Bus) (N := 6) hx hb hts in_Bus hown hK hP 0 rfl rfl 1 (by decide) (hts _ iw_53) (fun _ h9 => h9) rfl d_Bus_evict_18 ?_
  refine lv_iload_n hx hb d_Bus_evict_21 rfl (lv_at hl 1 rfl) ?_
  refine mk_aald hx hb hK hP 1 1 rfl rfl (j := i) (b := aK) (by omega) (by omega) hg d_Bus_evict_22 ?_
  refine mk_calli (X := [(aB, .inr (3, [.ref aM, .ref aR, .int (nI sl), .int sv, .int iv, .int ug])), (aR, .inl (cO, n, .inr (.inr (.inr (.inr g))))), (aK, .inr (1, [.ref aC, .ref b1, .ref b2, .int (nI k), .int rk, .int (nI ra), .int rw, .int lw]))]) (pl := []) (wc := [(aK, .inr (1, [.ref aC, .ref b1, .ref b2, .int (nI k), .int rk, .int (nI ra), .int rw, .int lw]))]) (wr := [(aB, .inr (3, [.ref aM, .ref aR, .int (nI sl), .int sv, .int iv, .int ug])), (aR, .inl (cO, n, .inr (.inr (.inr (.inr g)))))]) (w1 := [(aK, .inr (1, [.ref aC, .ref b1, .ref b2, .int (nI k), .int rk, .int (nI ra), .int rw, .int lw]))]) (X1 := [(aB, .inr (3, [.ref aM, .ref aR, .int (nI sl), .int sv, .int iv, .int ug])), (aR, .inl (cO, n, .inr (.inr (.inr (.inr g))))), (aK, .inr (1, [.ref aC, .ref b1, .ref b2, .int (nI k), .int rk, .int (nI ra), .int rw, .int lw]))]) hP hD hS hA [2] [0, 1] [0, 1, 2] rfl rfl rfl (by decide) (by decide) (by decide)
    (va_runVN (b := aK) (As := []) (rest := []) ⟨hx, hb, hml, hown, hts⟩ (c_waits_1 l D cI cO aK aC b1 b2 k ra rk rw lw (by first | assumption | omega) H.size) ⟨va_cnB 0 hts g_Core_waits rfl rfl rfl (hN _ in_w3) (hts _ iw_41) (by decide +kernel) ⟨by decide, by decide⟩, hts _ iw_87, hts _ iw_88⟩ (mk_preV (X := [(aB, .inr (3, [.ref aM, .ref aR, .int (nI sl), .int sv, .int iv, .int ug])), (aR, .inl (cO, n, .inr (.inr (.inr (.inr g))))), (aK, .inr (1, [.ref aC, .ref b1, .ref b2, .int (nI k), .int rk, .int (nI ra), .int rw, .int lw]))]) (pl := []) hN hK hP hD [2] (by decide) rfl 2 rfl rfl rfl) rfl rfl hl.1 rfl (lv_room (Nat.le_of_ble_eq_true rfl)) d_Bus_evict_23 ⟨Nat.le_refl _, Nat.le_refl _⟩) (fun H locs hP hD hS => ?_)
  have hP : va_P D vwCl [(aB, .inr (3, [.ref aM, .ref aR, .int (nI sl), .int sv, .int iv, .int ug])), (aR, .inl (cO, n, .inr (.inr (.inr (.inr g))))), (aK, .inr (1, [.ref aC, .ref b1, .ref b2, .int (nI k), .int rk, .int (nI ra), .int rw, .int lw]))] H := hP
  have hD : va_D A [(aB, .inr (3, [.ref aM, .ref aR, .int (nI sl), .int sv, .int iv, .int ug])), (aR, .inl (cO, n, .inr (.inr (.inr (.inr g))))), (aK, .inr (1, [.ref aC, .ref b1, .ref b2, .int (nI k), .int rk, .int (nI ra), .int rw, .int lw]))] := hD
  refine lv_if_eq (tgt := 32) hx hb d_Bus_evict_26 rfl (fun h => absurd h (by decide)) (fun _ => ?_)
  refine lv_bipush (v := (-2)) hx hb d_Bus_evict_29 (by decide) ?_
  exact mk_iret hx hb hr hlocks hK hP hD hS d_Bus_evict_31 rfl rfl
set_option maxRecDepth 100000 in
set_option maxHeartbeats 4000000 in
theorem c_evict_ok (l : Launch) (D : va_G) (cI cO : ClassId) (aB aM aR n sl : Nat) (sv iv ug : Int32) (g : Nat → Option Nat) (i : Nat) (aK aC b1 b2 k ra : Nat) (rk rw lw : Int32) (a1 a2 a3 wy : Nat) (us : Int32) (aW : Nat) (wb : Int32) (st wd mw : Nat → Int32) (L : Nat) (hn : n ≤ 4) (hi : i < n) (hg : g i = some aK) (hb1 : rk = 0) (hL : L < 8) : mk_M l y_Bus_evict w_Bus_evict ({ frames := 3, cells := 0, slots := 0, locals := 83 } : Room) D (tysK cI cO) [.ref aB, .int (nI i), .int (nI L)] [(aB, .inr (3, [.ref aM, .ref aR, .int (nI sl), .int sv, .int iv, .int ug])), (aR, .inl (cO, n, .inr (.inr (.inr (.inr g))))), (aK, .inr (1, [.ref aC, .ref b1, .ref b2, .int (nI k), .int rk, .int (nI ra), .int rw, .int lw])), (aC, .inr (0, [.ref aM, .int (nI wy), .ref a1, .ref a2, .ref a3, .int us])), (a1, .inl (cI, 8, .inl st)), (a3, .inl (cI, 32, .inl wd)), (aM, .inr (2, [.ref aW, .int wb])), (aW, .inl (cI, 32, .inl mw))] (mk_Qi D (tysK cI cO) (st L) [(aB, .inr (3, [.ref aM, .ref aR, .int (nI sl), .int sv, .int iv, .int ug])), (aR, .inl (cO, n, .inr (.inr (.inr (.inr g))))), (aK, .inr (1, [.ref aC, .ref b1, .ref b2, .int (nI k), .int rk, .int (nI ra), .int rw, .int lw])), (aC, .inr (0, [.ref aM, .int (nI wy), .ref a1, .ref a2, .ref a3, .int us])), (a1, .inl (cI, 8, .inl (upd st L (nI 0)))), (a3, .inl (cI, 32, .inl wd)), (aM, .inr (2, [.ref aW, .int (cw_cnt st wb L)])), (aW, .inl (cI, 32, .inl (cw_mem st wd mw L)))]) := by
  refine mk_start (cc := b_Bus_evict) (maxL := 5) (ret := (some FieldType.int)) (by decide) (Nat.le_of_ble_eq_true rfl) (fun p e s m below meth c A ls H locs hx hb hml hr hlocks hnm hts hN hown hK hP hD hA hl hS => ?_)
  have hl : lv_has ls 5 [(0, .ref aB), (1, .int (nI i)), (2, .int (nI L))] := hl
  refine lv_aload_n hx hb d_Bus_evict_0 rfl (lv_at hl 0 rfl) ?_
  refine lv_iload_n hx hb d_Bus_evict_1 rfl (lv_at hl 1 rfl) ?_
  refine mk_calli (X := [(aB, .inr (3, [.ref aM, .ref aR, .int (nI sl), .int sv, .int iv, .int ug])), (aR, .inl (cO, n, .inr (.inr (.inr (.inr g))))), (aK, .inr (1, [.ref aC, .ref b1, .ref b2, .int (nI k), .int rk, .int (nI ra), .int rw, .int lw])), (aC, .inr (0, [.ref aM, .int (nI wy), .ref a1, .ref a2, .ref a3, .int us])), (a1, .inl (cI, 8, .inl st)), (a3, .inl (cI, 32, .inl wd)), (aM, .inr (2, [.ref aW, .int wb])), (aW, .inl (cI, 32, .inl mw))]) (pl := []) (wc := [(aB, .inr (3, [.ref aM, .ref aR, .int (nI sl), .int sv, .int iv, .int ug])), (aR, .inl (cO, n, .inr (.inr (.inr (.inr g)))))]) (wr := [(aK, .inr (1, [.ref aC, .ref b1, .ref b2, .int (nI k), .int rk, .int (nI ra), .int rw, .int lw])), (aC, .inr (0, [.ref aM, .int (nI wy), .ref a1, .ref a2, .ref a3, .int us])), (a1, .inl (cI, 8, .inl st)), (a3, .inl (cI, 32, .inl wd)), (aM, .inr (2, [.ref aW, .int wb])), (aW, .inl (cI, 32, .inl mw))]) (w1 := [(aB, .inr (3, [.ref aM, .ref aR, .int (nI sl), .int sv, .int iv, .int ug])), (aR, .inl (cO, n, .inr (.inr (.inr (.inr g)))))]) (X1 := [(aB, .inr (3, [.ref aM, .ref aR, .int (nI sl), .int sv, .int iv, .int ug])), (aR, .inl (cO, n, .inr (.inr (.inr (.inr g))))), (aK, .inr (1, [.ref aC, .ref b1, .ref b2, .int (nI k), .int rk, .int (nI ra), .int rw, .int lw])), (aC, .inr (0, [.ref aM, .int (nI wy), .ref a1, .ref a2, .ref a3, .int us])), (a1, .inl (cI, 8, .inl st)), (a3, .inl (cI, 32, .inl wd)), (aM, .inr (2, [.ref aW, .int wb])), (aW, .inl (cI, 32, .inl mw))]) hP hD hS hA [0, 1] [2, 3, 4, 5, 6, 7] [6, 7, 0, 1, 2, 3, 4, 5] rfl rfl rfl (by decide) (by decide) (by decide)
    (va_runV (b := aB) (As := [.int (nI i)]) (rest := []) ⟨hx, hb, hml, hown, hts⟩ (c_isCore_1 l D cI cO aB aM aR n sl sv iv ug g i (by first | assumption | omega) (by first | assumption | omega) H.size) ⟨callB_of 1 hts g_Bus_isCore rfl rfl rfl (hts _ iw_39) (hts _ iw_78) (by decide +kernel) ⟨by decide, by decide⟩, hts _ iw_82, hts _ iw_83⟩ (mk_preV (X := [(aB, .inr (3, [.ref aM, .ref aR, .int (nI sl), .int sv, .int iv, .int ug])), (aR, .inl (cO, n, .inr (.inr (.inr (.inr g))))), (aK, .inr (1, [.ref aC, .ref b1, .ref b2, .int (nI k), .int rk, .int (nI ra), .int rw, .int lw])), (aC, .inr (0, [.ref aM, .int (nI wy), .ref a1, .ref a2, .ref a3, .int us])), (a1, .inl (cI, 8, .inl st)), (a3, .inl (cI, 32, .inl wd)), (aM, .inr (2, [.ref aW, .int wb])), (aW, .inl (cI, 32, .inl mw))]) (pl := []) hN hK hP hD [0, 1] (by decide) rfl 0 rfl rfl rfl) rfl rfl hl.1 rfl (lv_room (Nat.le_of_ble_eq_true rfl)) d_Bus_evict_2 ⟨Nat.le_refl _, Nat.le_refl _⟩) (fun H locs hP hD hS => ?_)
  have hP : va_P D vwCl [(aB, .inr (3, [.ref aM, .ref aR, .int (nI sl), .int sv, .int iv, .int ug])), (aR, .inl (cO, n, .inr (.inr (.inr (.inr g))))), (aK, .inr (1, [.ref aC, .ref b1, .ref b2, .int (nI k), .int rk, .int (nI ra), .int rw, .int lw])), (aC, .inr (0, [.ref aM, .int (nI wy), .ref a1, .ref a2, .ref a3, .int us])), (a1, .inl (cI, 8, .inl st)), (a3, .inl (cI, 32, .inl wd)), (aM, .inr (2, [.ref aW, .int wb])), (aW, .inl (cI, 32, .inl mw))] H := hP
  have hD : va_D A [(aB, .inr (3, [.ref aM, .ref aR, .int (nI sl), .int sv, .int iv, .int ug])), (aR, .inl (cO, n, .inr (.inr (.inr (.inr g))))), (aK, .inr (1, [.ref aC, .ref b1, .ref b2, .int (nI k), .int rk, .int (nI ra), .int rw, .int lw])), (aC, .inr (0, [.ref aM, .int (nI wy), .ref a1, .ref a2, .ref a3, .int us])), (a1, .inl (cI, 8, .inl st)), (a3, .inl (cI, 32, .inl wd)), (aM, .inr (2, [.ref aW, .int wb])), (aW, .inl (cI, 32, .inl mw))] := hD
  refine lv_if_eq (tgt := 15) hx hb d_Bus_evict_5 rfl (fun h => absurd h (by decide)) (fun _ => ?_)
  refine lv_iload_n hx hb d_Bus_evict_8 rfl (lv_at hl 2 rfl) ?_
  refine mk_calli (X := [(aB, .inr (3, [.ref aM, .ref aR, .int (nI sl), .int sv, .int iv, .int ug])), (aR, .inl (cO, n, .inr (.inr (.inr (.inr g))))), (aK, .inr (1, [.ref aC, .ref b1, .ref b2, .int (nI k), .int rk, .int (nI ra), .int rw, .int lw])), (aC, .inr (0, [.ref aM, .int (nI wy), .ref a1, .ref a2, .ref a3, .int us])), (a1, .inl (cI, 8, .inl st)), (a3, .inl (cI, 32, .inl wd)), (aM, .inr (2, [.ref aW, .int wb])), (aW, .inl (cI, 32, .inl mw))]) (pl := []) (wc := []) (wr := [(aB, .inr (3, [.ref aM, .ref aR, .int (nI sl), .int sv, .int iv, .int ug])), (aR, .inl (cO, n, .inr (.inr (.inr (.inr g))))), (aK, .inr (1, [.ref aC, .ref b1, .ref b2, .int (nI k), .int rk, .int (nI ra), .int rw, .int lw])), (aC, .inr (0, [.ref aM, .int (nI wy), .ref a1, .ref a2, .ref a3, .int us])), (a1, .inl (cI, 8, .inl st)), (a3, .inl (cI, 32, .inl wd)), (aM, .inr (2, [.ref aW, .int wb])), (aW, .inl (cI, 32, .inl mw))]) (w1 := []) (X1 := [(aB, .inr (3, [.ref aM, .ref aR, .int (nI sl), .int sv, .int iv, .int ug])), (aR, .inl (cO, n, .inr (.inr (.inr (.inr g))))), (aK, .inr (1, [.ref aC, .ref b1, .ref b2, .int (nI k), .int rk, .int (nI ra), .int rw, .int lw])), (aC, .inr (0, [.ref aM, .int (nI wy), .ref a1, .ref a2, .ref a3, .int us])), (a1, .inl (cI, 8, .inl st)), (a3, .inl (cI, 32, .inl wd)), (aM, .inr (2, [.ref aW, .int wb])), (aW, .inl (cI, 32, .inl mw))]) hP hD hS hA [] [0, 1, 2, 3, 4, 5, 6, 7] [0, 1, 2, 3, 4, 5, 6, 7] rfl rfl rfl (by decide) (by decide) (by decide)
    (va_runS (As := [.int (nI L)]) (rest := []) ⟨hx, hb, hml, hown, hts⟩ (c_isLine_1 l D cI cO L (by first | assumption | omega) H.size) ⟨callB_of 1 hts g_Bus_isLine rfl rfl rfl (hts _ iw_39) (hts _ iw_195) (by decide +kernel) ⟨by decide, by decide⟩, hts _ iw_197⟩ (mk_preS (X := [(aB, .inr (3, [.ref aM, .ref aR, .int (nI sl), .int sv, .int iv, .int ug])), (aR, .inl (cO, n, .inr (.inr (.inr (.inr g))))), (aK, .inr (1, [.ref aC, .ref b1, .ref b2, .int (nI k), .int rk, .int (nI ra), .int rw, .int lw])), (aC, .inr (0, [.ref aM, .int (nI wy), .ref a1, .ref a2, .ref a3, .int us])), (a1, .inl (cI, 8, .inl st)), (a3, .inl (cI, 32, .inl wd)), (aM, .inr (2, [.ref aW, .int wb])), (aW, .inl (cI, 32, .inl mw))]) (pl := []) hN hK hP hD [] (by decide) rfl) rfl rfl hl.1 rfl (lv_room (Nat.le_of_ble_eq_true rfl)) d_Bus_evict_9 ⟨Nat.le_refl _, Nat.le_refl _⟩) (fun H locs hP hD hS => ?_)
  have hP : va_P D vwCl [(aB, .inr (3, [.ref aM, .ref aR, .int (nI sl), .int sv, .int iv, .int ug])), (aR, .inl (cO, n, .inr (.inr (.inr (.inr g))))), (aK, .inr (1, [.ref aC, .ref b1, .ref b2, .int (nI k), .int rk, .int (nI ra), .int rw, .int lw])), (aC, .inr (0, [.ref aM, .int (nI wy), .ref a1, .ref a2, .ref a3, .int us])), (a1, .inl (cI, 8, .inl st)), (a3, .inl (cI, 32, .inl wd)), (aM, .inr (2, [.ref aW, .int wb])), (aW, .inl (cI, 32, .inl mw))] H := hP
  have hD : va_D A [(aB, .inr (3, [.ref aM, .ref aR, .int (nI sl), .int sv, .int iv, .int ug])), (aR, .inl (cO, n, .inr (.inr (.inr (.inr g))))), (aK, .inr (1, [.ref aC, .ref b1, .ref b2, .int (nI k), .int rk, .int (nI ra), .int rw, .int lw])), (aC, .inr (0, [.ref aM, .int (nI wy), .ref a1, .ref a2, .ref a3, .int us])), (a1, .inl (cI, 8, .inl st)), (a3, .inl (cI, 32, .inl wd)), (aM, .inr (2, [.ref aW, .int wb])), (aW, .inl (cI, 32, .inl mw))] := hD
  refine lv_if_ne (tgt := 17) hx hb d_Bus_evict_12 rfl (fun _ => ?_) (fun h => absurd h (by decide))
  refine lv_aload_n hx hb d_Bus_evict_17 rfl (lv_at hl 0 rfl) ?_
  refine va_get (D := D) (ci := 3) (v := .ref aR) (C := R_Bus) (T := T_Bus) (N := 6) hx hb hts in_Bus hown hK hP 0 rfl rfl 1 (by decide) (hts _ iw_53) (fun _ h9 => h9) rfl d_Bus_evict_18 ?_
  refine lv_iload_n hx hb d_Bus_evict_21 rfl (lv_at hl 1 rfl) ?_
  refine mk_aald hx hb hK hP 1 1 rfl rfl (j := i) (b := aK) (by omega) (by omega) hg d_Bus_evict_22 ?_
  refine mk_calli (X := [(aB, .inr (3, [.ref aM, .ref aR, .int (nI sl), .int sv, .int iv, .int ug])), (aR, .inl (cO, n, .inr (.inr (.inr (.inr g))))), (aK, .inr (1, [.ref aC, .ref b1, .ref b2, .int (nI k), .int rk, .int (nI ra), .int rw, .int lw])), (aC, .inr (0, [.ref aM, .int (nI wy), .ref a1, .ref a2, .ref a3, .int us])), (a1, .inl (cI, 8, .inl st)), (a3, .inl (cI, 32, .inl wd)), (aM, .inr (2, [.ref aW, .int wb])), (aW, .inl (cI, 32, .inl mw))]) (pl := []) (wc := [(aK, .inr (1, [.ref aC, .ref b1, .ref b2, .int (nI k), .int rk, .int (nI ra), .int rw, .int lw]))]) (wr := [(aB, .inr (3, [.ref aM, .ref aR, .int (nI sl), .int sv, .int iv, .int ug])), (aR, .inl (cO, n, .inr (.inr (.inr (.inr g))))), (aC, .inr (0, [.ref aM, .int (nI wy), .ref a1, .ref a2, .ref a3, .int us])), (a1, .inl (cI, 8, .inl st)), (a3, .inl (cI, 32, .inl wd)), (aM, .inr (2, [.ref aW, .int wb])), (aW, .inl (cI, 32, .inl mw))]) (w1 := [(aK, .inr (1, [.ref aC, .ref b1, .ref b2, .int (nI k), .int rk, .int (nI ra), .int rw, .int lw]))]) (X1 := [(aB, .inr (3, [.ref aM, .ref aR, .int (nI sl), .int sv, .int iv, .int ug])), (aR, .inl (cO, n, .inr (.inr (.inr (.inr g))))), (aK, .inr (1, [.ref aC, .ref b1, .ref b2, .int (nI k), .int rk, .int (nI ra), .int rw, .int lw])), (aC, .inr (0, [.ref aM, .int (nI wy), .ref a1, .ref a2, .ref a3, .int us])), (a1, .inl (cI, 8, .inl st)), (a3, .inl (cI, 32, .inl wd)), (aM, .inr (2, [.ref aW, .int wb])), (aW, .inl (cI, 32, .inl mw))]) hP hD hS hA [2] [0, 1, 3, 4, 5, 6, 7] [0, 1, 7, 2, 3, 4, 5, 6] rfl rfl rfl (by decide) (by decide) (by decide)
    (va_runVN (b := aK) (As := []) (rest := []) ⟨hx, hb, hml, hown, hts⟩ (c_waits_0 l D cI cO aK aC b1 b2 k ra rk rw lw (by first | assumption | omega) H.size) ⟨va_cnB 0 hts g_Core_waits rfl rfl rfl (hN _ in_w3) (hts _ iw_41) (by decide +kernel) ⟨by decide, by decide⟩, hts _ iw_87, hts _ iw_88⟩ (mk_preV (X := [(aB, .inr (3, [.ref aM, .ref aR, .int (nI sl), .int sv, .int iv, .int ug])), (aR, .inl (cO, n, .inr (.inr (.inr (.inr g))))), (aK, .inr (1, [.ref aC, .ref b1, .ref b2, .int (nI k), .int rk, .int (nI ra), .int rw, .int lw])), (aC, .inr (0, [.ref aM, .int (nI wy), .ref a1, .ref a2, .ref a3, .int us])), (a1, .inl (cI, 8, .inl st)), (a3, .inl (cI, 32, .inl wd)), (aM, .inr (2, [.ref aW, .int wb])), (aW, .inl (cI, 32, .inl mw))]) (pl := []) hN hK hP hD [2] (by decide) rfl 2 rfl rfl rfl) rfl rfl hl.1 rfl (lv_room (Nat.le_of_ble_eq_true rfl)) d_Bus_evict_23 ⟨Nat.le_refl _, Nat.le_refl _⟩) (fun H locs hP hD hS => ?_)
  have hP : va_P D vwCl [(aB, .inr (3, [.ref aM, .ref aR, .int (nI sl), .int sv, .int iv, .int ug])), (aR, .inl (cO, n, .inr (.inr (.inr (.inr g))))), (aK, .inr (1, [.ref aC, .ref b1, .ref b2, .int (nI k), .int rk, .int (nI ra), .int rw, .int lw])), (aC, .inr (0, [.ref aM, .int (nI wy), .ref a1, .ref a2, .ref a3, .int us])), (a1, .inl (cI, 8, .inl st)), (a3, .inl (cI, 32, .inl wd)), (aM, .inr (2, [.ref aW, .int wb])), (aW, .inl (cI, 32, .inl mw))] H := hP
  have hD : va_D A [(aB, .inr (3, [.ref aM, .ref aR, .int (nI sl), .int sv, .int iv, .int ug])), (aR, .inl (cO, n, .inr (.inr (.inr (.inr g))))), (aK, .inr (1, [.ref aC, .ref b1, .ref b2, .int (nI k), .int rk, .int (nI ra), .int rw, .int lw])), (aC, .inr (0, [.ref aM, .int (nI wy), .ref a1, .ref a2, .ref a3, .int us])), (a1, .inl (cI, 8, .inl st)), (a3, .inl (cI, 32, .inl wd)), (aM, .inr (2, [.ref aW, .int wb])), (aW, .inl (cI, 32, .inl mw))] := hD
  refine lv_if_eq (tgt := 32) hx hb d_Bus_evict_26 rfl (fun _ => ?_) (fun h => absurd (by decide) h)
  refine lv_aload_n hx hb d_Bus_evict_32 rfl (lv_at hl 0 rfl) ?_
  refine va_get (D := D) (ci := 3) (v := .ref aR) (C := R_Bus) (T := T_Bus) (N := 6) hx hb hts in_Bus hown hK hP 0 rfl rfl 1 (by decide) (hts _ iw_53) (fun _ h9 => h9) rfl d_Bus_evict_33 ?_
  refine lv_iload_n hx hb d_Bus_evict_36 rfl (lv_at hl 1 rfl) ?_
  refine mk_aald hx hb hK hP 1 1 rfl rfl (j := i) (b := aK) (by omega) (by omega) hg d_Bus_evict_37 ?_
  refine va_getN (D := D) (ci := 1) (v := .ref aC) (C := R_Core) (T := T_Core) (N := 8) hx hb hts in_Core hown hK hP 2 rfl rfl 0 (by decide) (va_Nw.use rfl (hN _ in_w7)) (fun _ h9 => h9) rfl d_Bus_evict_38 ?_
  refine lv_astore_n hx hb d_Bus_evict_41 rfl hl (by decide) rfl (fun ls hl => ?_)
  have hl : lv_has ls 5 [(3, .ref aC), (0, .ref aB), (1, .int (nI i)), (2, .int (nI L))] := hl
  refine lv_aload_n hx hb d_Bus_evict_42 rfl (lv_at hl 0 rfl) ?_
  refine va_getN (D := D) (ci := 0) (v := .ref a1) (C := R_Cache) (T := T_Cache) (N := 6) hx hb hts in_Cache hown hK hP 3 rfl rfl 2 (by decide) (va_Nw.use rfl (hN _ in_w29)) (fun _ h9 => h9) rfl d_Bus_evict_43 ?_
  refine lv_iload_n hx hb d_Bus_evict_46 rfl (lv_at hl 3 rfl) ?_
  refine mk_iald hx hb hK hP 4 0 rfl rfl (j := L) (by omega) (by decide) d_Bus_evict_47 ?_
  refine lv_istore hx hb d_Bus_evict_48 hl (by decide) rfl (fun ls hl => ?_)
  have hl : lv_has ls 5 [(4, .int (st L)), (3, .ref aC), (0, .ref aB), (1, .int (nI i)), (2, .int (nI L))] := hl
  refine lv_aload_n hx hb d_Bus_evict_50 rfl (lv_at hl 1 rfl) ?_
  refine lv_iload_n hx hb d_Bus_evict_51 rfl (lv_at hl 4 rfl) ?_
  refine mk_callv (X := [(aB, .inr (3, [.ref aM, .ref aR, .int (nI sl), .int sv, .int iv, .int ug])), (aR, .inl (cO, n, .inr (.inr (.inr (.inr g))))), (aK, .inr (1, [.ref aC, .ref b1, .ref b2, .int (nI k), .int rk, .int (nI ra), .int rw, .int lw])), (aC, .inr (0, [.ref aM, .int (nI wy), .ref a1, .ref a2, .ref a3, .int us])), (a1, .inl (cI, 8, .inl st)), (a3, .inl (cI, 32, .inl wd)), (aM, .inr (2, [.ref aW, .int wb])), (aW, .inl (cI, 32, .inl mw))]) (pl := []) (wc := [(aC, .inr (0, [.ref aM, .int (nI wy), .ref a1, .ref a2, .ref a3, .int us])), (a1, .inl (cI, 8, .inl st)), (a3, .inl (cI, 32, .inl wd)), (aM, .inr (2, [.ref aW, .int wb])), (aW, .inl (cI, 32, .inl mw))]) (wr := [(aB, .inr (3, [.ref aM, .ref aR, .int (nI sl), .int sv, .int iv, .int ug])), (aR, .inl (cO, n, .inr (.inr (.inr (.inr g))))), (aK, .inr (1, [.ref aC, .ref b1, .ref b2, .int (nI k), .int rk, .int (nI ra), .int rw, .int lw]))]) (w1 := [(aC, .inr (0, [.ref aM, .int (nI wy), .ref a1, .ref a2, .ref a3, .int us])), (a1, .inl (cI, 8, .inl (upd st L (nI 0)))), (a3, .inl (cI, 32, .inl wd)), (aM, .inr (2, [.ref aW, .int (cw_cnt st wb L)])), (aW, .inl (cI, 32, .inl (cw_mem st wd mw L)))]) (X1 := [(aB, .inr (3, [.ref aM, .ref aR, .int (nI sl), .int sv, .int iv, .int ug])), (aR, .inl (cO, n, .inr (.inr (.inr (.inr g))))), (aK, .inr (1, [.ref aC, .ref b1, .ref b2, .int (nI k), .int rk, .int (nI ra), .int rw, .int lw])), (aC, .inr (0, [.ref aM, .int (nI wy), .ref a1, .ref a2, .ref a3, .int us])), (a1, .inl (cI, 8, .inl (upd st L (nI 0)))), (a3, .inl (cI, 32, .inl wd)), (aM, .inr (2, [.ref aW, .int (cw_cnt st wb L)])), (aW, .inl (cI, 32, .inl (cw_mem st wd mw L)))]) hP hD hS hA [3, 4, 5, 6, 7] [0, 1, 2] [0, 1, 2, 3, 4, 5, 6, 7] rfl rfl rfl (by decide) (by decide) (by decide)
    (va_runVN (b := aC) (As := [.int (nI L)]) (rest := []) ⟨hx, hb, hml, hown, hts⟩ (c_drop l D cI cO aC aM a1 a2 a3 wy us aW wb st wd mw L (by first | assumption | omega) H.size) ⟨va_cnB 1 hts g_Cache_drop rfl rfl rfl (hN _ in_w30) (hts _ iw_40) (by decide +kernel) ⟨by decide, by decide⟩, hts _ iw_181, hts _ iw_182⟩ (mk_preV (X := [(aB, .inr (3, [.ref aM, .ref aR, .int (nI sl), .int sv, .int iv, .int ug])), (aR, .inl (cO, n, .inr (.inr (.inr (.inr g))))), (aK, .inr (1, [.ref aC, .ref b1, .ref b2, .int (nI k), .int rk, .int (nI ra), .int rw, .int lw])), (aC, .inr (0, [.ref aM, .int (nI wy), .ref a1, .ref a2, .ref a3, .int us])), (a1, .inl (cI, 8, .inl st)), (a3, .inl (cI, 32, .inl wd)), (aM, .inr (2, [.ref aW, .int wb])), (aW, .inl (cI, 32, .inl mw))]) (pl := []) hN hK hP hD [3, 4, 5, 6, 7] (by decide) rfl 3 rfl rfl rfl) rfl rfl hl.1 rfl (lv_room (Nat.le_of_ble_eq_true rfl)) d_Bus_evict_52 ⟨Nat.le_refl _, Nat.le_refl _⟩) (fun H locs hP hD hS => ?_)
  have hP : va_P D vwCl [(aB, .inr (3, [.ref aM, .ref aR, .int (nI sl), .int sv, .int iv, .int ug])), (aR, .inl (cO, n, .inr (.inr (.inr (.inr g))))), (aK, .inr (1, [.ref aC, .ref b1, .ref b2, .int (nI k), .int rk, .int (nI ra), .int rw, .int lw])), (aC, .inr (0, [.ref aM, .int (nI wy), .ref a1, .ref a2, .ref a3, .int us])), (a1, .inl (cI, 8, .inl (upd st L (nI 0)))), (a3, .inl (cI, 32, .inl wd)), (aM, .inr (2, [.ref aW, .int (cw_cnt st wb L)])), (aW, .inl (cI, 32, .inl (cw_mem st wd mw L)))] H := hP
  have hD : va_D A [(aB, .inr (3, [.ref aM, .ref aR, .int (nI sl), .int sv, .int iv, .int ug])), (aR, .inl (cO, n, .inr (.inr (.inr (.inr g))))), (aK, .inr (1, [.ref aC, .ref b1, .ref b2, .int (nI k), .int rk, .int (nI ra), .int rw, .int lw])), (aC, .inr (0, [.ref aM, .int (nI wy), .ref a1, .ref a2, .ref a3, .int us])), (a1, .inl (cI, 8, .inl (upd st L (nI 0)))), (a3, .inl (cI, 32, .inl wd)), (aM, .inr (2, [.ref aW, .int (cw_cnt st wb L)])), (aW, .inl (cI, 32, .inl (cw_mem st wd mw L)))] := hD
  refine lv_iload hx hb d_Bus_evict_55 (lv_at hl 0 rfl) ?_
  exact mk_iret hx hb hr hlocks hK hP hD hS d_Bus_evict_57 rfl rfl
set_option maxRecDepth 100000 in
set_option maxHeartbeats 4000000 in
theorem c_last_ok (l : Launch) (D : va_G) (cI cO : ClassId) (aB aM aR n sl : Nat) (sv iv ug : Int32) (g : Nat → Option Nat) (i : Nat) (aK aC b1 b2 k ra : Nat) (rk rw lw : Int32) (hn : n ≤ 4) (hi : i < n) (hg : g i = some aK) : mk_M l y_Bus_last w_Bus_last ({ frames := 1, cells := 0, slots := 0, locals := 21 } : Room) D (tysK cI cO) [.ref aB, .int (nI i)] [(aB, .inr (3, [.ref aM, .ref aR, .int (nI sl), .int sv, .int iv, .int ug])), (aR, .inl (cO, n, .inr (.inr (.inr (.inr g))))), (aK, .inr (1, [.ref aC, .ref b1, .ref b2, .int (nI k), .int rk, .int (nI ra), .int rw, .int lw]))] (mk_Qi D (tysK cI cO) lw [(aB, .inr (3, [.ref aM, .ref aR, .int (nI sl), .int sv, .int iv, .int ug])), (aR, .inl (cO, n, .inr (.inr (.inr (.inr g))))), (aK, .inr (1, [.ref aC, .ref b1, .ref b2, .int (nI k), .int rk, .int (nI ra), .int rw, .int lw]))]) := by
  refine mk_start (cc := b_Bus_last) (maxL := 2) (ret := (some FieldType.int)) (by decide) (Nat.le_of_ble_eq_true rfl) (fun p e s m below meth c A ls H locs hx hb hml hr hlocks hnm hts hN hown hK hP hD hA hl hS => ?_)
  have hl : lv_has ls 2 [(0, .ref aB), (1, .int (nI i))] := hl
  refine lv_aload_n hx hb d_Bus_last_0 rfl (lv_at hl 0 rfl) ?_
  refine lv_iload_n hx hb d_Bus_last_1 rfl (lv_at hl 1 rfl) ?_
  refine mk_calli (X := [(aB, .inr (3, [.ref aM, .ref aR, .int (nI sl), .int sv, .int iv, .int ug])), (aR, .inl (cO, n, .inr (.inr (.inr (.inr g))))), (aK, .inr (1, [.ref aC, .ref b1, .ref b2, .int (nI k), .int rk, .int (nI ra), .int rw, .int lw]))]) (pl := []) (wc := [(aB, .inr (3, [.ref aM, .ref aR, .int (nI sl), .int sv, .int iv, .int ug])), (aR, .inl (cO, n, .inr (.inr (.inr (.inr g)))))]) (wr := [(aK, .inr (1, [.ref aC, .ref b1, .ref b2, .int (nI k), .int rk, .int (nI ra), .int rw, .int lw]))]) (w1 := [(aB, .inr (3, [.ref aM, .ref aR, .int (nI sl), .int sv, .int iv, .int ug])), (aR, .inl (cO, n, .inr (.inr (.inr (.inr g)))))]) (X1 := [(aB, .inr (3, [.ref aM, .ref aR, .int (nI sl), .int sv, .int iv, .int ug])), (aR, .inl (cO, n, .inr (.inr (.inr (.inr g))))), (aK, .inr (1, [.ref aC, .ref b1, .ref b2, .int (nI k), .int rk, .int (nI ra), .int rw, .int lw]))]) hP hD hS hA [0, 1] [2] [1, 2, 0] rfl rfl rfl (by decide) (by decide) (by decide)
    (va_runV (b := aB) (As := [.int (nI i)]) (rest := []) ⟨hx, hb, hml, hown, hts⟩ (c_isCore_1 l D cI cO aB aM aR n sl sv iv ug g i (by first | assumption | omega) (by first | assumption | omega) H.size) ⟨callB_of 1 hts g_Bus_isCore rfl rfl rfl (hts _ iw_39) (hts _ iw_78) (by decide +kernel) ⟨by decide, by decide⟩, hts _ iw_82, hts _ iw_83⟩ (mk_preV (X := [(aB, .inr (3, [.ref aM, .ref aR, .int (nI sl), .int sv, .int iv, .int ug])), (aR, .inl (cO, n, .inr (.inr (.inr (.inr g))))), (aK, .inr (1, [.ref aC, .ref b1, .ref b2, .int (nI k), .int rk, .int (nI ra), .int rw, .int lw]))]) (pl := []) hN hK hP hD [0, 1] (by decide) rfl 0 rfl rfl rfl) rfl rfl hl.1 rfl (lv_room (Nat.le_of_ble_eq_true rfl)) d_Bus_last_2 ⟨Nat.le_refl _, Nat.le_refl _⟩) (fun H locs hP hD hS => ?_)
  have hP : va_P D vwCl [(aB, .inr (3, [.ref aM, .ref aR, .int (nI sl), .int sv, .int iv, .int ug])), (aR, .inl (cO, n, .inr (.inr (.inr (.inr g))))), (aK, .inr (1, [.ref aC, .ref b1, .ref b2, .int (nI k), .int rk, .int (nI ra), .int rw, .int lw]))] H := hP
  have hD : va_D A [(aB, .inr (3, [.ref aM, .ref aR, .int (nI sl), .int sv, .int iv, .int ug])), (aR, .inl (cO, n, .inr (.inr (.inr (.inr g))))), (aK, .inr (1, [.ref aC, .ref b1, .ref b2, .int (nI k), .int rk, .int (nI ra), .int rw, .int lw]))] := hD
  refine lv_if_eq (tgt := 20) hx hb d_Bus_last_5 rfl (fun h => absurd h (by decide)) (fun _ => ?_)
  refine lv_aload_n hx hb d_Bus_last_8 rfl (lv_at hl 0 rfl) ?_
  refine va_get (D := D) (ci := 3) (v := .ref aR) (C := R_Bus) (T := T_Bus) (N := 6) hx hb hts in_Bus hown hK hP 0 rfl rfl 1 (by decide) (hts _ iw_53) (fun _ h9 => h9) rfl d_Bus_last_9 ?_
  refine lv_iload_n hx hb d_Bus_last_12 rfl (lv_at hl 1 rfl) ?_
  refine mk_aald hx hb hK hP 1 1 rfl rfl (j := i) (b := aK) (by omega) (by omega) hg d_Bus_last_13 ?_
  refine va_getN (D := D) (ci := 1) (v := .int lw) (C := R_Core) (T := T_Core) (N := 8) hx hb hts in_Core hown hK hP 2 rfl rfl 7 (by decide) (va_Nw.use rfl (hN _ in_w6)) (fun _ h9 => h9) rfl d_Bus_last_14 ?_
  refine lv_goto (tgt := 21) hx hb d_Bus_last_17 rfl ?_
  exact mk_iret hx hb hr hlocks hK hP hD hS d_Bus_last_21 rfl rfl
set_option maxRecDepth 100000 in
set_option maxHeartbeats 4000000 in
theorem c_request_0 (l : Launch) (D : va_G) (cI cO : ClassId) (aB aM aR n sl : Nat) (sv iv ug : Int32) (g : Nat → Option Nat) (i : Nat) (aK aC b1 b2 k ra : Nat) (rk rw lw : Int32) (hn : n ≤ 4) (hi : i < n) (hg : g i = some aK) (hb1 : rk = 0) : mk_M l y_Bus_request w_Bus_request ({ frames := 1, cells := 0, slots := 0, locals := 21 } : Room) D (tysK cI cO) [.ref aB, .int (nI i)] [(aB, .inr (3, [.ref aM, .ref aR, .int (nI sl), .int sv, .int iv, .int ug])), (aR, .inl (cO, n, .inr (.inr (.inr (.inr g))))), (aK, .inr (1, [.ref aC, .ref b1, .ref b2, .int (nI k), .int rk, .int (nI ra), .int rw, .int lw]))] (mk_Qi D (tysK cI cO) (nI 0) [(aB, .inr (3, [.ref aM, .ref aR, .int (nI sl), .int sv, .int iv, .int ug])), (aR, .inl (cO, n, .inr (.inr (.inr (.inr g))))), (aK, .inr (1, [.ref aC, .ref b1, .ref b2, .int (nI k), .int rk, .int (nI ra), .int rw, .int lw]))]) := by
  refine mk_start (cc := b_Bus_request) (maxL := 3) (ret := (some FieldType.int)) (by decide) (Nat.le_of_ble_eq_true rfl) (fun p e s m below meth c A ls H locs hx hb hml hr hlocks hnm hts hN hown hK hP hD hA hl hS => ?_)
  have hl : lv_has ls 3 [(0, .ref aB), (1, .int (nI i))] := hl
  refine lv_aload_n hx hb d_Bus_request_0 rfl (lv_at hl 0 rfl) ?_
  refine lv_iload_n hx hb d_Bus_request_1 rfl (lv_at hl 1 rfl) ?_
  refine mk_calli (X := [(aB, .inr (3, [.ref aM, .ref aR, .int (nI sl), .int sv, .int iv, .int ug])), (aR, .inl (cO, n, .inr (.inr (.inr (.inr g))))), (aK, .inr (1, [.ref aC, .ref b1, .ref b2, .int (nI k), .int rk, .int (nI ra), .int rw, .int lw]))]) (pl := []) (wc := [(aB, .inr (3, [.ref aM, .ref aR, .int (nI sl), .int sv, .int iv, .int ug])), (aR, .inl (cO, n, .inr (.inr (.inr (.inr g)))))]) (wr := [(aK, .inr (1, [.ref aC, .ref b1, .ref b2, .int (nI k), .int rk, .int (nI ra), .int rw, .int lw]))]) (w1 := [(aB, .inr (3, [.ref aM, .ref aR, .int (nI sl), .int sv, .int iv, .int ug])), (aR, .inl (cO, n, .inr (.inr (.inr (.inr g)))))]) (X1 := [(aB, .inr (3, [.ref aM, .ref aR, .int (nI sl), .int sv, .int iv, .int ug])), (aR, .inl (cO, n, .inr (.inr (.inr (.inr g))))), (aK, .inr (1, [.ref aC, .ref b1, .ref b2, .int (nI k), .int rk, .int (nI ra), .int rw, .int lw]))]) hP hD hS hA [0, 1] [2] [1, 2, 0] rfl rfl rfl (by decide) (by decide) (by decide)
    (va_runV (b := aB) (As := [.int (nI i)]) (rest := []) ⟨hx, hb, hml, hown, hts⟩ (c_isCore_1 l D cI cO aB aM aR n sl sv iv ug g i (by first | assumption | omega) (by first | assumption | omega) H.size) ⟨callB_of 1 hts g_Bus_isCore rfl rfl rfl (hts _ iw_39) (hts _ iw_78) (by decide +kernel) ⟨by decide, by decide⟩, hts _ iw_82, hts _ iw_83⟩ (mk_preV (X := [(aB, .inr (3, [.ref aM, .ref aR, .int (nI sl), .int sv, .int iv, .int ug])), (aR, .inl (cO, n, .inr (.inr (.inr (.inr g))))), (aK, .inr (1, [.ref aC, .ref b1, .ref b2, .int (nI k), .int rk, .int (nI ra), .int rw, .int lw]))]) (pl := []) hN hK hP hD [0, 1] (by decide) rfl 0 rfl rfl rfl) rfl rfl hl.1 rfl (lv_room (Nat.le_of_ble_eq_true rfl)) d_Bus_request_2 ⟨Nat.le_refl _, Nat.le_refl _⟩) (fun H locs hP hD hS => ?_)
  have hP : va_P D vwCl [(aB, .inr (3, [.ref aM, .ref aR, .int (nI sl), .int sv, .int iv, .int ug])), (aR, .inl (cO, n, .inr (.inr (.inr (.inr g))))), (aK, .inr (1, [.ref aC, .ref b1, .ref b2, .int (nI k), .int rk, .int (nI ra), .int rw, .int lw]))] H := hP
  have hD : va_D A [(aB, .inr (3, [.ref aM, .ref aR, .int (nI sl), .int sv, .int iv, .int ug])), (aR, .inl (cO, n, .inr (.inr (.inr (.inr g))))), (aK, .inr (1, [.ref aC, .ref b1, .ref b2, .int (nI k), .int rk, .int (nI ra), .int rw, .int lw]))] := hD
  refine lv_if_ne (tgt := 10) hx hb d_Bus_request_5 rfl (fun _ => ?_) (fun h => absurd h (by decide))
  refine lv_aload_n hx hb d_Bus_request_10 rfl (lv_at hl 0 rfl) ?_
  refine va_get (D := D) (ci := 3) (v := .ref aR) (C := R_Bus) (T := T_Bus) (N := 6) hx hb hts in_Bus hown hK hP 0 rfl rfl 1 (by decide) (hts _ iw_53) (fun _ h9 => h9) rfl d_Bus_request_11 ?_
  refine lv_iload_n hx hb d_Bus_request_14 rfl (lv_at hl 1 rfl) ?_
  refine mk_aald hx hb hK hP 1 1 rfl rfl (j := i) (b := aK) (by omega) (by omega) hg d_Bus_request_15 ?_
  refine lv_astore_n hx hb d_Bus_request_16 rfl hl (by decide) rfl (fun ls hl => ?_)
  have hl : lv_has ls 3 [(2, .ref aK), (0, .ref aB), (1, .int (nI i))] := hl
  refine lv_aload_n hx hb d_Bus_request_17 rfl (lv_at hl 0 rfl) ?_
  refine mk_calli (X := [(aB, .inr (3, [.ref aM, .ref aR, .int (nI sl), .int sv, .int iv, .int ug])), (aR, .inl (cO, n, .inr (.inr (.inr (.inr g))))), (aK, .inr (1, [.ref aC, .ref b1, .ref b2, .int (nI k), .int rk, .int (nI ra), .int rw, .int lw]))]) (pl := []) (wc := [(aK, .inr (1, [.ref aC, .ref b1, .ref b2, .int (nI k), .int rk, .int (nI ra), .int rw, .int lw]))]) (wr := [(aB, .inr (3, [.ref aM, .ref aR, .int (nI sl), .int sv, .int iv, .int ug])), (aR, .inl (cO, n, .inr (.inr (.inr (.inr g)))))]) (w1 := [(aK, .inr (1, [.ref aC, .ref b1, .ref b2, .int (nI k), .int rk, .int (nI ra), .int rw, .int lw]))]) (X1 := [(aB, .inr (3, [.ref aM, .ref aR, .int (nI sl), .int sv, .int iv, .int ug])), (aR, .inl (cO, n, .inr (.inr (.inr (.inr g))))), (aK, .inr (1, [.ref aC, .ref b1, .ref b2, .int (nI k), .int rk, .int (nI ra), .int rw, .int lw]))]) hP hD hS hA [2] [0, 1] [0, 1, 2] rfl rfl rfl (by decide) (by decide) (by decide)
    (va_runVN (b := aK) (As := []) (rest := []) ⟨hx, hb, hml, hown, hts⟩ (c_waits_0 l D cI cO aK aC b1 b2 k ra rk rw lw (by first | assumption | omega) H.size) ⟨va_cnB 0 hts g_Core_waits rfl rfl rfl (hN _ in_w3) (hts _ iw_41) (by decide +kernel) ⟨by decide, by decide⟩, hts _ iw_87, hts _ iw_88⟩ (mk_preV (X := [(aB, .inr (3, [.ref aM, .ref aR, .int (nI sl), .int sv, .int iv, .int ug])), (aR, .inl (cO, n, .inr (.inr (.inr (.inr g))))), (aK, .inr (1, [.ref aC, .ref b1, .ref b2, .int (nI k), .int rk, .int (nI ra), .int rw, .int lw]))]) (pl := []) hN hK hP hD [2] (by decide) rfl 2 rfl rfl rfl) rfl rfl hl.1 rfl (lv_room (Nat.le_of_ble_eq_true rfl)) d_Bus_request_18 ⟨Nat.le_refl _, Nat.le_refl _⟩) (fun H locs hP hD hS => ?_)
  have hP : va_P D vwCl [(aB, .inr (3, [.ref aM, .ref aR, .int (nI sl), .int sv, .int iv, .int ug])), (aR, .inl (cO, n, .inr (.inr (.inr (.inr g))))), (aK, .inr (1, [.ref aC, .ref b1, .ref b2, .int (nI k), .int rk, .int (nI ra), .int rw, .int lw]))] H := hP
  have hD : va_D A [(aB, .inr (3, [.ref aM, .ref aR, .int (nI sl), .int sv, .int iv, .int ug])), (aR, .inl (cO, n, .inr (.inr (.inr (.inr g))))), (aK, .inr (1, [.ref aC, .ref b1, .ref b2, .int (nI k), .int rk, .int (nI ra), .int rw, .int lw]))] := hD
  refine lv_if_eq (tgt := 39) hx hb d_Bus_request_21 rfl (fun _ => ?_) (fun h => absurd (by decide) h)
  refine lv_iconst (v := nI 0) hx hb d_Bus_request_39 (by decide) ?_
  exact mk_iret hx hb hr hlocks hK hP hD hS d_Bus_request_40 rfl rfl
set_option maxRecDepth 100000 in
set_option maxHeartbeats 4000000 in
theorem c_request_1 (l : Launch) (D : va_G) (cI cO : ClassId) (aB aM aR n sl : Nat) (sv iv ug : Int32) (g : Nat → Option Nat) (i : Nat) (aK aC b1 b2 k ra : Nat) (rk rw lw : Int32) (hn : n ≤ 4) (hi : i < n) (hg : g i = some aK) (hb1 : ¬ rk = 0) (hra : ra < 32) : mk_M l y_Bus_request w_Bus_request ({ frames := 1, cells := 0, slots := 0, locals := 21 } : Room) D (tysK cI cO) [.ref aB, .int (nI i)] [(aB, .inr (3, [.ref aM, .ref aR, .int (nI sl), .int sv, .int iv, .int ug])), (aR, .inl (cO, n, .inr (.inr (.inr (.inr g))))), (aK, .inr (1, [.ref aC, .ref b1, .ref b2, .int (nI k), .int rk, .int (nI ra), .int rw, .int lw]))] (mk_Qi D (tysK cI cO) (rk + nI (8 * ra)) [(aB, .inr (3, [.ref aM, .ref aR, .int (nI sl), .int sv, .int iv, .int ug])), (aR, .inl (cO, n, .inr (.inr (.inr (.inr g))))), (aK, .inr (1, [.ref aC, .ref b1, .ref b2, .int (nI k), .int rk, .int (nI ra), .int rw, .int lw]))]) := by
  refine mk_start (cc := b_Bus_request) (maxL := 3) (ret := (some FieldType.int)) (by decide) (Nat.le_of_ble_eq_true rfl) (fun p e s m below meth c A ls H locs hx hb hml hr hlocks hnm hts hN hown hK hP hD hA hl hS => ?_)
  have hl : lv_has ls 3 [(0, .ref aB), (1, .int (nI i))] := hl
  refine lv_aload_n hx hb d_Bus_request_0 rfl (lv_at hl 0 rfl) ?_
  refine lv_iload_n hx hb d_Bus_request_1 rfl (lv_at hl 1 rfl) ?_
  refine mk_calli (X := [(aB, .inr (3, [.ref aM, .ref aR, .int (nI sl), .int sv, .int iv, .int ug])), (aR, .inl (cO, n, .inr (.inr (.inr (.inr g))))), (aK, .inr (1, [.ref aC, .ref b1, .ref b2, .int (nI k), .int rk, .int (nI ra), .int rw, .int lw]))]) (pl := []) (wc := [(aB, .inr (3, [.ref aM, .ref aR, .int (nI sl), .int sv, .int iv, .int ug])), (aR, .inl (cO, n, .inr (.inr (.inr (.inr g)))))]) (wr := [(aK, .inr (1, [.ref aC, .ref b1, .ref b2, .int (nI k), .int rk, .int (nI ra), .int rw, .int lw]))]) (w1 := [(aB, .inr (3, [.ref aM, .ref aR, .int (nI sl), .int sv, .int iv, .int ug])), (aR, .inl (cO, n, .inr (.inr (.inr (.inr g)))))]) (X1 := [(aB, .inr (3, [.ref aM, .ref aR, .int (nI sl), .int sv, .int iv, .int ug])), (aR, .inl (cO, n, .inr (.inr (.inr (.inr g))))), (aK, .inr (1, [.ref aC, .ref b1, .ref b2, .int (nI k), .int rk, .int (nI ra), .int rw, .int lw]))]) hP hD hS hA [0, 1] [2] [1, 2, 0] rfl rfl rfl (by decide) (by decide) (by decide)
    (va_runV (b := aB) (As := [.int (nI i)]) (rest := []) ⟨hx, hb, hml, hown, hts⟩ (c_isCore_1 l D cI cO aB aM aR n sl sv iv ug g i (by first | assumption | omega) (by first | assumption | omega) H.size) ⟨callB_of 1 hts g_Bus_isCore rfl rfl rfl (hts _ iw_39) (hts _ iw_78) (by decide +kernel) ⟨by decide, by decide⟩, hts _ iw_82, hts _ iw_83⟩ (mk_preV (X := [(aB, .inr (3, [.ref aM, .ref aR, .int (nI sl), .int sv, .int iv, .int ug])), (aR, .inl (cO, n, .inr (.inr (.inr (.inr g))))), (aK, .inr (1, [.ref aC, .ref b1, .ref b2, .int (nI k), .int rk, .int (nI ra), .int rw, .int lw]))]) (pl := []) hN hK hP hD [0, 1] (by decide) rfl 0 rfl rfl rfl) rfl rfl hl.1 rfl (lv_room (Nat.le_of_ble_eq_true rfl)) d_Bus_request_2 ⟨Nat.le_refl _, Nat.le_refl _⟩) (fun H locs hP hD hS => ?_)
  have hP : va_P D vwCl [(aB, .inr (3, [.ref aM, .ref aR, .int (nI sl), .int sv, .int iv, .int ug])), (aR, .inl (cO, n, .inr (.inr (.inr (.inr g))))), (aK, .inr (1, [.ref aC, .ref b1, .ref b2, .int (nI k), .int rk, .int (nI ra), .int rw, .int lw]))] H := hP
  have hD : va_D A [(aB, .inr (3, [.ref aM, .ref aR, .int (nI sl), .int sv, .int iv, .int ug])), (aR, .inl (cO, n, .inr (.inr (.inr (.inr g))))), (aK, .inr (1, [.ref aC, .ref b1, .ref b2, .int (nI k), .int rk, .int (nI ra), .int rw, .int lw]))] := hD
  refine lv_if_ne (tgt := 10) hx hb d_Bus_request_5 rfl (fun _ => ?_) (fun h => absurd h (by decide))
  refine lv_aload_n hx hb d_Bus_request_10 rfl (lv_at hl 0 rfl) ?_
  refine va_get (D := D) (ci := 3) (v := .ref aR) (C := R_Bus) (T := T_Bus) (N := 6) hx hb hts in_Bus hown hK hP 0 rfl rfl 1 (by decide) (hts _ iw_53) (fun _ h9 => h9) rfl d_Bus_request_11 ?_
  refine lv_iload_n hx hb d_Bus_request_14 rfl (lv_at hl 1 rfl) ?_
  refine mk_aald hx hb hK hP 1 1 rfl rfl (j := i) (b := aK) (by omega) (by omega) hg d_Bus_request_15 ?_
  refine lv_astore_n hx hb d_Bus_request_16 rfl hl (by decide) rfl (fun ls hl => ?_)
  have hl : lv_has ls 3 [(2, .ref aK), (0, .ref aB), (1, .int (nI i))] := hl
  refine lv_aload_n hx hb d_Bus_request_17 rfl (lv_at hl 0 rfl) ?_
  refine mk_calli (X := [(aB, .inr (3, [.ref aM, .ref aR, .int (nI sl), .int sv, .int iv, .int ug])), (aR, .inl (cO, n, .inr (.inr (.inr (.inr g))))), (aK, .inr (1, [.ref aC, .ref b1, .ref b2, .int (nI k), .int rk, .int (nI ra), .int rw, .int lw]))]) (pl := []) (wc := [(aK, .inr (1, [.ref aC, .ref b1, .ref b2, .int (nI k), .int rk, .int (nI ra), .int rw, .int lw]))]) (wr := [(aB, .inr (3, [.ref aM, .ref aR, .int (nI sl), .int sv, .int iv, .int ug])), (aR, .inl (cO, n, .inr (.inr (.inr (.inr g)))))]) (w1 := [(aK, .inr (1, [.ref aC, .ref b1, .ref b2, .int (nI k), .int rk, .int (nI ra), .int rw, .int lw]))]) (X1 := [(aB, .inr (3, [.ref aM, .ref aR, .int (nI sl), .int sv, .int iv, .int ug])), (aR, .inl (cO, n, .inr (.inr (.inr (.inr g))))), (aK, .inr (1, [.ref aC, .ref b1, .ref b2, .int (nI k), .int rk, .int (nI ra), .int rw, .int lw]))]) hP hD hS hA [2] [0, 1] [0, 1, 2] rfl rfl rfl (by decide) (by decide) (by decide)
    (va_runVN (b := aK) (As := []) (rest := []) ⟨hx, hb, hml, hown, hts⟩ (c_waits_1 l D cI cO aK aC b1 b2 k ra rk rw lw (by first | assumption | omega) H.size) ⟨va_cnB 0 hts g_Core_waits rfl rfl rfl (hN _ in_w3) (hts _ iw_41) (by decide +kernel) ⟨by decide, by decide⟩, hts _ iw_87, hts _ iw_88⟩ (mk_preV (X := [(aB, .inr (3, [.ref aM, .ref aR, .int (nI sl), .int sv, .int iv, .int ug])), (aR, .inl (cO, n, .inr (.inr (.inr (.inr g))))), (aK, .inr (1, [.ref aC, .ref b1, .ref b2, .int (nI k), .int rk, .int (nI ra), .int rw, .int lw]))]) (pl := []) hN hK hP hD [2] (by decide) rfl 2 rfl rfl rfl) rfl rfl hl.1 rfl (lv_room (Nat.le_of_ble_eq_true rfl)) d_Bus_request_18 ⟨Nat.le_refl _, Nat.le_refl _⟩) (fun H locs hP hD hS => ?_)
  have hP : va_P D vwCl [(aB, .inr (3, [.ref aM, .ref aR, .int (nI sl), .int sv, .int iv, .int ug])), (aR, .inl (cO, n, .inr (.inr (.inr (.inr g))))), (aK, .inr (1, [.ref aC, .ref b1, .ref b2, .int (nI k), .int rk, .int (nI ra), .int rw, .int lw]))] H := hP
  have hD : va_D A [(aB, .inr (3, [.ref aM, .ref aR, .int (nI sl), .int sv, .int iv, .int ug])), (aR, .inl (cO, n, .inr (.inr (.inr (.inr g))))), (aK, .inr (1, [.ref aC, .ref b1, .ref b2, .int (nI k), .int rk, .int (nI ra), .int rw, .int lw]))] := hD
  refine lv_if_eq (tgt := 39) hx hb d_Bus_request_21 rfl (fun h => absurd h (by decide)) (fun _ => ?_)
  refine lv_aload_n hx hb d_Bus_request_24 rfl (lv_at hl 0 rfl) ?_
  refine va_getN (D := D) (ci := 1) (v := .int rk) (C := R_Core) (T := T_Core) (N := 8) hx hb hts in_Core hown hK hP 2 rfl rfl 4 (by decide) (va_Nw.use rfl (hN _ in_w21)) (fun _ h9 => h9) rfl d_Bus_request_25 ?_
  refine lv_bipush (v := nI 8) hx hb d_Bus_request_28 (by decide) ?_
  refine lv_aload_n hx hb d_Bus_request_30 rfl (lv_at hl 0 rfl) ?_
  refine va_getN (D := D) (ci := 1) (v := .int (nI ra)) (C := R_Core) (T := T_Core) (N := 8) hx hb hts in_Core hown hK hP 2 rfl rfl 5 (by decide) (va_Nw.use rfl (hN _ in_w22)) (fun _ h9 => h9) rfl d_Bus_request_31 ?_
  refine lv_imul hx hb d_Bus_request_34 ?_
  refine mk_top (show _ = nI (8 * ra) from pk_mul _ _) ?_
  refine lv_iadd hx hb d_Bus_request_35 ?_
  refine lv_goto (tgt := 40) hx hb d_Bus_request_36 rfl ?_
  exact mk_iret hx hb hr hlocks hK hP hD hS d_Bus_request_40 rfl rfl
set_option maxRecDepth 100000 in
set_option maxHeartbeats 4000000 in
theorem c_buffered_ok (l : Launch) (D : va_G) (cI cO : ClassId) (aB aM aR n sl : Nat) (sv iv ug : Int32) (g : Nat → Option Nat) (i : Nat) (aK aC b1 b2 k ra : Nat) (rk rw lw : Int32) (hn : n ≤ 4) (hi : i < n) (hg : g i = some aK) : mk_M l y_Bus_buffered w_Bus_buffered ({ frames := 1, cells := 0, slots := 0, locals := 21 } : Room) D (tysK cI cO) [.ref aB, .int (nI i)] [(aB, .inr (3, [.ref aM, .ref aR, .int (nI sl), .int sv, .int iv, .int ug])), (aR, .inl (cO, n, .inr (.inr (.inr (.inr g))))), (aK, .inr (1, [.ref aC, .ref b1, .ref b2, .int (nI k), .int rk, .int (nI ra), .int rw, .int lw]))] (mk_Qi D (tysK cI cO) (nI k) [(aB, .inr (3, [.ref aM, .ref aR, .int (nI sl), .int sv, .int iv, .int ug])), (aR, .inl (cO, n, .inr (.inr (.inr (.inr g))))), (aK, .inr (1, [.ref aC, .ref b1, .ref b2, .int (nI k), .int rk, .int (nI ra), .int rw, .int lw]))]) := by
  refine mk_start (cc := b_Bus_buffered) (maxL := 2) (ret := (some FieldType.int)) (by decide) (Nat.le_of_ble_eq_true rfl) (fun p e s m below meth c A ls H locs hx hb hml hr hlocks hnm hts hN hown hK hP hD hA hl hS => ?_)
  have hl : lv_has ls 2 [(0, .ref aB), (1, .int (nI i))] := hl
  refine lv_aload_n hx hb d_Bus_buffered_0 rfl (lv_at hl 0 rfl) ?_
  refine lv_iload_n hx hb d_Bus_buffered_1 rfl (lv_at hl 1 rfl) ?_
  refine mk_calli (X := [(aB, .inr (3, [.ref aM, .ref aR, .int (nI sl), .int sv, .int iv, .int ug])), (aR, .inl (cO, n, .inr (.inr (.inr (.inr g))))), (aK, .inr (1, [.ref aC, .ref b1, .ref b2, .int (nI k), .int rk, .int (nI ra), .int rw, .int lw]))]) (pl := []) (wc := [(aB, .inr (3, [.ref aM, .ref aR, .int (nI sl), .int sv, .int iv, .int ug])), (aR, .inl (cO, n, .inr (.inr (.inr (.inr g)))))]) (wr := [(aK, .inr (1, [.ref aC, .ref b1, .ref b2, .int (nI k), .int rk, .int (nI ra), .int rw, .int lw]))]) (w1 := [(aB, .inr (3, [.ref aM, .ref aR, .int (nI sl), .int sv, .int iv, .int ug])), (aR, .inl (cO, n, .inr (.inr (.inr (.inr g)))))]) (X1 := [(aB, .inr (3, [.ref aM, .ref aR, .int (nI sl), .int sv, .int iv, .int ug])), (aR, .inl (cO, n, .inr (.inr (.inr (.inr g))))), (aK, .inr (1, [.ref aC, .ref b1, .ref b2, .int (nI k), .int rk, .int (nI ra), .int rw, .int lw]))]) hP hD hS hA [0, 1] [2] [1, 2, 0] rfl rfl rfl (by decide) (by decide) (by decide)
    (va_runV (b := aB) (As := [.int (nI i)]) (rest := []) ⟨hx, hb, hml, hown, hts⟩ (c_isCore_1 l D cI cO aB aM aR n sl sv iv ug g i (by first | assumption | omega) (by first | assumption | omega) H.size) ⟨callB_of 1 hts g_Bus_isCore rfl rfl rfl (hts _ iw_39) (hts _ iw_78) (by decide +kernel) ⟨by decide, by decide⟩, hts _ iw_82, hts _ iw_83⟩ (mk_preV (X := [(aB, .inr (3, [.ref aM, .ref aR, .int (nI sl), .int sv, .int iv, .int ug])), (aR, .inl (cO, n, .inr (.inr (.inr (.inr g))))), (aK, .inr (1, [.ref aC, .ref b1, .ref b2, .int (nI k), .int rk, .int (nI ra), .int rw, .int lw]))]) (pl := []) hN hK hP hD [0, 1] (by decide) rfl 0 rfl rfl rfl) rfl rfl hl.1 rfl (lv_room (Nat.le_of_ble_eq_true rfl)) d_Bus_buffered_2 ⟨Nat.le_refl _, Nat.le_refl _⟩) (fun H locs hP hD hS => ?_)
  have hP : va_P D vwCl [(aB, .inr (3, [.ref aM, .ref aR, .int (nI sl), .int sv, .int iv, .int ug])), (aR, .inl (cO, n, .inr (.inr (.inr (.inr g))))), (aK, .inr (1, [.ref aC, .ref b1, .ref b2, .int (nI k), .int rk, .int (nI ra), .int rw, .int lw]))] H := hP
  have hD : va_D A [(aB, .inr (3, [.ref aM, .ref aR, .int (nI sl), .int sv, .int iv, .int ug])), (aR, .inl (cO, n, .inr (.inr (.inr (.inr g))))), (aK, .inr (1, [.ref aC, .ref b1, .ref b2, .int (nI k), .int rk, .int (nI ra), .int rw, .int lw]))] := hD
  refine lv_if_eq (tgt := 20) hx hb d_Bus_buffered_5 rfl (fun h => absurd h (by decide)) (fun _ => ?_)
  refine lv_aload_n hx hb d_Bus_buffered_8 rfl (lv_at hl 0 rfl) ?_
  refine va_get (D := D) (ci := 3) (v := .ref aR) (C := R_Bus) (T := T_Bus) (N := 6) hx hb hts in_Bus hown hK hP 0 rfl rfl 1 (by decide) (hts _ iw_53) (fun _ h9 => h9) rfl d_Bus_buffered_9 ?_
  refine lv_iload_n hx hb d_Bus_buffered_12 rfl (lv_at hl 1 rfl) ?_
  refine mk_aald hx hb hK hP 1 1 rfl rfl (j := i) (b := aK) (by omega) (by omega) hg d_Bus_buffered_13 ?_
  refine va_getN (D := D) (ci := 1) (v := .int (nI k)) (C := R_Core) (T := T_Core) (N := 8) hx hb hts in_Core hown hK hP 2 rfl rfl 3 (by decide) (va_Nw.use rfl (hN _ in_w12)) (fun _ h9 => h9) rfl d_Bus_buffered_14 ?_
  refine lv_goto (tgt := 21) hx hb d_Bus_buffered_17 rfl ?_
  exact mk_iret hx hb hr hlocks hK hP hD hS d_Bus_buffered_21 rfl rfl
set_option maxRecDepth 100000 in
set_option maxHeartbeats 4000000 in
theorem c_state_ok (l : Launch) (D : va_G) (cI cO : ClassId) (aB aM aR n sl : Nat) (sv iv ug : Int32) (g : Nat → Option Nat) (i : Nat) (aK aC b1 b2 k ra : Nat) (rk rw lw : Int32) (a1 a2 a3 wy : Nat) (us : Int32) (st : Nat → Int32) (L : Nat) (hn : n ≤ 4) (hi : i < n) (hg : g i = some aK) (hL : L < 8) : mk_M l y_Bus_state w_Bus_state ({ frames := 1, cells := 0, slots := 0, locals := 21 } : Room) D (tysK cI cO) [.ref aB, .int (nI i), .int (nI L)] [(aB, .inr (3, [.ref aM, .ref aR, .int (nI sl), .int sv, .int iv, .int ug])), (aR, .inl (cO, n, .inr (.inr (.inr (.inr g))))), (aK, .inr (1, [.ref aC, .ref b1, .ref b2, .int (nI k), .int rk, .int (nI ra), .int rw, .int lw])), (aC, .inr (0, [.ref aM, .int (nI wy), .ref a1, .ref a2, .ref a3, .int us])), (a1, .inl (cI, 8, .inl st))] (mk_Qi D (tysK cI cO) (st L) [(aB, .inr (3, [.ref aM, .ref aR, .int (nI sl), .int sv, .int iv, .int ug])), (aR, .inl (cO, n, .inr (.inr (.inr (.inr g))))), (aK, .inr (1, [.ref aC, .ref b1, .ref b2, .int (nI k), .int rk, .int (nI ra), .int rw, .int lw])), (aC, .inr (0, [.ref aM, .int (nI wy), .ref a1, .ref a2, .ref a3, .int us])), (a1, .inl (cI, 8, .inl st))]) := by
  refine mk_start (cc := b_Bus_state) (maxL := 3) (ret := (some FieldType.int)) (by decide) (Nat.le_of_ble_eq_true rfl) (fun p e s m below meth c A ls H locs hx hb hml hr hlocks hnm hts hN hown hK hP hD hA hl hS => ?_)
  have hl : lv_has ls 3 [(0, .ref aB), (1, .int (nI i)), (2, .int (nI L))] := hl
  refine lv_aload_n hx hb d_Bus_state_0 rfl (lv_at hl 0 rfl) ?_
  refine lv_iload_n hx hb d_Bus_state_1 rfl (lv_at hl 1 rfl) ?_
  refine mk_calli (X := [(aB, .inr (3, [.ref aM, .ref aR, .int (nI sl), .int sv, .int iv, .int ug])), (aR, .inl (cO, n, .inr (.inr (.inr (.inr g))))), (aK, .inr (1, [.ref aC, .ref b1, .ref b2, .int (nI k), .int rk, .int (nI ra), .int rw, .int lw])), (aC, .inr (0, [.ref aM, .int (nI wy), .ref a1, .ref a2, .ref a3, .int us])), (a1, .inl (cI, 8, .inl st))]) (pl := []) (wc := [(aB, .inr (3, [.ref aM, .ref aR, .int (nI sl), .int sv, .int iv, .int ug])), (aR, .inl (cO, n, .inr (.inr (.inr (.inr g)))))]) (wr := [(aK, .inr (1, [.ref aC, .ref b1, .ref b2, .int (nI k), .int rk, .int (nI ra), .int rw, .int lw])), (aC, .inr (0, [.ref aM, .int (nI wy), .ref a1, .ref a2, .ref a3, .int us])), (a1, .inl (cI, 8, .inl st))]) (w1 := [(aB, .inr (3, [.ref aM, .ref aR, .int (nI sl), .int sv, .int iv, .int ug])), (aR, .inl (cO, n, .inr (.inr (.inr (.inr g)))))]) (X1 := [(aB, .inr (3, [.ref aM, .ref aR, .int (nI sl), .int sv, .int iv, .int ug])), (aR, .inl (cO, n, .inr (.inr (.inr (.inr g))))), (aK, .inr (1, [.ref aC, .ref b1, .ref b2, .int (nI k), .int rk, .int (nI ra), .int rw, .int lw])), (aC, .inr (0, [.ref aM, .int (nI wy), .ref a1, .ref a2, .ref a3, .int us])), (a1, .inl (cI, 8, .inl st))]) hP hD hS hA [0, 1] [2, 3, 4] [3, 4, 0, 1, 2] rfl rfl rfl (by decide) (by decide) (by decide)
    (va_runV (b := aB) (As := [.int (nI i)]) (rest := []) ⟨hx, hb, hml, hown, hts⟩ (c_isCore_1 l D cI cO aB aM aR n sl sv iv ug g i (by first | assumption | omega) (by first | assumption | omega) H.size) ⟨callB_of 1 hts g_Bus_isCore rfl rfl rfl (hts _ iw_39) (hts _ iw_78) (by decide +kernel) ⟨by decide, by decide⟩, hts _ iw_82, hts _ iw_83⟩ (mk_preV (X := [(aB, .inr (3, [.ref aM, .ref aR, .int (nI sl), .int sv, .int iv, .int ug])), (aR, .inl (cO, n, .inr (.inr (.inr (.inr g))))), (aK, .inr (1, [.ref aC, .ref b1, .ref b2, .int (nI k), .int rk, .int (nI ra), .int rw, .int lw])), (aC, .inr (0, [.ref aM, .int (nI wy), .ref a1, .ref a2, .ref a3, .int us])), (a1, .inl (cI, 8, .inl st))]) (pl := []) hN hK hP hD [0, 1] (by decide) rfl 0 rfl rfl rfl) rfl rfl hl.1 rfl (lv_room (Nat.le_of_ble_eq_true rfl)) d_Bus_state_2 ⟨Nat.le_refl _, Nat.le_refl _⟩) (fun H locs hP hD hS => ?_)
  have hP : va_P D vwCl [(aB, .inr (3, [.ref aM, .ref aR, .int (nI sl), .int sv, .int iv, .int ug])), (aR, .inl (cO, n, .inr (.inr (.inr (.inr g))))), (aK, .inr (1, [.ref aC, .ref b1, .ref b2, .int (nI k), .int rk, .int (nI ra), .int rw, .int lw])), (aC, .inr (0, [.ref aM, .int (nI wy), .ref a1, .ref a2, .ref a3, .int us])), (a1, .inl (cI, 8, .inl st))] H := hP
  have hD : va_D A [(aB, .inr (3, [.ref aM, .ref aR, .int (nI sl), .int sv, .int iv, .int ug])), (aR, .inl (cO, n, .inr (.inr (.inr (.inr g))))), (aK, .inr (1, [.ref aC, .ref b1, .ref b2, .int (nI k), .int rk, .int (nI ra), .int rw, .int lw])), (aC, .inr (0, [.ref aM, .int (nI wy), .ref a1, .ref a2, .ref a3, .int us])), (a1, .inl (cI, 8, .inl st))] := hD
  refine lv_if_eq (tgt := 32) hx hb d_Bus_state_5 rfl (fun h => absurd h (by decide)) (fun _ => ?_)
  refine lv_iload_n hx hb d_Bus_state_8 rfl (lv_at hl 2 rfl) ?_
  refine mk_calli (X := [(aB, .inr (3, [.ref aM, .ref aR, .int (nI sl), .int sv, .int iv, .int ug])), (aR, .inl (cO, n, .inr (.inr (.inr (.inr g))))), (aK, .inr (1, [.ref aC, .ref b1, .ref b2, .int (nI k), .int rk, .int (nI ra), .int rw, .int lw])), (aC, .inr (0, [.ref aM, .int (nI wy), .ref a1, .ref a2, .ref a3, .int us])), (a1, .inl (cI, 8, .inl st))]) (pl := []) (wc := []) (wr := [(aB, .inr (3, [.ref aM, .ref aR, .int (nI sl), .int sv, .int iv, .int ug])), (aR, .inl (cO, n, .inr (.inr (.inr (.inr g))))), (aK, .inr (1, [.ref aC, .ref b1, .ref b2, .int (nI k), .int rk, .int (nI ra), .int rw, .int lw])), (aC, .inr (0, [.ref aM, .int (nI wy), .ref a1, .ref a2, .ref a3, .int us])), (a1, .inl (cI, 8, .inl st))]) (w1 := []) (X1 := [(aB, .inr (3, [.ref aM, .ref aR, .int (nI sl), .int sv, .int iv, .int ug])), (aR, .inl (cO, n, .inr (.inr (.inr (.inr g))))), (aK, .inr (1, [.ref aC, .ref b1, .ref b2, .int (nI k), .int rk, .int (nI ra), .int rw, .int lw])), (aC, .inr (0, [.ref aM, .int (nI wy), .ref a1, .ref a2, .ref a3, .int us])), (a1, .inl (cI, 8, .inl st))]) hP hD hS hA [] [0, 1, 2, 3, 4] [0, 1, 2, 3, 4] rfl rfl rfl (by decide) (by decide) (by decide)
    (va_runS (As := [.int (nI L)]) (rest := []) ⟨hx, hb, hml, hown, hts⟩ (c_isLine_1 l D cI cO L (by first | assumption | omega) H.size) ⟨callB_of 1 hts g_Bus_isLine rfl rfl rfl (hts _ iw_39) (hts _ iw_195) (by decide +kernel) ⟨by decide, by decide⟩, hts _ iw_197⟩ (mk_preS (X := [(aB, .inr (3, [.ref aM, .ref aR, .int (nI sl), .int sv, .int iv, .int ug])), (aR, .inl (cO, n, .inr (.inr (.inr (.inr g))))), (aK, .inr (1, [.ref aC, .ref b1, .ref b2, .int (nI k), .int rk, .int (nI ra), .int rw, .int lw])), (aC, .inr (0, [.ref aM, .int (nI wy), .ref a1, .ref a2, .ref a3, .int us])), (a1, .inl (cI, 8, .inl st))]) (pl := []) hN hK hP hD [] (by decide) rfl) rfl rfl hl.1 rfl (lv_room (Nat.le_of_ble_eq_true rfl)) d_Bus_state_9 ⟨Nat.le_refl _, Nat.le_refl _⟩) (fun H locs hP hD hS => ?_)
  have hP : va_P D vwCl [(aB, .inr (3, [.ref aM, .ref aR, .int (nI sl), .int sv, .int iv, .int ug])), (aR, .inl (cO, n, .inr (.inr (.inr (.inr g))))), (aK, .inr (1, [.ref aC, .ref b1, .ref b2, .int (nI k), .int rk, .int (nI ra), .int rw, .int lw])), (aC, .inr (0, [.ref aM, .int (nI wy), .ref a1, .ref a2, .ref a3, .int us])), (a1, .inl (cI, 8, .inl st))] H := hP
  have hD : va_D A [(aB, .inr (3, [.ref aM, .ref aR, .int (nI sl), .int sv, .int iv, .int ug])), (aR, .inl (cO, n, .inr (.inr (.inr (.inr g))))), (aK, .inr (1, [.ref aC, .ref b1, .ref b2, .int (nI k), .int rk, .int (nI ra), .int rw, .int lw])), (aC, .inr (0, [.ref aM, .int (nI wy), .ref a1, .ref a2, .ref a3, .int us])), (a1, .inl (cI, 8, .inl st))] := hD
  refine lv_if_eq (tgt := 32) hx hb d_Bus_state_12 rfl (fun h => absurd h (by decide)) (fun _ => ?_)
  refine lv_aload_n hx hb d_Bus_state_15 rfl (lv_at hl 0 rfl) ?_
  refine va_get (D := D) (ci := 3) (v := .ref aR) (C := R_Bus) (T := T_Bus) (N := 6) hx hb hts in_Bus hown hK hP 0 rfl rfl 1 (by decide) (hts _ iw_53) (fun _ h9 => h9) rfl d_Bus_state_16 ?_
  refine lv_iload_n hx hb d_Bus_state_19 rfl (lv_at hl 1 rfl) ?_
  refine mk_aald hx hb hK hP 1 1 rfl rfl (j := i) (b := aK) (by omega) (by omega) hg d_Bus_state_20 ?_
  refine va_getN (D := D) (ci := 1) (v := .ref aC) (C := R_Core) (T := T_Core) (N := 8) hx hb hts in_Core hown hK hP 2 rfl rfl 0 (by decide) (va_Nw.use rfl (hN _ in_w7)) (fun _ h9 => h9) rfl d_Bus_state_21 ?_
  refine va_getN (D := D) (ci := 0) (v := .ref a1) (C := R_Cache) (T := T_Cache) (N := 6) hx hb hts in_Cache hown hK hP 3 rfl rfl 2 (by decide) (va_Nw.use rfl (hN _ in_w29)) (fun _ h9 => h9) rfl d_Bus_state_24 ?_
  refine lv_iload_n hx hb d_Bus_state_27 rfl (lv_at hl 2 rfl) ?_
  refine mk_iald hx hb hK hP 4 0 rfl rfl (j := L) (by omega) (by decide) d_Bus_state_28 ?_
  refine lv_goto (tgt := 33) hx hb d_Bus_state_29 rfl ?_
  exact mk_iret hx hb hr hlocks hK hP hD hS d_Bus_state_33 rfl rfl
set_option maxRecDepth 100000 in
set_option maxHeartbeats 4000000 in
theorem c_copy_0 (l : Launch) (D : va_G) (cI cO : ClassId) (aB aM aR n sl : Nat) (sv iv ug : Int32) (g : Nat → Option Nat) (i : Nat) (aK aC b1 b2 k ra : Nat) (rk rw lw : Int32) (a1 a2 a3 wy : Nat) (us : Int32) (st : Nat → Int32) (j : Nat) (hn : n ≤ 4) (hi : i < n) (hg : g i = some aK) (hj : j < 32) (hs : st (j / 4) = 0) : mk_M l y_Bus_copy w_Bus_copy ({ frames := 1, cells := 0, slots := 0, locals := 21 } : Room) D (tysK cI cO) [.ref aB, .int (nI i), .int (nI j)] [(aB, .inr (3, [.ref aM, .ref aR, .int (nI sl), .int sv, .int iv, .int ug])), (aR, .inl (cO, n, .inr (.inr (.inr (.inr g))))), (aK, .inr (1, [.ref aC, .ref b1, .ref b2, .int (nI k), .int rk, .int (nI ra), .int rw, .int lw])), (aC, .inr (0, [.ref aM, .int (nI wy), .ref a1, .ref a2, .ref a3, .int us])), (a1, .inl (cI, 8, .inl st))] (mk_Qi D (tysK cI cO) (nI 0) [(aB, .inr (3, [.ref aM, .ref aR, .int (nI sl), .int sv, .int iv, .int ug])), (aR, .inl (cO, n, .inr (.inr (.inr (.inr g))))), (aK, .inr (1, [.ref aC, .ref b1, .ref b2, .int (nI k), .int rk, .int (nI ra), .int rw, .int lw])), (aC, .inr (0, [.ref aM, .int (nI wy), .ref a1, .ref a2, .ref a3, .int us])), (a1, .inl (cI, 8, .inl st))]) := by
  refine mk_start (cc := b_Bus_copy) (maxL := 4) (ret := (some FieldType.int)) (by decide) (Nat.le_of_ble_eq_true rfl) (fun p e s m below meth c A ls H locs hx hb hml hr hlocks hnm hts hN hown hK hP hD hA hl hS => ?_)
  have hl : lv_has ls 4 [(0, .ref aB), (1, .int (nI i)), (2, .int (nI j))] := hl
  refine lv_aload_n hx hb d_Bus_copy_0 rfl (lv_at hl 0 rfl) ?_
  refine lv_iload_n hx hb d_Bus_copy_1 rfl (lv_at hl 1 rfl) ?_
  refine mk_calli (X := [(aB, .inr (3, [.ref aM, .ref aR, .int (nI sl), .int sv, .int iv, .int ug])), (aR, .inl (cO, n, .inr (.inr (.inr (.inr g))))), (aK, .inr (1, [.ref aC, .ref b1, .ref b2, .int (nI k), .int rk, .int (nI ra), .int rw, .int lw])), (aC, .inr (0, [.ref aM, .int (nI wy), .ref a1, .ref a2, .ref a3, .int us])), (a1, .inl (cI, 8, .inl st))]) (pl := []) (wc := [(aB, .inr (3, [.ref aM, .ref aR, .int (nI sl), .int sv, .int iv, .int ug])), (aR, .inl (cO, n, .inr (.inr (.inr (.inr g)))))]) (wr := [(aK, .inr (1, [.ref aC, .ref b1, .ref b2, .int (nI k), .int rk, .int (nI ra), .int rw, .int lw])), (aC, .inr (0, [.ref aM, .int (nI wy), .ref a1, .ref a2, .ref a3, .int us])), (a1, .inl (cI, 8, .inl st))]) (w1 := [(aB, .inr (3, [.ref aM, .ref aR, .int (nI sl), .int sv, .int iv, .int ug])), (aR, .inl (cO, n, .inr (.inr (.inr (.inr g)))))]) (X1 := [(aB, .inr (3, [.ref aM, .ref aR, .int (nI sl), .int sv, .int iv, .int ug])), (aR, .inl (cO, n, .inr (.inr (.inr (.inr g))))), (aK, .inr (1, [.ref aC, .ref b1, .ref b2, .int (nI k), .int rk, .int (nI ra), .int rw, .int lw])), (aC, .inr (0, [.ref aM, .int (nI wy), .ref a1, .ref a2, .ref a3, .int us])), (a1, .inl (cI, 8, .inl st))]) hP hD hS hA [0, 1] [2, 3, 4] [3, 4, 0, 1, 2] rfl rfl rfl (by decide) (by decide) (by decide)
    (va_runV (b := aB) (As := [.int (nI i)]) (rest := []) ⟨hx, hb, hml, hown, hts⟩ (c_isCore_1 l D cI cO aB aM aR n sl sv iv ug g i (by first | assumption | omega) (by first | assumption | omega) H.size) ⟨callB_of 1 hts g_Bus_isCore rfl rfl rfl (hts _ iw_39) (hts _ iw_78) (by decide +kernel) ⟨by decide, by decide⟩, hts _ iw_82, hts _ iw_83⟩ (mk_preV (X := [(aB, .inr (3, [.ref aM, .ref aR, .int (nI sl), .int sv, .int iv, .int ug])), (aR, .inl (cO, n, .inr (.inr (.inr (.inr g))))), (aK, .inr (1, [.ref aC, .ref b1, .ref b2, .int (nI k), .int rk, .int (nI ra), .int rw, .int lw])), (aC, .inr (0, [.ref aM, .int (nI wy), .ref a1, .ref a2, .ref a3, .int us])), (a1, .inl (cI, 8, .inl st))]) (pl := []) hN hK hP hD [0, 1] (by decide) rfl 0 rfl rfl rfl) rfl rfl hl.1 rfl (lv_room (Nat.le_of_ble_eq_true rfl)) d_Bus_copy_2 ⟨Nat.le_refl _, Nat.le_refl _⟩) (fun H locs hP hD hS => ?_)
  have hP : va_P D vwCl [(aB, .inr (3, [.ref aM, .ref aR, .int (nI sl), .int sv, .int iv, .int ug])), (aR, .inl (cO, n, .inr (.inr (.inr (.inr g))))), (aK, .inr (1, [.ref aC, .ref b1, .ref b2, .int (nI k), .int rk, .int (nI ra), .int rw, .int lw])), (aC, .inr (0, [.ref aM, .int (nI wy), .ref a1, .ref a2, .ref a3, .int us])), (a1, .inl (cI, 8, .inl st))] H := hP
  have hD : va_D A [(aB, .inr (3, [.ref aM, .ref aR, .int (nI sl), .int sv, .int iv, .int ug])), (aR, .inl (cO, n, .inr (.inr (.inr (.inr g))))), (aK, .inr (1, [.ref aC, .ref b1, .ref b2, .int (nI k), .int rk, .int (nI ra), .int rw, .int lw])), (aC, .inr (0, [.ref aM, .int (nI wy), .ref a1, .ref a2, .ref a3, .int us])), (a1, .inl (cI, 8, .inl st))] := hD
  refine lv_if_eq (tgt := 15) hx hb d_Bus_copy_5 rfl (fun h => absurd h (by decide)) (fun _ => ?_)
  refine lv_iload_n hx hb d_Bus_copy_8 rfl (lv_at hl 2 rfl) ?_
  refine mk_calli (X := [(aB, .inr (3, [.ref aM, .ref aR, .int (nI sl), .int sv, .int iv, .int ug])), (aR, .inl (cO, n, .inr (.inr (.inr (.inr g))))), (aK, .inr (1, [.ref aC, .ref b1, .ref b2, .int (nI k), .int rk, .int (nI ra), .int rw, .int lw])), (aC, .inr (0, [.ref aM, .int (nI wy), .ref a1, .ref a2, .ref a3, .int us])), (a1, .inl (cI, 8, .inl st))]) (pl := []) (wc := []) (wr := [(aB, .inr (3, [.ref aM, .ref aR, .int (nI sl), .int sv, .int iv, .int ug])), (aR, .inl (cO, n, .inr (.inr (.inr (.inr g))))), (aK, .inr (1, [.ref aC, .ref b1, .ref b2, .int (nI k), .int rk, .int (nI ra), .int rw, .int lw])), (aC, .inr (0, [.ref aM, .int (nI wy), .ref a1, .ref a2, .ref a3, .int us])), (a1, .inl (cI, 8, .inl st))]) (w1 := []) (X1 := [(aB, .inr (3, [.ref aM, .ref aR, .int (nI sl), .int sv, .int iv, .int ug])), (aR, .inl (cO, n, .inr (.inr (.inr (.inr g))))), (aK, .inr (1, [.ref aC, .ref b1, .ref b2, .int (nI k), .int rk, .int (nI ra), .int rw, .int lw])), (aC, .inr (0, [.ref aM, .int (nI wy), .ref a1, .ref a2, .ref a3, .int us])), (a1, .inl (cI, 8, .inl st))]) hP hD hS hA [] [0, 1, 2, 3, 4] [0, 1, 2, 3, 4] rfl rfl rfl (by decide) (by decide) (by decide)
    (va_runS (As := [.int (nI j)]) (rest := []) ⟨hx, hb, hml, hown, hts⟩ (c_isAddress_1 l D cI cO j (by first | assumption | omega) H.size) ⟨callB_of 1 hts g_Bus_isAddress rfl rfl rfl (hts _ iw_39) (hts _ iw_79) (by decide +kernel) ⟨by decide, by decide⟩, hts _ iw_85⟩ (mk_preS (X := [(aB, .inr (3, [.ref aM, .ref aR, .int (nI sl), .int sv, .int iv, .int ug])), (aR, .inl (cO, n, .inr (.inr (.inr (.inr g))))), (aK, .inr (1, [.ref aC, .ref b1, .ref b2, .int (nI k), .int rk, .int (nI ra), .int rw, .int lw])), (aC, .inr (0, [.ref aM, .int (nI wy), .ref a1, .ref a2, .ref a3, .int us])), (a1, .inl (cI, 8, .inl st))]) (pl := []) hN hK hP hD [] (by decide) rfl) rfl rfl hl.1 rfl (lv_room (Nat.le_of_ble_eq_true rfl)) d_Bus_copy_9 ⟨Nat.le_refl _, Nat.le_refl _⟩) (fun H locs hP hD hS => ?_)
  have hP : va_P D vwCl [(aB, .inr (3, [.ref aM, .ref aR, .int (nI sl), .int sv, .int iv, .int ug])), (aR, .inl (cO, n, .inr (.inr (.inr (.inr g))))), (aK, .inr (1, [.ref aC, .ref b1, .ref b2, .int (nI k), .int rk, .int (nI ra), .int rw, .int lw])), (aC, .inr (0, [.ref aM, .int (nI wy), .ref a1, .ref a2, .ref a3, .int us])), (a1, .inl (cI, 8, .inl st))] H := hP
  have hD : va_D A [(aB, .inr (3, [.ref aM, .ref aR, .int (nI sl), .int sv, .int iv, .int ug])), (aR, .inl (cO, n, .inr (.inr (.inr (.inr g))))), (aK, .inr (1, [.ref aC, .ref b1, .ref b2, .int (nI k), .int rk, .int (nI ra), .int rw, .int lw])), (aC, .inr (0, [.ref aM, .int (nI wy), .ref a1, .ref a2, .ref a3, .int us])), (a1, .inl (cI, 8, .inl st))] := hD
  refine lv_if_ne (tgt := 17) hx hb d_Bus_copy_12 rfl (fun _ => ?_) (fun h => absurd h (by decide))
  refine lv_aload_n hx hb d_Bus_copy_17 rfl (lv_at hl 0 rfl) ?_
  refine va_get (D := D) (ci := 3) (v := .ref aR) (C := R_Bus) (T := T_Bus) (N := 6) hx hb hts in_Bus hown hK hP 0 rfl rfl 1 (by decide) (hts _ iw_53) (fun _ h9 => h9) rfl d_Bus_copy_18 ?_
  refine lv_iload_n hx hb d_Bus_copy_21 rfl (lv_at hl 1 rfl) ?_
  refine mk_aald hx hb hK hP 1 1 rfl rfl (j := i) (b := aK) (by omega) (by omega) hg d_Bus_copy_22 ?_
  refine va_getN (D := D) (ci := 1) (v := .ref aC) (C := R_Core) (T := T_Core) (N := 8) hx hb hts in_Core hown hK hP 2 rfl rfl 0 (by decide) (va_Nw.use rfl (hN _ in_w7)) (fun _ h9 => h9) rfl d_Bus_copy_23 ?_
  refine lv_astore_n hx hb d_Bus_copy_26 rfl hl (by decide) rfl (fun ls hl => ?_)
  have hl : lv_has ls 4 [(3, .ref aC), (0, .ref aB), (1, .int (nI i)), (2, .int (nI j))] := hl
  refine lv_aload_n hx hb d_Bus_copy_27 rfl (lv_at hl 0 rfl) ?_
  refine lv_iload_n hx hb d_Bus_copy_28 rfl (lv_at hl 3 rfl) ?_
  refine mk_calli (X := [(aB, .inr (3, [.ref aM, .ref aR, .int (nI sl), .int sv, .int iv, .int ug])), (aR, .inl (cO, n, .inr (.inr (.inr (.inr g))))), (aK, .inr (1, [.ref aC, .ref b1, .ref b2, .int (nI k), .int rk, .int (nI ra), .int rw, .int lw])), (aC, .inr (0, [.ref aM, .int (nI wy), .ref a1, .ref a2, .ref a3, .int us])), (a1, .inl (cI, 8, .inl st))]) (pl := []) (wc := []) (wr := [(aB, .inr (3, [.ref aM, .ref aR, .int (nI sl), .int sv, .int iv, .int ug])), (aR, .inl (cO, n, .inr (.inr (.inr (.inr g))))), (aK, .inr (1, [.ref aC, .ref b1, .ref b2, .int (nI k), .int rk, .int (nI ra), .int rw, .int lw])), (aC, .inr (0, [.ref aM, .int (nI wy), .ref a1, .ref a2, .ref a3, .int us])), (a1, .inl (cI, 8, .inl st))]) (w1 := []) (X1 := [(aB, .inr (3, [.ref aM, .ref aR, .int (nI sl), .int sv, .int iv, .int ug])), (aR, .inl (cO, n, .inr (.inr (.inr (.inr g))))), (aK, .inr (1, [.ref aC, .ref b1, .ref b2, .int (nI k), .int rk, .int (nI ra), .int rw, .int lw])), (aC, .inr (0, [.ref aM, .int (nI wy), .ref a1, .ref a2, .ref a3, .int us])), (a1, .inl (cI, 8, .inl st))]) hP hD hS hA [] [0, 1, 2, 3, 4] [0, 1, 2, 3, 4] rfl rfl rfl (by decide) (by decide) (by decide)
    (va_runS (As := [.int (nI j)]) (rest := [.ref aC]) ⟨hx, hb, hml, hown, hts⟩ (c_lineOf l D cI cO j (by first | assumption | omega) H.size) ⟨callB_of 1 hts g_Bus_lineOf rfl rfl rfl (hts _ iw_39) (hts _ iw_80) (by decide +kernel) ⟨by decide, by decide⟩, hts _ iw_94⟩ (mk_preS (X := [(aB, .inr (3, [.ref aM, .ref aR, .int (nI sl), .int sv, .int iv, .int ug])), (aR, .inl (cO, n, .inr (.inr (.inr (.inr g))))), (aK, .inr (1, [.ref aC, .ref b1, .ref b2, .int (nI k), .int rk, .int (nI ra), .int rw, .int lw])), (aC, .inr (0, [.ref aM, .int (nI wy), .ref a1, .ref a2, .ref a3, .int us])), (a1, .inl (cI, 8, .inl st))]) (pl := []) hN hK hP hD [] (by decide) rfl) rfl rfl hl.1 rfl (lv_room (Nat.le_of_ble_eq_true rfl)) d_Bus_copy_29 ⟨Nat.le_refl _, Nat.le_refl _⟩) (fun H locs hP hD hS => ?_)
  have hP : va_P D vwCl [(aB, .inr (3, [.ref aM, .ref aR, .int (nI sl), .int sv, .int iv, .int ug])), (aR, .inl (cO, n, .inr (.inr (.inr (.inr g))))), (aK, .inr (1, [.ref aC, .ref b1, .ref b2, .int (nI k), .int rk, .int (nI ra), .int rw, .int lw])), (aC, .inr (0, [.ref aM, .int (nI wy), .ref a1, .ref a2, .ref a3, .int us])), (a1, .inl (cI, 8, .inl st))] H := hP
  have hD : va_D A [(aB, .inr (3, [.ref aM, .ref aR, .int (nI sl), .int sv, .int iv, .int ug])), (aR, .inl (cO, n, .inr (.inr (.inr (.inr g))))), (aK, .inr (1, [.ref aC, .ref b1, .ref b2, .int (nI k), .int rk, .int (nI ra), .int rw, .int lw])), (aC, .inr (0, [.ref aM, .int (nI wy), .ref a1, .ref a2, .ref a3, .int us])), (a1, .inl (cI, 8, .inl st))] := hD
  refine mk_calli (X := [(aB, .inr (3, [.ref aM, .ref aR, .int (nI sl), .int sv, .int iv, .int ug])), (aR, .inl (cO, n, .inr (.inr (.inr (.inr g))))), (aK, .inr (1, [.ref aC, .ref b1, .ref b2, .int (nI k), .int rk, .int (nI ra), .int rw, .int lw])), (aC, .inr (0, [.ref aM, .int (nI wy), .ref a1, .ref a2, .ref a3, .int us])), (a1, .inl (cI, 8, .inl st))]) (pl := []) (wc := [(aC, .inr (0, [.ref aM, .int (nI wy), .ref a1, .ref a2, .ref a3, .int us])), (a1, .inl (cI, 8, .inl st))]) (wr := [(aB, .inr (3, [.ref aM, .ref aR, .int (nI sl), .int sv, .int iv, .int ug])), (aR, .inl (cO, n, .inr (.inr (.inr (.inr g))))), (aK, .inr (1, [.ref aC, .ref b1, .ref b2, .int (nI k), .int rk, .int (nI ra), .int rw, .int lw]))]) (w1 := [(aC, .inr (0, [.ref aM, .int (nI wy), .ref a1, .ref a2, .ref a3, .int us])), (a1, .inl (cI, 8, .inl st))]) (X1 := [(aB, .inr (3, [.ref aM, .ref aR, .int (nI sl), .int sv, .int iv, .int ug])), (aR, .inl (cO, n, .inr (.inr (.inr (.inr g))))), (aK, .inr (1, [.ref aC, .ref b1, .ref b2, .int (nI k), .int rk, .int (nI ra), .int rw, .int lw])), (aC, .inr (0, [.ref aM, .int (nI wy), .ref a1, .ref a2, .ref a3, .int us])), (a1, .inl (cI, 8, .inl st))]) hP hD hS hA [3, 4] [0, 1, 2] [0, 1, 2, 3, 4] rfl rfl rfl (by decide) (by decide) (by decide)
    (va_runVN (b := aC) (As := [.int (nI (j / 4))]) (rest := []) ⟨hx, hb, hml, hown, hts⟩ (c_holds_0 l D cI cO aC aM a1 a2 a3 wy us st (j / 4) (by omega) (by first | assumption | omega) H.size) ⟨va_cnB 1 hts g_Cache_holds rfl rfl rfl (hN _ in_w8) (hts _ iw_40) (by decide +kernel) ⟨by decide, by decide⟩, hts _ iw_96, hts _ iw_97⟩ (mk_preV (X := [(aB, .inr (3, [.ref aM, .ref aR, .int (nI sl), .int sv, .int iv, .int ug])), (aR, .inl (cO, n, .inr (.inr (.inr (.inr g))))), (aK, .inr (1, [.ref aC, .ref b1, .ref b2, .int (nI k), .int rk, .int (nI ra), .int rw, .int lw])), (aC, .inr (0, [.ref aM, .int (nI wy), .ref a1, .ref a2, .ref a3, .int us])), (a1, .inl (cI, 8, .inl st))]) (pl := []) hN hK hP hD [3, 4] (by decide) rfl 3 rfl rfl rfl) rfl rfl hl.1 rfl (lv_room (Nat.le_of_ble_eq_true rfl)) d_Bus_copy_32 ⟨Nat.le_refl _, Nat.le_refl _⟩) (fun H locs hP hD hS => ?_)
  have hP : va_P D vwCl [(aB, .inr (3, [.ref aM, .ref aR, .int (nI sl), .int sv, .int iv, .int ug])), (aR, .inl (cO, n, .inr (.inr (.inr (.inr g))))), (aK, .inr (1, [.ref aC, .ref b1, .ref b2, .int (nI k), .int rk, .int (nI ra), .int rw, .int lw])), (aC, .inr (0, [.ref aM, .int (nI wy), .ref a1, .ref a2, .ref a3, .int us])), (a1, .inl (cI, 8, .inl st))] H := hP
  have hD : va_D A [(aB, .inr (3, [.ref aM, .ref aR, .int (nI sl), .int sv, .int iv, .int ug])), (aR, .inl (cO, n, .inr (.inr (.inr (.inr g))))), (aK, .inr (1, [.ref aC, .ref b1, .ref b2, .int (nI k), .int rk, .int (nI ra), .int rw, .int lw])), (aC, .inr (0, [.ref aM, .int (nI wy), .ref a1, .ref a2, .ref a3, .int us])), (a1, .inl (cI, 8, .inl st))] := hD
  refine lv_if_eq (tgt := 47) hx hb d_Bus_copy_35 rfl (fun _ => ?_) (fun h => absurd (by decide) h)
  refine lv_iconst (v := nI 0) hx hb d_Bus_copy_47 (by decide) ?_
  exact mk_iret hx hb hr hlocks hK hP hD hS d_Bus_copy_48 rfl rfl
set_option maxRecDepth 100000 in
set_option maxHeartbeats 4000000 in
theorem c_copy_1 (l : Launch) (D : va_G) (cI cO : ClassId) (aB aM aR n sl : Nat) (sv iv ug : Int32) (g : Nat → Option Nat) (i : Nat) (aK aC b1 b2 k ra : Nat) (rk rw lw : Int32) (a1 a2 a3 wy : Nat) (us : Int32) (st wd : Nat → Int32) (j : Nat) (hn : n ≤ 4) (hi : i < n) (hg : g i = some aK) (hj : j < 32) (hs : ¬ st (j / 4) = 0) : mk_M l y_Bus_copy w_Bus_copy ({ frames := 1, cells := 0, slots := 0, locals := 21 } : Room) D (tysK cI cO) [.ref aB, .int (nI i), .int (nI j)] [(aB, .inr (3, [.ref aM, .ref aR, .int (nI sl), .int sv, .int iv, .int ug])), (aR, .inl (cO, n, .inr (.inr (.inr (.inr g))))), (aK, .inr (1, [.ref aC, .ref b1, .ref b2, .int (nI k), .int rk, .int (nI ra), .int rw, .int lw])), (aC, .inr (0, [.ref aM, .int (nI wy), .ref a1, .ref a2, .ref a3, .int us])), (a1, .inl (cI, 8, .inl st)), (a3, .inl (cI, 32, .inl wd))] (mk_Qi D (tysK cI cO) (wd j) [(aB, .inr (3, [.ref aM, .ref aR, .int (nI sl), .int sv, .int iv, .int ug])), (aR, .inl (cO, n, .inr (.inr (.inr (.inr g))))), (aK, .inr (1, [.ref aC, .ref b1, .ref b2, .int (nI k), .int rk, .int (nI ra), .int rw, .int lw])), (aC, .inr (0, [.ref aM, .int (nI wy), .ref a1, .ref a2, .ref a3, .int us])), (a1, .inl (cI, 8, .inl st)), (a3, .inl (cI, 32, .inl wd))]) := by
  refine mk_start (cc := b_Bus_copy) (maxL := 4) (ret := (some FieldType.int)) (by decide) (Nat.le_of_ble_eq_true rfl) (fun p e s m below meth c A ls H locs hx hb hml hr hlocks hnm hts hN hown hK hP hD hA hl hS => ?_)
  have hl : lv_has ls 4 [(0, .ref aB), (1, .int (nI i)), (2, .int (nI j))] := hl
  refine lv_aload_n hx hb d_Bus_copy_0 rfl (lv_at hl 0 rfl) ?_
  refine lv_iload_n hx hb d_Bus_copy_1 rfl (lv_at hl 1 rfl) ?_
  refine mk_calli (X := [(aB, .inr (3, [.ref aM, .ref aR, .int (nI sl), .int sv, .int iv, .int ug])), (aR, .inl (cO, n, .inr (.inr (.inr (.inr g))))), (aK, .inr (1, [.ref aC, .ref b1, .ref b2, .int (nI k), .int rk, .int (nI ra), .int rw, .int lw])), (aC, .inr (0, [.ref aM, .int (nI wy), .ref a1, .ref a2, .ref a3, .int us])), (a1, .inl (cI, 8, .inl st)), (a3, .inl (cI, 32, .inl wd))]) (pl := []) (wc := [(aB, .inr (3, [.ref aM, .ref aR, .int (nI sl), .int sv, .int iv, .int ug])), (aR, .inl (cO, n, .inr (.inr (.inr (.inr g)))))]) (wr := [(aK, .inr (1, [.ref aC, .ref b1, .ref b2, .int (nI k), .int rk, .int (nI ra), .int rw, .int lw])), (aC, .inr (0, [.ref aM, .int (nI wy), .ref a1, .ref a2, .ref a3, .int us])), (a1, .inl (cI, 8, .inl st)), (a3, .inl (cI, 32, .inl wd))]) (w1 := [(aB, .inr (3, [.ref aM, .ref aR, .int (nI sl), .int sv, .int iv, .int ug])), (aR, .inl (cO, n, .inr (.inr (.inr (.inr g)))))]) (X1 := [(aB, .inr (3, [.ref aM, .ref aR, .int (nI sl), .int sv, .int iv, .int ug])), (aR, .inl (cO, n, .inr (.inr (.inr (.inr g))))), (aK, .inr (1, [.ref aC, .ref b1, .ref b2, .int (nI k), .int rk, .int (nI ra), .int rw, .int lw])), (aC, .inr (0, [.ref aM, .int (nI wy), .ref a1, .ref a2, .ref a3, .int us])), (a1, .inl (cI, 8, .inl st)), (a3, .inl (cI, 32, .inl wd))]) hP hD hS hA [0, 1] [2, 3, 4, 5] [4, 5, 0, 1, 2, 3] rfl rfl rfl (by decide) (by decide) (by decide)
    (va_runV (b := aB) (As := [.int (nI i)]) (rest := []) ⟨hx, hb, hml, hown, hts⟩ (c_isCore_1 l D cI cO aB aM aR n sl sv iv ug g i (by first | assumption | omega) (by first | assumption | omega) H.size) ⟨callB_of 1 hts g_Bus_isCore rfl rfl rfl (hts _ iw_39) (hts _ iw_78) (by decide +kernel) ⟨by decide, by decide⟩, hts _ iw_82, hts _ iw_83⟩ (mk_preV (X := [(aB, .inr (3, [.ref aM, .ref aR, .int (nI sl), .int sv, .int iv, .int ug])), (aR, .inl (cO, n, .inr (.inr (.inr (.inr g))))), (aK, .inr (1, [.ref aC, .ref b1, .ref b2, .int (nI k), .int rk, .int (nI ra), .int rw, .int lw])), (aC, .inr (0, [.ref aM, .int (nI wy), .ref a1, .ref a2, .ref a3, .int us])), (a1, .inl (cI, 8, .inl st)), (a3, .inl (cI, 32, .inl wd))]) (pl := []) hN hK hP hD [0, 1] (by decide) rfl 0 rfl rfl rfl) rfl rfl hl.1 rfl (lv_room (Nat.le_of_ble_eq_true rfl)) d_Bus_copy_2 ⟨Nat.le_refl _, Nat.le_refl _⟩) (fun H locs hP hD hS => ?_)
  have hP : va_P D vwCl [(aB, .inr (3, [.ref aM, .ref aR, .int (nI sl), .int sv, .int iv, .int ug])), (aR, .inl (cO, n, .inr (.inr (.inr (.inr g))))), (aK, .inr (1, [.ref aC, .ref b1, .ref b2, .int (nI k), .int rk, .int (nI ra), .int rw, .int lw])), (aC, .inr (0, [.ref aM, .int (nI wy), .ref a1, .ref a2, .ref a3, .int us])), (a1, .inl (cI, 8, .inl st)), (a3, .inl (cI, 32, .inl wd))] H := hP
  have hD : va_D A [(aB, .inr (3, [.ref aM, .ref aR, .int (nI sl), .int sv, .int iv, .int ug])), (aR, .inl (cO, n, .inr (.inr (.inr (.inr g))))), (aK, .inr (1, [.ref aC, .ref b1, .ref b2, .int (nI k), .int rk, .int (nI ra), .int rw, .int lw])), (aC, .inr (0, [.ref aM, .int (nI wy), .ref a1, .ref a2, .ref a3, .int us])), (a1, .inl (cI, 8, .inl st)), (a3, .inl (cI, 32, .inl wd))] := hD
  refine lv_if_eq (tgt := 15) hx hb d_Bus_copy_5 rfl (fun h => absurd h (by decide)) (fun _ => ?_)
  refine lv_iload_n hx hb d_Bus_copy_8 rfl (lv_at hl 2 rfl) ?_
  refine mk_calli (X := [(aB, .inr (3, [.ref aM, .ref aR, .int (nI sl), .int sv, .int iv, .int ug])), (aR, .inl (cO, n, .inr (.inr (.inr (.inr g))))), (aK, .inr (1, [.ref aC, .ref b1, .ref b2, .int (nI k), .int rk, .int (nI ra), .int rw, .int lw])), (aC, .inr (0, [.ref aM, .int (nI wy), .ref a1, .ref a2, .ref a3, .int us])), (a1, .inl (cI, 8, .inl st)), (a3, .inl (cI, 32, .inl wd))]) (pl := []) (wc := []) (wr := [(aB, .inr (3, [.ref aM, .ref aR, .int (nI sl), .int sv, .int iv, .int ug])), (aR, .inl (cO, n, .inr (.inr (.inr (.inr g))))), (aK, .inr (1, [.ref aC, .ref b1, .ref b2, .int (nI k), .int rk, .int (nI ra), .int rw, .int lw])), (aC, .inr (0, [.ref aM, .int (nI wy), .ref a1, .ref a2, .ref a3, .int us])), (a1, .inl (cI, 8, .inl st)), (a3, .inl (cI, 32, .inl wd))]) (w1 := []) (X1 := [(aB, .inr (3, [.ref aM, .ref aR, .int (nI sl), .int sv, .int iv, .int ug])), (aR, .inl (cO, n, .inr (.inr (.inr (.inr g))))), (aK, .inr (1, [.ref aC, .ref b1, .ref b2, .int (nI k), .int rk, .int (nI ra), .int rw, .int lw])), (aC, .inr (0, [.ref aM, .int (nI wy), .ref a1, .ref a2, .ref a3, .int us])), (a1, .inl (cI, 8, .inl st)), (a3, .inl (cI, 32, .inl wd))]) hP hD hS hA [] [0, 1, 2, 3, 4, 5] [0, 1, 2, 3, 4, 5] rfl rfl rfl (by decide) (by decide) (by decide)
    (va_runS (As := [.int (nI j)]) (rest := []) ⟨hx, hb, hml, hown, hts⟩ (c_isAddress_1 l D cI cO j (by first | assumption | omega) H.size) ⟨callB_of 1 hts g_Bus_isAddress rfl rfl rfl (hts _ iw_39) (hts _ iw_79) (by decide +kernel) ⟨by decide, by decide⟩, hts _ iw_85⟩ (mk_preS (X := [(aB, .inr (3, [.ref aM, .ref aR, .int (nI sl), .int sv, .int iv, .int ug])), (aR, .inl (cO, n, .inr (.inr (.inr (.inr g))))), (aK, .inr (1, [.ref aC, .ref b1, .ref b2, .int (nI k), .int rk, .int (nI ra), .int rw, .int lw])), (aC, .inr (0, [.ref aM, .int (nI wy), .ref a1, .ref a2, .ref a3, .int us])), (a1, .inl (cI, 8, .inl st)), (a3, .inl (cI, 32, .inl wd))]) (pl := []) hN hK hP hD [] (by decide) rfl) rfl rfl hl.1 rfl (lv_room (Nat.le_of_ble_eq_true rfl)) d_Bus_copy_9 ⟨Nat.le_refl _, Nat.le_refl _⟩) (fun H locs hP hD hS => ?_)
  have hP : va_P D vwCl [(aB, .inr (3, [.ref aM, .ref aR, .int (nI sl), .int sv, .int iv, .int ug])), (aR, .inl (cO, n, .inr (.inr (.inr (.inr g))))), (aK, .inr (1, [.ref aC, .ref b1, .ref b2, .int (nI k), .int rk, .int (nI ra), .int rw, .int lw])), (aC, .inr (0, [.ref aM, .int (nI wy), .ref a1, .ref a2, .ref a3, .int us])), (a1, .inl (cI, 8, .inl st)), (a3, .inl (cI, 32, .inl wd))] H := hP
  have hD : va_D A [(aB, .inr (3, [.ref aM, .ref aR, .int (nI sl), .int sv, .int iv, .int ug])), (aR, .inl (cO, n, .inr (.inr (.inr (.inr g))))), (aK, .inr (1, [.ref aC, .ref b1, .ref b2, .int (nI k), .int rk, .int (nI ra), .int rw, .int lw])), (aC, .inr (0, [.ref aM, .int (nI wy), .ref a1, .ref a2, .ref a3, .int us])), (a1, .inl (cI, 8, .inl st)), (a3, .inl (cI, 32, .inl wd))] := hD
  refine lv_if_ne (tgt := 17) hx hb d_Bus_copy_12 rfl (fun _ => ?_) (fun h => absurd h (by decide))
  refine lv_aload_n hx hb d_Bus_copy_17 rfl (lv_at hl 0 rfl) ?_
  refine va_get (D := D) (ci := 3) (v := .ref aR) (C := R_Bus) (T := T_Bus) (N := 6) hx hb hts in_Bus hown hK hP 0 rfl rfl 1 (by decide) (hts _ iw_53) (fun _ h9 => h9) rfl d_Bus_copy_18 ?_
  refine lv_iload_n hx hb d_Bus_copy_21 rfl (lv_at hl 1 rfl) ?_
  refine mk_aald hx hb hK hP 1 1 rfl rfl (j := i) (b := aK) (by omega) (by omega) hg d_Bus_copy_22 ?_
  refine va_getN (D := D) (ci := 1) (v := .ref aC) (C := R_Core) (T := T_Core) (N := 8) hx hb hts in_Core hown hK hP 2 rfl rfl 0 (by decide) (va_Nw.use rfl (hN _ in_w7)) (fun _ h9 => h9) rfl d_Bus_copy_23 ?_
  refine lv_astore_n hx hb d_Bus_copy_26 rfl hl (by decide) rfl (fun ls hl => ?_)
  have hl : lv_has ls 4 [(3, .ref aC), (0, .ref aB), (1, .int (nI i)), (2, .int (nI j))] := hl
  refine lv_aload_n hx hb d_Bus_copy_27 rfl (lv_at hl 0 rfl) ?_
  refine lv_iload_n hx hb d_Bus_copy_28 rfl (lv_at hl 3 rfl) ?_
  refine mk_calli (X := [(aB, .inr (3, [.ref aM, .ref aR, .int (nI sl), .int sv, .int iv, .int ug])), (aR, .inl (cO, n, .inr (.inr (.inr (.inr g))))), (aK, .inr (1, [.ref aC, .ref b1, .ref b2, .int (nI k), .int rk, .int (nI ra), .int rw, .int lw])), (aC, .inr (0, [.ref aM, .int (nI wy), .ref a1, .ref a2, .ref a3, .int us])), (a1, .inl (cI, 8, .inl st)), (a3, .inl (cI, 32, .inl wd))]) (pl := []) (wc := []) (wr := [(aB, .inr (3, [.ref aM, .ref aR, .int (nI sl), .int sv, .int iv, .int ug])), (aR, .inl (cO, n, .inr (.inr (.inr (.inr g))))), (aK, .inr (1, [.ref aC, .ref b1, .ref b2, .int (nI k), .int rk, .int (nI ra), .int rw, .int lw])), (aC, .inr (0, [.ref aM, .int (nI wy), .ref a1, .ref a2, .ref a3, .int us])), (a1, .inl (cI, 8, .inl st)), (a3, .inl (cI, 32, .inl wd))]) (w1 := []) (X1 := [(aB, .inr (3, [.ref aM, .ref aR, .int (nI sl), .int sv, .int iv, .int ug])), (aR, .inl (cO, n, .inr (.inr (.inr (.inr g))))), (aK, .inr (1, [.ref aC, .ref b1, .ref b2, .int (nI k), .int rk, .int (nI ra), .int rw, .int lw])), (aC, .inr (0, [.ref aM, .int (nI wy), .ref a1, .ref a2, .ref a3, .int us])), (a1, .inl (cI, 8, .inl st)), (a3, .inl (cI, 32, .inl wd))]) hP hD hS hA [] [0, 1, 2, 3, 4, 5] [0, 1, 2, 3, 4, 5] rfl rfl rfl (by decide) (by decide) (by decide)
    (va_runS (As := [.int (nI j)]) (rest := [.ref aC]) ⟨hx, hb, hml, hown, hts⟩ (c_lineOf l D cI cO j (by first | assumption | omega) H.size) ⟨callB_of 1 hts g_Bus_lineOf rfl rfl rfl (hts _ iw_39) (hts _ iw_80) (by decide +kernel) ⟨by decide, by decide⟩, hts _ iw_94⟩ (mk_preS (X := [(aB, .inr (3, [.ref aM, .ref aR, .int (nI sl), .int sv, .int iv, .int ug])), (aR, .inl (cO, n, .inr (.inr (.inr (.inr g))))), (aK, .inr (1, [.ref aC, .ref b1, .ref b2, .int (nI k), .int rk, .int (nI ra), .int rw, .int lw])), (aC, .inr (0, [.ref aM, .int (nI wy), .ref a1, .ref a2, .ref a3, .int us])), (a1, .inl (cI, 8, .inl st)), (a3, .inl (cI, 32, .inl wd))]) (pl := []) hN hK hP hD [] (by decide) rfl) rfl rfl hl.1 rfl (lv_room (Nat.le_of_ble_eq_true rfl)) d_Bus_copy_29 ⟨Nat.le_refl _, Nat.le_refl _⟩) (fun H locs hP hD hS => ?_)
  have hP : va_P D vwCl [(aB, .inr (3, [.ref aM, .ref aR, .int (nI sl), .int sv, .int iv, .int ug])), (aR, .inl (cO, n, .inr (.inr (.inr (.inr g))))), (aK, .inr (1, [.ref aC, .ref b1, .ref b2, .int (nI k), .int rk, .int (nI ra), .int rw, .int lw])), (aC, .inr (0, [.ref aM, .int (nI wy), .ref a1, .ref a2, .ref a3, .int us])), (a1, .inl (cI, 8, .inl st)), (a3, .inl (cI, 32, .inl wd))] H := hP
  have hD : va_D A [(aB, .inr (3, [.ref aM, .ref aR, .int (nI sl), .int sv, .int iv, .int ug])), (aR, .inl (cO, n, .inr (.inr (.inr (.inr g))))), (aK, .inr (1, [.ref aC, .ref b1, .ref b2, .int (nI k), .int rk, .int (nI ra), .int rw, .int lw])), (aC, .inr (0, [.ref aM, .int (nI wy), .ref a1, .ref a2, .ref a3, .int us])), (a1, .inl (cI, 8, .inl st)), (a3, .inl (cI, 32, .inl wd))] := hD
  refine mk_calli (X := [(aB, .inr (3, [.ref aM, .ref aR, .int (nI sl), .int sv, .int iv, .int ug])), (aR, .inl (cO, n, .inr (.inr (.inr (.inr g))))), (aK, .inr (1, [.ref aC, .ref b1, .ref b2, .int (nI k), .int rk, .int (nI ra), .int rw, .int lw])), (aC, .inr (0, [.ref aM, .int (nI wy), .ref a1, .ref a2, .ref a3, .int us])), (a1, .inl (cI, 8, .inl st)), (a3, .inl (cI, 32, .inl wd))]) (pl := []) (wc := [(aC, .inr (0, [.ref aM, .int (nI wy), .ref a1, .ref a2, .ref a3, .int us])), (a1, .inl (cI, 8, .inl st))]) (wr := [(aB, .inr (3, [.ref aM, .ref aR, .int (nI sl), .int sv, .int iv, .int ug])), (aR, .inl (cO, n, .inr (.inr (.inr (.inr g))))), (aK, .inr (1, [.ref aC, .ref b1, .ref b2, .int (nI k), .int rk, .int (nI ra), .int rw, .int lw])), (a3, .inl (cI, 32, .inl wd))]) (w1 := [(aC, .inr (0, [.ref aM, .int (nI wy), .ref a1, .ref a2, .ref a3, .int us])), (a1, .inl (cI, 8, .inl st))]) (X1 := [(aB, .inr (3, [.ref aM, .ref aR, .int (nI sl), .int sv, .int iv, .int ug])), (aR, .inl (cO, n, .inr (.inr (.inr (.inr g))))), (aK, .inr (1, [.ref aC, .ref b1, .ref b2, .int (nI k), .int rk, .int (nI ra), .int rw, .int lw])), (aC, .inr (0, [.ref aM, .int (nI wy), .ref a1, .ref a2, .ref a3, .int us])), (a1, .inl (cI, 8, .inl st)), (a3, .inl (cI, 32, .inl wd))]) hP hD hS hA [3, 4] [0, 1, 2, 5] [0, 1, 2, 4, 5, 3] rfl rfl rfl (by decide) (by decide) (by decide)
    (va_runVN (b := aC) (As := [.int (nI (j / 4))]) (rest := []) ⟨hx, hb, hml, hown, hts⟩ (c_holds_1 l D cI cO aC aM a1 a2 a3 wy us st (j / 4) (by omega) (by first | assumption | omega) H.size) ⟨va_cnB 1 hts g_Cache_holds rfl rfl rfl (hN _ in_w8) (hts _ iw_40) (by decide +kernel) ⟨by decide, by decide⟩, hts _ iw_96, hts _ iw_97⟩ (mk_preV (X := [(aB, .inr (3, [.ref aM, .ref aR, .int (nI sl), .int sv, .int iv, .int ug])), (aR, .inl (cO, n, .inr (.inr (.inr (.inr g))))), (aK, .inr (1, [.ref aC, .ref b1, .ref b2, .int (nI k), .int rk, .int (nI ra), .int rw, .int lw])), (aC, .inr (0, [.ref aM, .int (nI wy), .ref a1, .ref a2, .ref a3, .int us])), (a1, .inl (cI, 8, .inl st)), (a3, .inl (cI, 32, .inl wd))]) (pl := []) hN hK hP hD [3, 4] (by decide) rfl 3 rfl rfl rfl) rfl rfl hl.1 rfl (lv_room (Nat.le_of_ble_eq_true rfl)) d_Bus_copy_32 ⟨Nat.le_refl _, Nat.le_refl _⟩) (fun H locs hP hD hS => ?_)
  have hP : va_P D vwCl [(aB, .inr (3, [.ref aM, .ref aR, .int (nI sl), .int sv, .int iv, .int ug])), (aR, .inl (cO, n, .inr (.inr (.inr (.inr g))))), (aK, .inr (1, [.ref aC, .ref b1, .ref b2, .int (nI k), .int rk, .int (nI ra), .int rw, .int lw])), (aC, .inr (0, [.ref aM, .int (nI wy), .ref a1, .ref a2, .ref a3, .int us])), (a1, .inl (cI, 8, .inl st)), (a3, .inl (cI, 32, .inl wd))] H := hP
  have hD : va_D A [(aB, .inr (3, [.ref aM, .ref aR, .int (nI sl), .int sv, .int iv, .int ug])), (aR, .inl (cO, n, .inr (.inr (.inr (.inr g))))), (aK, .inr (1, [.ref aC, .ref b1, .ref b2, .int (nI k), .int rk, .int (nI ra), .int rw, .int lw])), (aC, .inr (0, [.ref aM, .int (nI wy), .ref a1, .ref a2, .ref a3, .int us])), (a1, .inl (cI, 8, .inl st)), (a3, .inl (cI, 32, .inl wd))] := hD
  refine lv_if_eq (tgt := 47) hx hb d_Bus_copy_35 rfl (fun h => absurd h (by decide)) (fun _ => ?_)
  refine lv_aload_n hx hb d_Bus_copy_38 rfl (lv_at hl 0 rfl) ?_
  refine va_getN (D := D) (ci := 0) (v := .ref a3) (C := R_Cache) (T := T_Cache) (N := 6) hx hb hts in_Cache hown hK hP 3 rfl rfl 4 (by decide) (va_Nw.use rfl (hN _ in_w9)) (fun _ h9 => h9) rfl d_Bus_copy_39 ?_
  refine lv_iload_n hx hb d_Bus_copy_42 rfl (lv_at hl 3 rfl) ?_
  refine mk_iald hx hb hK hP 5 0 rfl rfl (j := j) (by omega) (by decide) d_Bus_copy_43 ?_
  refine lv_goto (tgt := 48) hx hb d_Bus_copy_44 rfl ?_
  exact mk_iret hx hb hr hlocks hK hP hD hS d_Bus_copy_48 rfl rfl
set_option maxRecDepth 100000 in
set_option maxHeartbeats 4000000 in
theorem c_memory_0 (l : Launch) (D : va_G) (cI cO : ClassId) (aB aM aR n sl : Nat) (sv iv ug : Int32) (g : Nat → Option Nat) (aW : Nat) (wb : Int32) (mw : Nat → Int32) (x : Int32) (hx0 : ¬ vp_in x 32) : mk_M l y_Bus_memory w_Bus_memory ({ frames := 1, cells := 0, slots := 0, locals := 20 } : Room) D (tysK cI cO) [.ref aB, .int x] [(aB, .inr (3, [.ref aM, .ref aR, .int (nI sl), .int sv, .int iv, .int ug])), (aM, .inr (2, [.ref aW, .int wb])), (aW, .inl (cI, 32, .inl mw))] (mk_Qi D (tysK cI cO) (nI 0) [(aB, .inr (3, [.ref aM, .ref aR, .int (nI sl), .int sv, .int iv, .int ug])), (aM, .inr (2, [.ref aW, .int wb])), (aW, .inl (cI, 32, .inl mw))]) := by
  refine mk_start (cc := b_Bus_memory) (maxL := 2) (ret := (some FieldType.int)) (by decide) (Nat.le_of_ble_eq_true rfl) (fun p e s m below meth c A ls H locs hx hb hml hr hlocks hnm hts hN hown hK hP hD hA hl hS => ?_)
  have hl : lv_has ls 2 [(0, .ref aB), (1, .int x)] := hl
  refine lv_iload_n hx hb d_Bus_memory_0 rfl (lv_at hl 1 rfl) ?_
  refine mk_calli (X := [(aB, .inr (3, [.ref aM, .ref aR, .int (nI sl), .int sv, .int iv, .int ug])), (aM, .inr (2, [.ref aW, .int wb])), (aW, .inl (cI, 32, .inl mw))]) (pl := []) (wc := []) (wr := [(aB, .inr (3, [.ref aM, .ref aR, .int (nI sl), .int sv, .int iv, .int ug])), (aM, .inr (2, [.ref aW, .int wb])), (aW, .inl (cI, 32, .inl mw))]) (w1 := []) (X1 := [(aB, .inr (3, [.ref aM, .ref aR, .int (nI sl), .int sv, .int iv, .int ug])), (aM, .inr (2, [.ref aW, .int wb])), (aW, .inl (cI, 32, .inl mw))]) hP hD hS hA [] [0, 1, 2] [0, 1, 2] rfl rfl rfl (by decide) (by decide) (by decide)
    (va_runS (As := [.int x]) (rest := []) ⟨hx, hb, hml, hown, hts⟩ (c_isAddress_0 l D cI cO x (by first | assumption | omega) H.size) ⟨callB_of 1 hts g_Bus_isAddress rfl rfl rfl (hts _ iw_39) (hts _ iw_79) (by decide +kernel) ⟨by decide, by decide⟩, hts _ iw_85⟩ (mk_preS (X := [(aB, .inr (3, [.ref aM, .ref aR, .int (nI sl), .int sv, .int iv, .int ug])), (aM, .inr (2, [.ref aW, .int wb])), (aW, .inl (cI, 32, .inl mw))]) (pl := []) hN hK hP hD [] (by decide) rfl) rfl rfl hl.1 rfl (lv_room (Nat.le_of_ble_eq_true rfl)) d_Bus_memory_1 ⟨Nat.le_refl _, Nat.le_refl _⟩) (fun H locs hP hD hS => ?_)
  have hP : va_P D vwCl [(aB, .inr (3, [.ref aM, .ref aR, .int (nI sl), .int sv, .int iv, .int ug])), (aM, .inr (2, [.ref aW, .int wb])), (aW, .inl (cI, 32, .inl mw))] H := hP
  have hD : va_D A [(aB, .inr (3, [.ref aM, .ref aR, .int (nI sl), .int sv, .int iv, .int ug])), (aM, .inr (2, [.ref aW, .int wb])), (aW, .inl (cI, 32, .inl mw))] := hD
  refine lv_if_eq (tgt := 19) hx hb d_Bus_memory_4 rfl (fun _ => ?_) (fun h => absurd (by decide) h)
  refine lv_iconst (v := nI 0) hx hb d_Bus_memory_19 (by decide) ?_
  exact mk_iret hx hb hr hlocks hK hP hD hS d_Bus_memory_20 rfl rfl
set_option maxRecDepth 100000 in
set_option maxHeartbeats 4000000 in
theorem c_memory_1 (l : Launch) (D : va_G) (cI cO : ClassId) (aB aM aR n sl : Nat) (sv iv ug : Int32) (g : Nat → Option Nat) (aW : Nat) (wb : Int32) (mw : Nat → Int32) (j : Nat) (hj : j < 32) : mk_M l y_Bus_memory w_Bus_memory ({ frames := 1, cells := 0, slots := 0, locals := 20 } : Room) D (tysK cI cO) [.ref aB, .int (nI j)] [(aB, .inr (3, [.ref aM, .ref aR, .int (nI sl), .int sv, .int iv, .int ug])), (aM, .inr (2, [.ref aW, .int wb])), (aW, .inl (cI, 32, .inl mw))] (mk_Qi D (tysK cI cO) (mw j) [(aB, .inr (3, [.ref aM, .ref aR, .int (nI sl), .int sv, .int iv, .int ug])), (aM, .inr (2, [.ref aW, .int wb])), (aW, .inl (cI, 32, .inl mw))]) := by
  refine mk_start (cc := b_Bus_memory) (maxL := 2) (ret := (some FieldType.int)) (by decide) (Nat.le_of_ble_eq_true rfl) (fun p e s m below meth c A ls H locs hx hb hml hr hlocks hnm hts hN hown hK hP hD hA hl hS => ?_)
  have hl : lv_has ls 2 [(0, .ref aB), (1, .int (nI j))] := hl
  refine lv_iload_n hx hb d_Bus_memory_0 rfl (lv_at hl 1 rfl) ?_
  refine mk_calli (X := [(aB, .inr (3, [.ref aM, .ref aR, .int (nI sl), .int sv, .int iv, .int ug])), (aM, .inr (2, [.ref aW, .int wb])), (aW, .inl (cI, 32, .inl mw))]) (pl := []) (wc := []) (wr := [(aB, .inr (3, [.ref aM, .ref aR, .int (nI sl), .int sv, .int iv, .int ug])), (aM, .inr (2, [.ref aW, .int wb])), (aW, .inl (cI, 32, .inl mw))]) (w1 := []) (X1 := [(aB, .inr (3, [.ref aM, .ref aR, .int (nI sl), .int sv, .int iv, .int ug])), (aM, .inr (2, [.ref aW, .int wb])), (aW, .inl (cI, 32, .inl mw))]) hP hD hS hA [] [0, 1, 2] [0, 1, 2] rfl rfl rfl (by decide) (by decide) (by decide)
    (va_runS (As := [.int (nI j)]) (rest := []) ⟨hx, hb, hml, hown, hts⟩ (c_isAddress_1 l D cI cO j (by first | assumption | omega) H.size) ⟨callB_of 1 hts g_Bus_isAddress rfl rfl rfl (hts _ iw_39) (hts _ iw_79) (by decide +kernel) ⟨by decide, by decide⟩, hts _ iw_85⟩ (mk_preS (X := [(aB, .inr (3, [.ref aM, .ref aR, .int (nI sl), .int sv, .int iv, .int ug])), (aM, .inr (2, [.ref aW, .int wb])), (aW, .inl (cI, 32, .inl mw))]) (pl := []) hN hK hP hD [] (by decide) rfl) rfl rfl hl.1 rfl (lv_room (Nat.le_of_ble_eq_true rfl)) d_Bus_memory_1 ⟨Nat.le_refl _, Nat.le_refl _⟩) (fun H locs hP hD hS => ?_)
  have hP : va_P D vwCl [(aB, .inr (3, [.ref aM, .ref aR, .int (nI sl), .int sv, .int iv, .int ug])), (aM, .inr (2, [.ref aW, .int wb])), (aW, .inl (cI, 32, .inl mw))] H := hP
  have hD : va_D A [(aB, .inr (3, [.ref aM, .ref aR, .int (nI sl), .int sv, .int iv, .int ug])), (aM, .inr (2, [.ref aW, .int wb])), (aW, .inl (cI, 32, .inl mw))] := hD
  refine lv_if_eq (tgt := 19) hx hb d_Bus_memory_4 rfl (fun h => absurd h (by decide)) (fun _ => ?_)
  refine lv_aload_n hx hb d_Bus_memory_7 rfl (lv_at hl 0 rfl) ?_
  refine va_get (D := D) (ci := 3) (v := .ref aM) (C := R_Bus) (T := T_Bus) (N := 6) hx hb hts in_Bus hown hK hP 0 rfl rfl 0 (by decide) (hts _ iw_49) (fun _ h9 => h9) rfl d_Bus_memory_8 ?_
  refine va_getN (D := D) (ci := 2) (v := .ref aW) (C := R_Mem) (T := T_Mem) (N := 2) hx hb hts in_Mem hown hK hP 1 rfl rfl 0 (by decide) (va_Nw.use rfl (hN _ in_w31)) (fun _ h9 => h9) rfl d_Bus_memory_11 ?_
  refine lv_iload_n hx hb d_Bus_memory_14 rfl (lv_at hl 1 rfl) ?_
  refine mk_iald hx hb hK hP 2 0 rfl rfl (j := j) (by omega) (by decide) d_Bus_memory_15 ?_
  refine lv_goto (tgt := 20) hx hb d_Bus_memory_16 rfl ?_
  exact mk_iret hx hb hr hlocks hK hP hD hS d_Bus_memory_20 rfl rfl
set_option maxRecDepth 100000 in
set_option maxHeartbeats 4000000 in
theorem c_count_0 (l : Launch) (D : va_G) (cI cO : ClassId) (aB aM aR n sl : Nat) (sv iv ug : Int32) (g : Nat → Option Nat) (aW : Nat) (wb : Int32) : mk_M l y_Bus_count w_Bus_count ({ frames := 0, cells := 0, slots := 0, locals := 0 } : Room) D (tysK cI cO) [.ref aB, .int (nI 0)] [(aB, .inr (3, [.ref aM, .ref aR, .int (nI sl), .int sv, .int iv, .int ug])), (aM, .inr (2, [.ref aW, .int wb]))] (mk_Qi D (tysK cI cO) sv [(aB, .inr (3, [.ref aM, .ref aR, .int (nI sl), .int sv, .int iv, .int ug])), (aM, .inr (2, [.ref aW, .int wb]))]) := by
  refine mk_start (cc := b_Bus_count) (maxL := 2) (ret := (some FieldType.int)) (by decide) (Nat.le_of_ble_eq_true rfl) (fun p e s m below meth c A ls H locs hx hb hml hr hlocks hnm hts hN hown hK hP hD hA hl hS => ?_)
  have hl : lv_has ls 2 [(0, .ref aB), (1, .int (nI 0))] := hl
  refine lv_iload_n hx hb d_Bus_count_0 rfl (lv_at hl 1 rfl) ?_
  refine lv_tableIn (tgt := 32) hx hb d_Bus_count_1 (by decide) (by decide) rfl rfl ?_
  refine lv_aload_n hx hb d_Bus_count_32 rfl (lv_at hl 0 rfl) ?_
  refine va_get (D := D) (ci := 3) (v := .int sv) (C := R_Bus) (T := T_Bus) (N := 6) hx hb hts in_Bus hown hK hP 0 rfl rfl 3 (by decide) (hts _ iw_155) (fun _ h9 => h9) rfl d_Bus_count_33 ?_
  exact mk_iret hx hb hr hlocks hK hP hD hS d_Bus_count_36 rfl rfl
set_option maxRecDepth 100000 in
set_option maxHeartbeats 4000000 in
theorem c_count_1 (l : Launch) (D : va_G) (cI cO : ClassId) (aB aM aR n sl : Nat) (sv iv ug : Int32) (g : Nat → Option Nat) (aW : Nat) (wb : Int32) : mk_M l y_Bus_count w_Bus_count ({ frames := 0, cells := 0, slots := 0, locals := 0 } : Room) D (tysK cI cO) [.ref aB, .int (nI 1)] [(aB, .inr (3, [.ref aM, .ref aR, .int (nI sl), .int sv, .int iv, .int ug])), (aM, .inr (2, [.ref aW, .int wb]))] (mk_Qi D (tysK cI cO) wb [(aB, .inr (3, [.ref aM, .ref aR, .int (nI sl), .int sv, .int iv, .int ug])), (aM, .inr (2, [.ref aW, .int wb]))]) := by
  refine mk_start (cc := b_Bus_count) (maxL := 2) (ret := (some FieldType.int)) (by decide) (Nat.le_of_ble_eq_true rfl) (fun p e s m below meth c A ls H locs hx hb hml hr hlocks hnm hts hN hown hK hP hD hA hl hS => ?_)
  have hl : lv_has ls 2 [(0, .ref aB), (1, .int (nI 1))] := hl
  refine lv_iload_n hx hb d_Bus_count_0 rfl (lv_at hl 1 rfl) ?_
  refine lv_tableIn (tgt := 37) hx hb d_Bus_count_1 (by decide) (by decide) rfl rfl ?_
  refine lv_aload_n hx hb d_Bus_count_37 rfl (lv_at hl 0 rfl) ?_
  refine va_get (D := D) (ci := 3) (v := .ref aM) (C := R_Bus) (T := T_Bus) (N := 6) hx hb hts in_Bus hown hK hP 0 rfl rfl 0 (by decide) (hts _ iw_49) (fun _ h9 => h9) rfl d_Bus_count_38 ?_
  refine va_getN (D := D) (ci := 2) (v := .int wb) (C := R_Mem) (T := T_Mem) (N := 2) hx hb hts in_Mem hown hK hP 1 rfl rfl 1 (by decide) (va_Nw.use rfl (hN _ in_w32)) (fun _ h9 => h9) rfl d_Bus_count_41 ?_
  exact mk_iret hx hb hr hlocks hK hP hD hS d_Bus_count_44 rfl rfl
set_option maxRecDepth 100000 in
set_option maxHeartbeats 4000000 in
theorem c_count_2 (l : Launch) (D : va_G) (cI cO : ClassId) (aB aM aR n sl : Nat) (sv iv ug : Int32) (g : Nat → Option Nat) (aW : Nat) (wb : Int32) : mk_M l y_Bus_count w_Bus_count ({ frames := 0, cells := 0, slots := 0, locals := 0 } : Room) D (tysK cI cO) [.ref aB, .int (nI 2)] [(aB, .inr (3, [.ref aM, .ref aR, .int (nI sl), .int sv, .int iv, .int ug])), (aM, .inr (2, [.ref aW, .int wb]))] (mk_Qi D (tysK cI cO) iv [(aB, .inr (3, [.ref aM, .ref aR, .int (nI sl), .int sv, .int iv, .int ug])), (aM, .inr (2, [.ref aW, .int wb]))]) := by
  refine mk_start (cc := b_Bus_count) (maxL := 2) (ret := (some FieldType.int)) (by decide) (Nat.le_of_ble_eq_true rfl) (fun p e s m below meth c A ls H locs hx hb hml hr hlocks hnm hts hN hown hK hP hD hA hl hS => ?_)
  have hl : lv_has ls 2 [(0, .ref aB), (1, .int (nI 2))] := hl
  refine lv_iload_n hx hb d_Bus_count_0 rfl (lv_at hl 1 rfl) ?_
  refine lv_tableIn (tgt := 45) hx hb d_Bus_count_1 (by decide) (by decide) rfl rfl ?_
  refine lv_aload_n hx hb d_Bus_count_45 rfl (lv_at hl 0 rfl) ?_
  refine va_get (D := D) (ci := 3) (v := .int iv) (C := R_Bus) (T := T_Bus) (N := 6) hx hb hts in_Bus hown hK hP 0 rfl rfl 4 (by decide) (hts _ iw_191) (fun _ h9 => h9) rfl d_Bus_count_46 ?_
  exact mk_iret hx hb hr hlocks hK hP hD hS d_Bus_count_49 rfl rfl
set_option maxRecDepth 100000 in
set_option maxHeartbeats 4000000 in
theorem c_count_3 (l : Launch) (D : va_G) (cI cO : ClassId) (aB aM aR n sl : Nat) (sv iv ug : Int32) (g : Nat → Option Nat) (aW : Nat) (wb : Int32) : mk_M l y_Bus_count w_Bus_count ({ frames := 0, cells := 0, slots := 0, locals := 0 } : Room) D (tysK cI cO) [.ref aB, .int (nI 3)] [(aB, .inr (3, [.ref aM, .ref aR, .int (nI sl), .int sv, .int iv, .int ug])), (aM, .inr (2, [.ref aW, .int wb]))] (mk_Qi D (tysK cI cO) ug [(aB, .inr (3, [.ref aM, .ref aR, .int (nI sl), .int sv, .int iv, .int ug])), (aM, .inr (2, [.ref aW, .int wb]))]) := by
  refine mk_start (cc := b_Bus_count) (maxL := 2) (ret := (some FieldType.int)) (by decide) (Nat.le_of_ble_eq_true rfl) (fun p e s m below meth c A ls H locs hx hb hml hr hlocks hnm hts hN hown hK hP hD hA hl hS => ?_)
  have hl : lv_has ls 2 [(0, .ref aB), (1, .int (nI 3))] := hl
  refine lv_iload_n hx hb d_Bus_count_0 rfl (lv_at hl 1 rfl) ?_
  refine lv_tableIn (tgt := 50) hx hb d_Bus_count_1 (by decide) (by decide) rfl rfl ?_
  refine lv_aload_n hx hb d_Bus_count_50 rfl (lv_at hl 0 rfl) ?_
  refine va_get (D := D) (ci := 3) (v := .int ug) (C := R_Bus) (T := T_Bus) (N := 6) hx hb hts in_Bus hown hK hP 0 rfl rfl 5 (by decide) (hts _ iw_187) (fun _ h9 => h9) rfl d_Bus_count_51 ?_
  exact mk_iret hx hb hr hlocks hK hP hD hS d_Bus_count_54 rfl rfl
set_option maxRecDepth 100000 in
set_option maxHeartbeats 4000000 in
theorem c_count_b (l : Launch) (D : va_G) (cI cO : ClassId) (aB aM aR n sl : Nat) (sv iv ug : Int32) (g : Nat → Option Nat) (aW : Nat) (wb : Int32) (x : Int32) (hx0 : ¬ vp_in x 4) : mk_M l y_Bus_count w_Bus_count ({ frames := 0, cells := 0, slots := 0, locals := 0 } : Room) D (tysK cI cO) [.ref aB, .int x] [(aB, .inr (3, [.ref aM, .ref aR, .int (nI sl), .int sv, .int iv, .int ug])), (aM, .inr (2, [.ref aW, .int wb]))] (mk_Qi D (tysK cI cO) (-1) [(aB, .inr (3, [.ref aM, .ref aR, .int (nI sl), .int sv, .int iv, .int ug])), (aM, .inr (2, [.ref aW, .int wb]))]) := by
  refine mk_start (cc := b_Bus_count) (maxL := 2) (ret := (some FieldType.int)) (by decide) (Nat.le_of_ble_eq_true rfl) (fun p e s m below meth c A ls H locs hx hb hml hr hlocks hnm hts hN hown hK hP hD hA hl hS => ?_)
  have hl : lv_has ls 2 [(0, .ref aB), (1, .int x)] := hl
  refine lv_iload_n hx hb d_Bus_count_0 rfl (lv_at hl 1 rfl) ?_
  refine lv_tableOut (tgt := 55) hx hb d_Bus_count_1 (by have q := mt vp_in_iff.mpr hx0; omega) rfl ?_
  refine lv_iconst (v := (-1)) hx hb d_Bus_count_55 (by decide) ?_
  exact mk_iret hx hb hr hlocks hK hP hD hS d_Bus_count_56 rfl rfl
set_option maxRecDepth 100000 in
set_option maxHeartbeats 4000000 in
theorem c_victim_ok (l : Launch) (D : va_G) (cI cO : ClassId) (aB aM aR n sl : Nat) (sv iv ug : Int32) (g : Nat → Option Nat) (i : Nat) (aK aC b1 b2 k ra : Nat) (rk rw lw : Int32) (a1 a2 a3 wy : Nat) (us : Int32) (st ua : Nat → Int32) (z : Nat) (hn : n ≤ 4) (hi : i < n) (hg : g i = some aK) (hz : z < 2) (hw : wy < 4) : mk_M l y_Bus_victim w_Bus_victim ({ frames := 2, cells := 0, slots := 0, locals := 45 } : Room) D (tysK cI cO) [.ref aB, .int (nI i), .int (nI z)] [(aB, .inr (3, [.ref aM, .ref aR, .int (nI sl), .int sv, .int iv, .int ug])), (aR, .inl (cO, n, .inr (.inr (.inr (.inr g))))), (aK, .inr (1, [.ref aC, .ref b1, .ref b2, .int (nI k), .int rk, .int (nI ra), .int rw, .int lw])), (aC, .inr (0, [.ref aM, .int (nI wy), .ref a1, .ref a2, .ref a3, .int us])), (a1, .inl (cI, 8, .inl st)), (a2, .inl (cI, 8, .inl ua))] (mk_Qi D (tysK cI cO) (cl_on (cl_leave st ua wy z)) [(aB, .inr (3, [.ref aM, .ref aR, .int (nI sl), .int sv, .int iv, .int ug])), (aR, .inl (cO, n, .inr (.inr (.inr (.inr g))))), (aK, .inr (1, [.ref aC, .ref b1, .ref b2, .int (nI k), .int rk, .int (nI ra), .int rw, .int lw])), (aC, .inr (0, [.ref aM, .int (nI wy), .ref a1, .ref a2, .ref a3, .int us])), (a1, .inl (cI, 8, .inl st)), (a2, .inl (cI, 8, .inl ua))]) := by
  refine mk_start (cc := b_Bus_victim) (maxL := 4) (ret := (some FieldType.int)) (by decide) (Nat.le_of_ble_eq_true rfl) (fun p e s m below meth c A ls H locs hx hb hml hr hlocks hnm hts hN hown hK hP hD hA hl hS => ?_)
  have hl : lv_has ls 4 [(0, .ref aB), (1, .int (nI i)), (2, .int (nI z))] := hl
  refine lv_aload_n hx hb d_Bus_victim_0 rfl (lv_at hl 0 rfl) ?_
  refine lv_iload_n hx hb d_Bus_victim_1 rfl (lv_at hl 1 rfl) ?_
  refine mk_calli (X := [(aB, .inr (3, [.ref aM, .ref aR, .int (nI sl), .int sv, .int iv, .int ug])), (aR, .inl (cO, n, .inr (.inr (.inr (.inr g))))), (aK, .inr (1, [.ref aC, .ref b1, .ref b2, .int (nI k), .int rk, .int (nI ra), .int rw, .int lw])), (aC, .inr (0, [.ref aM, .int (nI wy), .ref a1, .ref a2, .ref a3, .int us])), (a1, .inl (cI, 8, .inl st)), (a2, .inl (cI, 8, .inl ua))]) (pl := []) (wc := [(aB, .inr (3, [.ref aM, .ref aR, .int (nI sl), .int sv, .int iv, .int ug])), (aR, .inl (cO, n, .inr (.inr (.inr (.inr g)))))]) (wr := [(aK, .inr (1, [.ref aC, .ref b1, .ref b2, .int (nI k), .int rk, .int (nI ra), .int rw, .int lw])), (aC, .inr (0, [.ref aM, .int (nI wy), .ref a1, .ref a2, .ref a3, .int us])), (a1, .inl (cI, 8, .inl st)), (a2, .inl (cI, 8, .inl ua))]) (w1 := [(aB, .inr (3, [.ref aM, .ref aR, .int (nI sl), .int sv, .int iv, .int ug])), (aR, .inl (cO, n, .inr (.inr (.inr (.inr g)))))]) (X1 := [(aB, .inr (3, [.ref aM, .ref aR, .int (nI sl), .int sv, .int iv, .int ug])), (aR, .inl (cO, n, .inr (.inr (.inr (.inr g))))), (aK, .inr (1, [.ref aC, .ref b1, .ref b2, .int (nI k), .int rk, .int (nI ra), .int rw, .int lw])), (aC, .inr (0, [.ref aM, .int (nI wy), .ref a1, .ref a2, .ref a3, .int us])), (a1, .inl (cI, 8, .inl st)), (a2, .inl (cI, 8, .inl ua))]) hP hD hS hA [0, 1] [2, 3, 4, 5] [4, 5, 0, 1, 2, 3] rfl rfl rfl (by decide) (by decide) (by decide)
    (va_runV (b := aB) (As := [.int (nI i)]) (rest := []) ⟨hx, hb, hml, hown, hts⟩ (c_isCore_1 l D cI cO aB aM aR n sl sv iv ug g i (by first | assumption | omega) (by first | assumption | omega) H.size) ⟨callB_of 1 hts g_Bus_isCore rfl rfl rfl (hts _ iw_39) (hts _ iw_78) (by decide +kernel) ⟨by decide, by decide⟩, hts _ iw_82, hts _ iw_83⟩ (mk_preV (X := [(aB, .inr (3, [.ref aM, .ref aR, .int (nI sl), .int sv, .int iv, .int ug])), (aR, .inl (cO, n, .inr (.inr (.inr (.inr g))))), (aK, .inr (1, [.ref aC, .ref b1, .ref b2, .int (nI k), .int rk, .int (nI ra), .int rw, .int lw])), (aC, .inr (0, [.ref aM, .int (nI wy), .ref a1, .ref a2, .ref a3, .int us])), (a1, .inl (cI, 8, .inl st)), (a2, .inl (cI, 8, .inl ua))]) (pl := []) hN hK hP hD [0, 1] (by decide) rfl 0 rfl rfl rfl) rfl rfl hl.1 rfl (lv_room (Nat.le_of_ble_eq_true rfl)) d_Bus_victim_2 ⟨Nat.le_refl _, Nat.le_refl _⟩) (fun H locs hP hD hS => ?_)
  have hP : va_P D vwCl [(aB, .inr (3, [.ref aM, .ref aR, .int (nI sl), .int sv, .int iv, .int ug])), (aR, .inl (cO, n, .inr (.inr (.inr (.inr g))))), (aK, .inr (1, [.ref aC, .ref b1, .ref b2, .int (nI k), .int rk, .int (nI ra), .int rw, .int lw])), (aC, .inr (0, [.ref aM, .int (nI wy), .ref a1, .ref a2, .ref a3, .int us])), (a1, .inl (cI, 8, .inl st)), (a2, .inl (cI, 8, .inl ua))] H := hP
  have hD : va_D A [(aB, .inr (3, [.ref aM, .ref aR, .int (nI sl), .int sv, .int iv, .int ug])), (aR, .inl (cO, n, .inr (.inr (.inr (.inr g))))), (aK, .inr (1, [.ref aC, .ref b1, .ref b2, .int (nI k), .int rk, .int (nI ra), .int rw, .int lw])), (aC, .inr (0, [.ref aM, .int (nI wy), .ref a1, .ref a2, .ref a3, .int us])), (a1, .inl (cI, 8, .inl st)), (a2, .inl (cI, 8, .inl ua))] := hD
  refine lv_if_eq (tgt := 17) hx hb d_Bus_victim_5 rfl (fun h => absurd h (by decide)) (fun _ => ?_)
  refine lv_iload_n hx hb d_Bus_victim_8 rfl (lv_at hl 2 rfl) ?_
  refine lv_if_lt (tgt := 17) hx hb d_Bus_victim_9 rfl (fun h => absurd h (nI_pos (by omega))) (fun _ => ?_)
  refine lv_iload_n hx hb d_Bus_victim_12 rfl (lv_at hl 2 rfl) ?_
  refine lv_iconst (v := nI 2) hx hb d_Bus_victim_13 (by decide) ?_
  refine lv_icmp_lt (tgt := 19) hx hb d_Bus_victim_14 rfl (fun _ => ?_) (fun h => absurd ((nI_ltI (by omega) (by omega)).mpr (by omega)) h)
  refine lv_aload_n hx hb d_Bus_victim_19 rfl (lv_at hl 0 rfl) ?_
  refine va_get (D := D) (ci := 3) (v := .ref aR) (C := R_Bus) (T := T_Bus) (N := 6) hx hb hts in_Bus hown hK hP 0 rfl rfl 1 (by decide) (hts _ iw_53) (fun _ h9 => h9) rfl d_Bus_victim_20 ?_
  refine lv_iload_n hx hb d_Bus_victim_23 rfl (lv_at hl 1 rfl) ?_
  refine mk_aald hx hb hK hP 1 1 rfl rfl (j := i) (b := aK) (by omega) (by omega) hg d_Bus_victim_24 ?_
  refine va_getN (D := D) (ci := 1) (v := .ref aC) (C := R_Core) (T := T_Core) (N := 8) hx hb hts in_Core hown hK hP 2 rfl rfl 0 (by decide) (va_Nw.use rfl (hN _ in_w7)) (fun _ h9 => h9) rfl d_Bus_victim_25 ?_
  refine lv_iload_n hx hb d_Bus_victim_28 rfl (lv_at hl 2 rfl) ?_
  refine mk_calli (X := [(aB, .inr (3, [.ref aM, .ref aR, .int (nI sl), .int sv, .int iv, .int ug])), (aR, .inl (cO, n, .inr (.inr (.inr (.inr g))))), (aK, .inr (1, [.ref aC, .ref b1, .ref b2, .int (nI k), .int rk, .int (nI ra), .int rw, .int lw])), (aC, .inr (0, [.ref aM, .int (nI wy), .ref a1, .ref a2, .ref a3, .int us])), (a1, .inl (cI, 8, .inl st)), (a2, .inl (cI, 8, .inl ua))]) (pl := []) (wc := [(aC, .inr (0, [.ref aM, .int (nI wy), .ref a1, .ref a2, .ref a3, .int us])), (a1, .inl (cI, 8, .inl st)), (a2, .inl (cI, 8, .inl ua))]) (wr := [(aB, .inr (3, [.ref aM, .ref aR, .int (nI sl), .int sv, .int iv, .int ug])), (aR, .inl (cO, n, .inr (.inr (.inr (.inr g))))), (aK, .inr (1, [.ref aC, .ref b1, .ref b2, .int (nI k), .int rk, .int (nI ra), .int rw, .int lw]))]) (w1 := [(aC, .inr (0, [.ref aM, .int (nI wy), .ref a1, .ref a2, .ref a3, .int us])), (a1, .inl (cI, 8, .inl st)), (a2, .inl (cI, 8, .inl ua))]) (X1 := [(aB, .inr (3, [.ref aM, .ref aR, .int (nI sl), .int sv, .int iv, .int ug])), (aR, .inl (cO, n, .inr (.inr (.inr (.inr g))))), (aK, .inr (1, [.ref aC, .ref b1, .ref b2, .int (nI k), .int rk, .int (nI ra), .int rw, .int lw])), (aC, .inr (0, [.ref aM, .int (nI wy), .ref a1, .ref a2, .ref a3, .int us])), (a1, .inl (cI, 8, .inl st)), (a2, .inl (cI, 8, .inl ua))]) hP hD hS hA [3, 4, 5] [0, 1, 2] [0, 1, 2, 3, 4, 5] rfl rfl rfl (by decide) (by decide) (by decide)
    (va_runVN (b := aC) (As := [.int (nI z)]) (rest := []) ⟨hx, hb, hml, hown, hts⟩ (c_leave l D cI cO aC aM a1 a2 a3 wy us st ua z (by first | assumption | omega) (by first | assumption | omega) H.size) ⟨va_cnB 1 hts g_Cache_lineToLeave rfl rfl rfl (hN _ in_w33) (hts _ iw_40) (by decide +kernel) ⟨by decide, by decide⟩, hts _ iw_177, hts _ iw_178⟩ (mk_preV (X := [(aB, .inr (3, [.ref aM, .ref aR, .int (nI sl), .int sv, .int iv, .int ug])), (aR, .inl (cO, n, .inr (.inr (.inr (.inr g))))), (aK, .inr (1, [.ref aC, .ref b1, .ref b2, .int (nI k), .int rk, .int (nI ra), .int rw, .int lw])), (aC, .inr (0, [.ref aM, .int (nI wy), .ref a1, .ref a2, .ref a3, .int us])), (a1, .inl (cI, 8, .inl st)), (a2, .inl (cI, 8, .inl ua))]) (pl := []) hN hK hP hD [3, 4, 5] (by decide) rfl 3 rfl rfl rfl) rfl rfl hl.1 rfl (lv_room (Nat.le_of_ble_eq_true rfl)) d_Bus_victim_29 ⟨Nat.le_refl _, Nat.le_refl _⟩) (fun H locs hP hD hS => ?_)
  have hP : va_P D vwCl [(aB, .inr (3, [.ref aM, .ref aR, .int (nI sl), .int sv, .int iv, .int ug])), (aR, .inl (cO, n, .inr (.inr (.inr (.inr g))))), (aK, .inr (1, [.ref aC, .ref b1, .ref b2, .int (nI k), .int rk, .int (nI ra), .int rw, .int lw])), (aC, .inr (0, [.ref aM, .int (nI wy), .ref a1, .ref a2, .ref a3, .int us])), (a1, .inl (cI, 8, .inl st)), (a2, .inl (cI, 8, .inl ua))] H := hP
  have hD : va_D A [(aB, .inr (3, [.ref aM, .ref aR, .int (nI sl), .int sv, .int iv, .int ug])), (aR, .inl (cO, n, .inr (.inr (.inr (.inr g))))), (aK, .inr (1, [.ref aC, .ref b1, .ref b2, .int (nI k), .int rk, .int (nI ra), .int rw, .int lw])), (aC, .inr (0, [.ref aM, .int (nI wy), .ref a1, .ref a2, .ref a3, .int us])), (a1, .inl (cI, 8, .inl st)), (a2, .inl (cI, 8, .inl ua))] := hD
  refine lv_istore_n hx hb d_Bus_victim_32 rfl hl (by decide) rfl (fun ls hl => ?_)
  have hl : lv_has ls 4 [(3, .int (cl_on (cl_leave st ua wy z))), (0, .ref aB), (1, .int (nI i)), (2, .int (nI z))] := hl
  refine lv_iload_n hx hb d_Bus_victim_33 rfl (lv_at hl 0 rfl) ?_
  refine lv_iconst (v := (-1)) hx hb d_Bus_victim_34 (by decide) ?_
  refine lv_icmp_ne (tgt := 42) hx hb d_Bus_victim_35 rfl (fun h35 => ?_) (fun h35 => ?_)
  · refine lv_iload_n hx hb d_Bus_victim_42 rfl (lv_at hl 0 rfl) ?_
    exact mk_iret hx hb hr hlocks hK hP hD hS d_Bus_victim_43 rfl rfl
  · refine lv_iconst (v := (-1)) hx hb d_Bus_victim_38 (by decide) ?_
    refine lv_goto (tgt := 43) hx hb d_Bus_victim_39 rfl ?_
    exact mk_iret hx hb hr hlocks hK hP hD hS d_Bus_victim_43 h35.symm rfl
end
