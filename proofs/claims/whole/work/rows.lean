section
/-- a private method of a class that the tables say can be made, by its rows of tables_1 -/
def lw_okq (q : MethodName × Nat) : Prop := (q.1.cls ≠ "java/lang/invoke/MethodHandle" ∧ q.1.cls ≠ "java/lang/invoke/VarHandle") ∧ Cond.instantiable q.1.cls q.2 ∈ tables_1 ∧ Cond.privateMethod q.1 ∈ tables_1 ∧ Cond.instanceMethod q.1 ∈ tables_1
theorem lw_p0 : lw_okq (⟨"PausedFabric", "routeOf", "(III)[LPausedFabric$Port;"⟩, 11) := ⟨⟨by decide +kernel, by decide +kernel⟩, List.mem_of_getElem? (i := 10) (by decide +kernel), List.mem_of_getElem? (i := 157) (by decide +kernel), List.mem_of_getElem? (i := 158) (by decide +kernel)⟩
theorem lw_p1 : lw_okq (⟨"PausedFabric", "portBetween", "(II)LPausedFabric$Port;"⟩, 11) := ⟨⟨by decide +kernel, by decide +kernel⟩, List.mem_of_getElem? (i := 10) (by decide +kernel), List.mem_of_getElem? (i := 161) (by decide +kernel), List.mem_of_getElem? (i := 162) (by decide +kernel)⟩
theorem lw_p2 : lw_okq (⟨"PausedFabric", "flowAt", "(I)LPausedFabric$Flow;"⟩, 11) := ⟨⟨by decide +kernel, by decide +kernel⟩, List.mem_of_getElem? (i := 10) (by decide +kernel), List.mem_of_getElem? (i := 229) (by decide +kernel), List.mem_of_getElem? (i := 230) (by decide +kernel)⟩
theorem lw_p3 : lw_okq (⟨"PausedFabric", "makeTick", "()I"⟩, 11) := ⟨⟨by decide +kernel, by decide +kernel⟩, List.mem_of_getElem? (i := 10) (by decide +kernel), List.mem_of_getElem? (i := 295) (by decide +kernel), List.mem_of_getElem? (i := 296) (by decide +kernel)⟩
theorem lw_p4 : lw_okq (⟨"PausedFabric", "wasSo", "(I)Z"⟩, 11) := ⟨⟨by decide +kernel, by decide +kernel⟩, List.mem_of_getElem? (i := 10) (by decide +kernel), List.mem_of_getElem? (i := 299) (by decide +kernel), List.mem_of_getElem? (i := 300) (by decide +kernel)⟩
theorem lw_p5 : lw_okq (⟨"PausedFabric", "endSending", "(LPausedFabric$Port;)V"⟩, 11) := ⟨⟨by decide +kernel, by decide +kernel⟩, List.mem_of_getElem? (i := 10) (by decide +kernel), List.mem_of_getElem? (i := 303) (by decide +kernel), List.mem_of_getElem? (i := 304) (by decide +kernel)⟩
theorem lw_p6 : lw_okq (⟨"PausedFabric", "release", "(LPausedFabric$Frame;LPausedFabric$Port;)V"⟩, 11) := ⟨⟨by decide +kernel, by decide +kernel⟩, List.mem_of_getElem? (i := 10) (by decide +kernel), List.mem_of_getElem? (i := 307) (by decide +kernel), List.mem_of_getElem? (i := 308) (by decide +kernel)⟩
theorem lw_p7 : lw_okq (⟨"PausedFabric", "deliver", "(LPausedFabric$Port;)I"⟩, 11) := ⟨⟨by decide +kernel, by decide +kernel⟩, List.mem_of_getElem? (i := 10) (by decide +kernel), List.mem_of_getElem? (i := 324) (by decide +kernel), List.mem_of_getElem? (i := 325) (by decide +kernel)⟩
theorem lw_p8 : lw_okq (⟨"PausedFabric", "hasPlace", "(LPausedFabric$Port;LPausedFabric$Frame;)Z"⟩, 11) := ⟨⟨by decide +kernel, by decide +kernel⟩, List.mem_of_getElem? (i := 10) (by decide +kernel), List.mem_of_getElem? (i := 335) (by decide +kernel), List.mem_of_getElem? (i := 336) (by decide +kernel)⟩
theorem lw_p9 : lw_okq (⟨"PausedFabric", "hold", "(LPausedFabric$Port;LPausedFabric$Frame;)V"⟩, 11) := ⟨⟨by decide +kernel, by decide +kernel⟩, List.mem_of_getElem? (i := 10) (by decide +kernel), List.mem_of_getElem? (i := 339) (by decide +kernel), List.mem_of_getElem? (i := 340) (by decide +kernel)⟩
theorem lw_p10 : lw_okq (⟨"PausedFabric", "choose", "(LPausedFabric$Port;)V"⟩, 11) := ⟨⟨by decide +kernel, by decide +kernel⟩, List.mem_of_getElem? (i := 10) (by decide +kernel), List.mem_of_getElem? (i := 346) (by decide +kernel), List.mem_of_getElem? (i := 347) (by decide +kernel)⟩
theorem lw_p11 : lw_okq (⟨"PausedFabric", "readyFrame", "(LPausedFabric$Port;I)LPausedFabric$Frame;"⟩, 11) := ⟨⟨by decide +kernel, by decide +kernel⟩, List.mem_of_getElem? (i := 10) (by decide +kernel), List.mem_of_getElem? (i := 350) (by decide +kernel), List.mem_of_getElem? (i := 351) (by decide +kernel)⟩
theorem lw_p12 : lw_okq (⟨"PausedFabric", "beginSending", "(LPausedFabric$Port;LPausedFabric$Frame;)V"⟩, 11) := ⟨⟨by decide +kernel, by decide +kernel⟩, List.mem_of_getElem? (i := 10) (by decide +kernel), List.mem_of_getElem? (i := 354) (by decide +kernel), List.mem_of_getElem? (i := 355) (by decide +kernel)⟩
theorem lw_p13 : lw_okq (⟨"PausedFabric", "remember", "()V"⟩, 11) := ⟨⟨by decide +kernel, by decide +kernel⟩, List.mem_of_getElem? (i := 10) (by decide +kernel), List.mem_of_getElem? (i := 362) (by decide +kernel), List.mem_of_getElem? (i := 363) (by decide +kernel)⟩
theorem lw_p14 : lw_okq (⟨"PausedFabric", "frameAt", "(I)LPausedFabric$Frame;"⟩, 11) := ⟨⟨by decide +kernel, by decide +kernel⟩, List.mem_of_getElem? (i := 10) (by decide +kernel), List.mem_of_getElem? (i := 377) (by decide +kernel), List.mem_of_getElem? (i := 378) (by decide +kernel)⟩
theorem lw_p15 : lw_okq (⟨"PausedFabricModel", "isFlow", "(I)Z"⟩, 28) := ⟨⟨by decide +kernel, by decide +kernel⟩, List.mem_of_getElem? (i := 428) (by decide +kernel), List.mem_of_getElem? (i := 535) (by decide +kernel), List.mem_of_getElem? (i := 536) (by decide +kernel)⟩
def lw_privs_1 : List (MethodName × Nat) := [(⟨"PausedFabric", "routeOf", "(III)[LPausedFabric$Port;"⟩, 11), (⟨"PausedFabric", "portBetween", "(II)LPausedFabric$Port;"⟩, 11), (⟨"PausedFabric", "flowAt", "(I)LPausedFabric$Flow;"⟩, 11), (⟨"PausedFabric", "makeTick", "()I"⟩, 11), (⟨"PausedFabric", "wasSo", "(I)Z"⟩, 11), (⟨"PausedFabric", "endSending", "(LPausedFabric$Port;)V"⟩, 11), (⟨"PausedFabric", "release", "(LPausedFabric$Frame;LPausedFabric$Port;)V"⟩, 11), (⟨"PausedFabric", "deliver", "(LPausedFabric$Port;)I"⟩, 11), (⟨"PausedFabric", "hasPlace", "(LPausedFabric$Port;LPausedFabric$Frame;)Z"⟩, 11), (⟨"PausedFabric", "hold", "(LPausedFabric$Port;LPausedFabric$Frame;)V"⟩, 11), (⟨"PausedFabric", "choose", "(LPausedFabric$Port;)V"⟩, 11), (⟨"PausedFabric", "readyFrame", "(LPausedFabric$Port;I)LPausedFabric$Frame;"⟩, 11), (⟨"PausedFabric", "beginSending", "(LPausedFabric$Port;LPausedFabric$Frame;)V"⟩, 11), (⟨"PausedFabric", "remember", "()V"⟩, 11), (⟨"PausedFabric", "frameAt", "(I)LPausedFabric$Frame;"⟩, 11), (⟨"PausedFabricModel", "isFlow", "(I)Z"⟩, 28)]
theorem lw_r1 : ∀ q ∈ lw_privs_1, lw_okq q := List.forall_mem_cons.mpr ⟨lw_p0, List.forall_mem_cons.mpr ⟨lw_p1, List.forall_mem_cons.mpr ⟨lw_p2, List.forall_mem_cons.mpr ⟨lw_p3, List.forall_mem_cons.mpr ⟨lw_p4, List.forall_mem_cons.mpr ⟨lw_p5, List.forall_mem_cons.mpr ⟨lw_p6, List.forall_mem_cons.mpr ⟨lw_p7, List.forall_mem_cons.mpr ⟨lw_p8, List.forall_mem_cons.mpr ⟨lw_p9, List.forall_mem_cons.mpr ⟨lw_p10, List.forall_mem_cons.mpr ⟨lw_p11, List.forall_mem_cons.mpr ⟨lw_p12, List.forall_mem_cons.mpr ⟨lw_p13, List.forall_mem_cons.mpr ⟨lw_p14, List.forall_mem_cons.mpr ⟨lw_p15, fun _ h => absurd h List.not_mem_nil⟩⟩⟩⟩⟩⟩⟩⟩⟩⟩⟩⟩⟩⟩⟩⟩
theorem lw_p16 : lw_okq (⟨"PausedFabricModel", "enqueue", "(I)V"⟩, 28) := ⟨⟨by decide +kernel, by decide +kernel⟩, List.mem_of_getElem? (i := 428) (by decide +kernel), List.mem_of_getElem? (i := 539) (by decide +kernel), List.mem_of_getElem? (i := 540) (by decide +kernel)⟩
theorem lw_p17 : lw_okq (⟨"PausedFabricModel", "arrived", "()I"⟩, 28) := ⟨⟨by decide +kernel, by decide +kernel⟩, List.mem_of_getElem? (i := 428) (by decide +kernel), List.mem_of_getElem? (i := 547) (by decide +kernel), List.mem_of_getElem? (i := 548) (by decide +kernel)⟩
theorem lw_p18 : lw_okq (⟨"PausedFabricModel", "endSending", "()V"⟩, 28) := ⟨⟨by decide +kernel, by decide +kernel⟩, List.mem_of_getElem? (i := 428) (by decide +kernel), List.mem_of_getElem? (i := 551) (by decide +kernel), List.mem_of_getElem? (i := 552) (by decide +kernel)⟩
theorem lw_p19 : lw_okq (⟨"PausedFabricModel", "nodeAt", "(II)I"⟩, 28) := ⟨⟨by decide +kernel, by decide +kernel⟩, List.mem_of_getElem? (i := 428) (by decide +kernel), List.mem_of_getElem? (i := 555) (by decide +kernel), List.mem_of_getElem? (i := 556) (by decide +kernel)⟩
theorem lw_p20 : lw_okq (⟨"PausedFabricModel", "end", "(I)I"⟩, 28) := ⟨⟨by decide +kernel, by decide +kernel⟩, List.mem_of_getElem? (i := 428) (by decide +kernel), List.mem_of_getElem? (i := 559) (by decide +kernel), List.mem_of_getElem? (i := 560) (by decide +kernel)⟩
theorem lw_p21 : lw_okq (⟨"PausedFabricModel", "holds", "(III)I"⟩, 28) := ⟨⟨by decide +kernel, by decide +kernel⟩, List.mem_of_getElem? (i := 428) (by decide +kernel), List.mem_of_getElem? (i := 563) (by decide +kernel), List.mem_of_getElem? (i := 564) (by decide +kernel)⟩
theorem lw_p22 : lw_okq (⟨"PausedFabricModel", "slow", "(I)V"⟩, 28) := ⟨⟨by decide +kernel, by decide +kernel⟩, List.mem_of_getElem? (i := 428) (by decide +kernel), List.mem_of_getElem? (i := 567) (by decide +kernel), List.mem_of_getElem? (i := 568) (by decide +kernel)⟩
theorem lw_p23 : lw_okq (⟨"PausedFabricModel", "told", "(I)Z"⟩, 28) := ⟨⟨by decide +kernel, by decide +kernel⟩, List.mem_of_getElem? (i := 428) (by decide +kernel), List.mem_of_getElem? (i := 571) (by decide +kernel), List.mem_of_getElem? (i := 572) (by decide +kernel)⟩
theorem lw_p24 : lw_okq (⟨"PausedFabricModel", "arrivals", "()V"⟩, 28) := ⟨⟨by decide +kernel, by decide +kernel⟩, List.mem_of_getElem? (i := 428) (by decide +kernel), List.mem_of_getElem? (i := 575) (by decide +kernel), List.mem_of_getElem? (i := 576) (by decide +kernel)⟩
theorem lw_p25 : lw_okq (⟨"PausedFabricModel", "between", "(III)Z"⟩, 28) := ⟨⟨by decide +kernel, by decide +kernel⟩, List.mem_of_getElem? (i := 428) (by decide +kernel), List.mem_of_getElem? (i := 582) (by decide +kernel), List.mem_of_getElem? (i := 583) (by decide +kernel)⟩
theorem lw_p26 : lw_okq (⟨"PausedFabricModel", "arrive", "(III)V"⟩, 28) := ⟨⟨by decide +kernel, by decide +kernel⟩, List.mem_of_getElem? (i := 428) (by decide +kernel), List.mem_of_getElem? (i := 586) (by decide +kernel), List.mem_of_getElem? (i := 587) (by decide +kernel)⟩
theorem lw_p27 : lw_okq (⟨"PausedFabricModel", "queueLength", "(III)I"⟩, 28) := ⟨⟨by decide +kernel, by decide +kernel⟩, List.mem_of_getElem? (i := 428) (by decide +kernel), List.mem_of_getElem? (i := 590) (by decide +kernel), List.mem_of_getElem? (i := 591) (by decide +kernel)⟩
theorem lw_p28 : lw_okq (⟨"PausedFabricModel", "sends", "(II)Z"⟩, 28) := ⟨⟨by decide +kernel, by decide +kernel⟩, List.mem_of_getElem? (i := 428) (by decide +kernel), List.mem_of_getElem? (i := 594) (by decide +kernel), List.mem_of_getElem? (i := 595) (by decide +kernel)⟩
theorem lw_p29 : lw_okq (⟨"PausedFabricModel", "choose", "(II)V"⟩, 28) := ⟨⟨by decide +kernel, by decide +kernel⟩, List.mem_of_getElem? (i := 428) (by decide +kernel), List.mem_of_getElem? (i := 598) (by decide +kernel), List.mem_of_getElem? (i := 599) (by decide +kernel)⟩
theorem lw_p30 : lw_okq (⟨"PausedFabricModel", "ready", "(III)Z"⟩, 28) := ⟨⟨by decide +kernel, by decide +kernel⟩, List.mem_of_getElem? (i := 428) (by decide +kernel), List.mem_of_getElem? (i := 602) (by decide +kernel), List.mem_of_getElem? (i := 603) (by decide +kernel)⟩
theorem lw_p31 : lw_okq (⟨"PausedFabricModel", "first", "(III)I"⟩, 28) := ⟨⟨by decide +kernel, by decide +kernel⟩, List.mem_of_getElem? (i := 428) (by decide +kernel), List.mem_of_getElem? (i := 606) (by decide +kernel), List.mem_of_getElem? (i := 607) (by decide +kernel)⟩
def lw_privs_2 : List (MethodName × Nat) := [(⟨"PausedFabricModel", "enqueue", "(I)V"⟩, 28), (⟨"PausedFabricModel", "arrived", "()I"⟩, 28), (⟨"PausedFabricModel", "endSending", "()V"⟩, 28), (⟨"PausedFabricModel", "nodeAt", "(II)I"⟩, 28), (⟨"PausedFabricModel", "end", "(I)I"⟩, 28), (⟨"PausedFabricModel", "holds", "(III)I"⟩, 28), (⟨"PausedFabricModel", "slow", "(I)V"⟩, 28), (⟨"PausedFabricModel", "told", "(I)Z"⟩, 28), (⟨"PausedFabricModel", "arrivals", "()V"⟩, 28), (⟨"PausedFabricModel", "between", "(III)Z"⟩, 28), (⟨"PausedFabricModel", "arrive", "(III)V"⟩, 28), (⟨"PausedFabricModel", "queueLength", "(III)I"⟩, 28), (⟨"PausedFabricModel", "sends", "(II)Z"⟩, 28), (⟨"PausedFabricModel", "choose", "(II)V"⟩, 28), (⟨"PausedFabricModel", "ready", "(III)Z"⟩, 28), (⟨"PausedFabricModel", "first", "(III)I"⟩, 28)]
theorem lw_r2 : ∀ q ∈ lw_privs_2, lw_okq q := List.forall_mem_cons.mpr ⟨lw_p16, List.forall_mem_cons.mpr ⟨lw_p17, List.forall_mem_cons.mpr ⟨lw_p18, List.forall_mem_cons.mpr ⟨lw_p19, List.forall_mem_cons.mpr ⟨lw_p20, List.forall_mem_cons.mpr ⟨lw_p21, List.forall_mem_cons.mpr ⟨lw_p22, List.forall_mem_cons.mpr ⟨lw_p23, List.forall_mem_cons.mpr ⟨lw_p24, List.forall_mem_cons.mpr ⟨lw_p25, List.forall_mem_cons.mpr ⟨lw_p26, List.forall_mem_cons.mpr ⟨lw_p27, List.forall_mem_cons.mpr ⟨lw_p28, List.forall_mem_cons.mpr ⟨lw_p29, List.forall_mem_cons.mpr ⟨lw_p30, List.forall_mem_cons.mpr ⟨lw_p31, fun _ h => absurd h List.not_mem_nil⟩⟩⟩⟩⟩⟩⟩⟩⟩⟩⟩⟩⟩⟩⟩⟩
theorem lw_p32 : lw_okq (⟨"PausedFabricModel", "isPaused", "(II)Z"⟩, 28) := ⟨⟨by decide +kernel, by decide +kernel⟩, List.mem_of_getElem? (i := 428) (by decide +kernel), List.mem_of_getElem? (i := 610) (by decide +kernel), List.mem_of_getElem? (i := 611) (by decide +kernel)⟩
theorem lw_p33 : lw_okq (⟨"PausedFabricModel", "begin", "(II)V"⟩, 28) := ⟨⟨by decide +kernel, by decide +kernel⟩, List.mem_of_getElem? (i := 428) (by decide +kernel), List.mem_of_getElem? (i := 614) (by decide +kernel), List.mem_of_getElem? (i := 615) (by decide +kernel)⟩
theorem lw_p34 : lw_okq (⟨"PausedFabricModel", "isFrame", "(I)Z"⟩, 28) := ⟨⟨by decide +kernel, by decide +kernel⟩, List.mem_of_getElem? (i := 428) (by decide +kernel), List.mem_of_getElem? (i := 626) (by decide +kernel), List.mem_of_getElem? (i := 627) (by decide +kernel)⟩
theorem lw_p35 : lw_okq (⟨"PausedFabricModel", "countOf", "(II)I"⟩, 28) := ⟨⟨by decide +kernel, by decide +kernel⟩, List.mem_of_getElem? (i := 428) (by decide +kernel), List.mem_of_getElem? (i := 666) (by decide +kernel), List.mem_of_getElem? (i := 667) (by decide +kernel)⟩
def lw_privs_3 : List (MethodName × Nat) := [(⟨"PausedFabricModel", "isPaused", "(II)Z"⟩, 28), (⟨"PausedFabricModel", "begin", "(II)V"⟩, 28), (⟨"PausedFabricModel", "isFrame", "(I)Z"⟩, 28), (⟨"PausedFabricModel", "countOf", "(II)I"⟩, 28)]
theorem lw_r3 : ∀ q ∈ lw_privs_3, lw_okq q := List.forall_mem_cons.mpr ⟨lw_p32, List.forall_mem_cons.mpr ⟨lw_p33, List.forall_mem_cons.mpr ⟨lw_p34, List.forall_mem_cons.mpr ⟨lw_p35, fun _ h => absurd h List.not_mem_nil⟩⟩⟩⟩
def lw_privs : List (MethodName × Nat) := lw_privs_1 ++ (lw_privs_2 ++ (lw_privs_3))
def lw_tbl : List Cond := k2_sels lw_privs ++ tables_1
theorem lw_privs_ok : ∀ q ∈ lw_privs, lw_okq q := by
  show ∀ q ∈ lw_privs_1 ++ (lw_privs_2 ++ (lw_privs_3)), lw_okq q
  exact List.forall_mem_append.mpr ⟨lw_r1, List.forall_mem_append.mpr ⟨lw_r2, lw_r3⟩⟩
end
section
/-! names, words (by program) -/
def lw_gd : List Cond := lw_tbl.filter goodWord
theorem fb_tm {i : Nat} {c : Cond} (h : tables_1[i]? = some c) (hg : goodWord c = true) : c ∈ lw_gd := List.mem_filter.mpr ⟨List.mem_append_right _ (List.mem_of_getElem? h), hg⟩
theorem fb_tb {i : Nat} {c : Cond} (h : tables_1[i]? = some c) : c ∈ lw_tbl := List.mem_append_right _ (List.mem_of_getElem? h)
theorem fb_sm {i : Nat} {c : Cond} (h : (k2_sels lw_privs)[i]? = some c) (hg : goodWord c = true) : c ∈ lw_gd := List.mem_filter.mpr ⟨List.mem_append_left _ (List.mem_of_getElem? h), hg⟩
abbrev zb_X_init : ByteArray := prog_1_method_1_code
abbrev zy_X_init : MethodName := ⟨"PausedFabric", "<init>", "(IIII)V"⟩
abbrev zw_X_init : Cond := .code zy_X_init zb_X_init 5 none
theorem zc_X_init : zw_X_init ∈ lw_gd := fb_tm (i := 13) (by decide +kernel) (by decide +kernel)
theorem zc_O_init : (Cond.code Lib.objectInit ⟨#[0xb1]⟩ 1 none : Cond) ∈ lw_gd := fb_tm (i := 16) (by decide +kernel) (by decide +kernel)
abbrev zb_X_makePorts : ByteArray := prog_1_method_24_code
abbrev zy_X_makePorts : MethodName := ⟨"PausedFabric", "makePorts", "()[LPausedFabric$Port;"⟩
abbrev zw_X_makePorts : Cond := .code zy_X_makePorts zb_X_makePorts 4 (some (.array (.object "PausedFabric$Port")))
theorem zc_X_makePorts : zw_X_makePorts ∈ lw_gd := fb_tm (i := 19) (by decide +kernel) (by decide +kernel)
abbrev zb_X_areLinked : ByteArray := prog_1_method_23_code
abbrev zy_X_areLinked : MethodName := ⟨"PausedFabric", "areLinked", "(II)Z"⟩
abbrev zw_X_areLinked : Cond := .code zy_X_areLinked zb_X_areLinked 4 (some .boolean)
theorem zc_X_areLinked : zw_X_areLinked ∈ lw_gd := fb_tm (i := 24) (by decide +kernel) (by decide +kernel)
abbrev zb_J_min : ByteArray := prog_9_method_69_code
abbrev zy_J_min : MethodName := ⟨"java/lang/Math", "min", "(II)I"⟩
abbrev zw_J_min : Cond := .code zy_J_min zb_J_min 2 (some .int)
theorem zc_J_min : zw_J_min ∈ lw_gd := fb_tm (i := 27) (by decide +kernel) (by decide +kernel)
abbrev zb_J_max : ByteArray := prog_9_method_65_code
abbrev zy_J_max : MethodName := ⟨"java/lang/Math", "max", "(II)I"⟩
abbrev zw_J_max : Cond := .code zy_J_max zb_J_max 2 (some .int)
theorem zc_J_max : zw_J_max ∈ lw_gd := fb_tm (i := 30) (by decide +kernel) (by decide +kernel)
abbrev zb_X_isHost : ByteArray := prog_1_method_20_code
abbrev zy_X_isHost : MethodName := ⟨"PausedFabric", "isHost", "(I)Z"⟩
abbrev zw_X_isHost : Cond := .code zy_X_isHost zb_X_isHost 1 (some .boolean)
theorem zc_X_isHost : zw_X_isHost ∈ lw_gd := fb_tm (i := 33) (by decide +kernel) (by decide +kernel)
abbrev zb_X_leafOf : ByteArray := prog_1_method_22_code
abbrev zy_X_leafOf : MethodName := ⟨"PausedFabric", "leafOf", "(I)I"⟩
abbrev zw_X_leafOf : Cond := .code zy_X_leafOf zb_X_leafOf 1 (some .int)
theorem zc_X_leafOf : zw_X_leafOf ∈ lw_gd := fb_tm (i := 36) (by decide +kernel) (by decide +kernel)
abbrev zb_P_init : ByteArray := prog_5_method_1_code
abbrev zy_P_init : MethodName := ⟨"PausedFabric$Port", "<init>", "(II)V"⟩
abbrev zw_P_init : Cond := .code zy_P_init zb_P_init 3 none
theorem zc_P_init : zw_P_init ∈ lw_gd := fb_tm (i := 40) (by decide +kernel) (by decide +kernel)
abbrev zb_Q_init : ByteArray := prog_4_method_1_code
abbrev zy_Q_init : MethodName := ⟨"PausedFabric$FrameQueue", "<init>", "()V"⟩
abbrev zw_Q_init : Cond := .code zy_Q_init zb_Q_init 1 none
theorem zc_Q_init : zw_Q_init ∈ lw_gd := fb_tm (i := 47) (by decide +kernel) (by decide +kernel)
abbrev zb_X_nearest : ByteArray := prog_1_method_19_code
abbrev zy_X_nearest : MethodName := ⟨"PausedFabric", "nearest", "(III)I"⟩
abbrev zw_X_nearest : Cond := .code zy_X_nearest zb_X_nearest 3 (some .int)
theorem zc_X_nearest : zw_X_nearest ∈ lw_gd := fb_tm (i := 113) (by decide +kernel) (by decide +kernel)
abbrev zb_X_flow : ByteArray := prog_1_method_2_code
abbrev zy_X_flow : MethodName := ⟨"PausedFabric", "flow", "(III)I"⟩
abbrev zw_X_flow : Cond := .code zy_X_flow zb_X_flow 5 (some .int)
theorem zc_X_flow : zw_X_flow ∈ lw_gd := fb_tm (i := 151) (by decide +kernel) (by decide +kernel)
abbrev zb_X_isPriority : ByteArray := prog_1_method_21_code
abbrev zy_X_isPriority : MethodName := ⟨"PausedFabric", "isPriority", "(I)Z"⟩
abbrev zw_X_isPriority : Cond := .code zy_X_isPriority zb_X_isPriority 1 (some .boolean)
theorem zc_X_isPriority : zw_X_isPriority ∈ lw_gd := fb_tm (i := 154) (by decide +kernel) (by decide +kernel)
abbrev zb_X_routeOf : ByteArray := prog_1_method_28_code
abbrev zy_X_routeOf : MethodName := ⟨"PausedFabric", "routeOf", "(III)[LPausedFabric$Port;"⟩
abbrev zw_X_routeOf : Cond := .code zy_X_routeOf zb_X_routeOf 7 (some (.array (.object "PausedFabric$Port")))
theorem zc_X_routeOf : zw_X_routeOf ∈ lw_gd := fb_tm (i := 159) (by decide +kernel) (by decide +kernel)
abbrev zb_X_portBetween : ByteArray := prog_1_method_25_code
abbrev zy_X_portBetween : MethodName := ⟨"PausedFabric", "portBetween", "(II)LPausedFabric$Port;"⟩
abbrev zw_X_portBetween : Cond := .code zy_X_portBetween zb_X_portBetween 7 (some (.object "PausedFabric$Port"))
theorem zc_X_portBetween : zw_X_portBetween ∈ lw_gd := fb_tm (i := 163) (by decide +kernel) (by decide +kernel)
abbrev zb_J_bitCount : ByteArray := prog_8_method_49_code
abbrev zy_J_bitCount : MethodName := ⟨"java/lang/Integer", "bitCount", "(I)I"⟩
abbrev zw_J_bitCount : Cond := .code zy_J_bitCount zb_J_bitCount 1 (some .int)
theorem zc_J_bitCount : zw_J_bitCount ∈ lw_gd := fb_tm (i := 166) (by decide +kernel) (by decide +kernel)
abbrev zb_F_init : ByteArray := prog_2_method_1_code
abbrev zy_F_init : MethodName := ⟨"PausedFabric$Flow", "<init>", "(I[LPausedFabric$Port;)V"⟩
abbrev zw_F_init : Cond := .code zy_F_init zb_F_init 3 none
theorem zc_F_init : zw_F_init ∈ lw_gd := fb_tm (i := 172) (by decide +kernel) (by decide +kernel)
abbrev zb_X_share : ByteArray := prog_1_method_3_code
abbrev zy_X_share : MethodName := ⟨"PausedFabric", "share", "(II)Z"⟩
abbrev zw_X_share : Cond := .code zy_X_share zb_X_share 3 (some .boolean)
theorem zc_X_share : zw_X_share ∈ lw_gd := fb_tm (i := 223) (by decide +kernel) (by decide +kernel)
abbrev zb_X_inject : ByteArray := prog_1_method_4_code
abbrev zy_X_inject : MethodName := ⟨"PausedFabric", "inject", "(II)I"⟩
abbrev zw_X_inject : Cond := .code zy_X_inject zb_X_inject 6 (some .int)
theorem zc_X_inject : zw_X_inject ∈ lw_gd := fb_tm (i := 227) (by decide +kernel) (by decide +kernel)
abbrev zb_X_flowAt : ByteArray := prog_1_method_26_code
abbrev zy_X_flowAt : MethodName := ⟨"PausedFabric", "flowAt", "(I)LPausedFabric$Flow;"⟩
abbrev zw_X_flowAt : Cond := .code zy_X_flowAt zb_X_flowAt 2 (some (.object "PausedFabric$Flow"))
theorem zc_X_flowAt : zw_X_flowAt ∈ lw_gd := fb_tm (i := 231) (by decide +kernel) (by decide +kernel)
abbrev zb_K_init : ByteArray := prog_3_method_1_code
abbrev zy_K_init : MethodName := ⟨"PausedFabric$Frame", "<init>", "(ILPausedFabric$Flow;I)V"⟩
abbrev zw_K_init : Cond := .code zy_K_init zb_K_init 4 none
theorem zc_K_init : zw_K_init ∈ lw_gd := fb_tm (i := 235) (by decide +kernel) (by decide +kernel)
abbrev zb_X_enqueue : ByteArray := prog_1_method_40_code
abbrev zy_X_enqueue : MethodName := ⟨"PausedFabric", "enqueue", "(LPausedFabric$Frame;)I"⟩
abbrev zw_X_enqueue : Cond := .code zy_X_enqueue zb_X_enqueue 3 (some .int)
theorem zc_X_enqueue : zw_X_enqueue ∈ lw_gd := fb_tm (i := 281) (by decide +kernel) (by decide +kernel)
abbrev zb_F_portAt : ByteArray := prog_2_method_2_code
abbrev zy_F_portAt : MethodName := ⟨"PausedFabric$Flow", "portAt", "(I)LPausedFabric$Port;"⟩
abbrev zw_F_portAt : Cond := .code zy_F_portAt zb_F_portAt 2 (some (.object "PausedFabric$Port"))
theorem zc_F_portAt : zw_F_portAt ∈ lw_gd := fb_tm (i := 285) (by decide +kernel) (by decide +kernel)
abbrev zb_Q_add : ByteArray := prog_4_method_2_code
abbrev zy_Q_add : MethodName := ⟨"PausedFabric$FrameQueue", "add", "(LPausedFabric$Frame;)V"⟩
abbrev zw_Q_add : Cond := .code zy_Q_add zb_Q_add 2 none
theorem zc_Q_add : zw_Q_add ∈ lw_gd := fb_tm (i := 289) (by decide +kernel) (by decide +kernel)
abbrev zb_X_tick : ByteArray := prog_1_method_5_code
abbrev zy_X_tick : MethodName := ⟨"PausedFabric", "tick", "(I)I"⟩
abbrev zw_X_tick : Cond := .code zy_X_tick zb_X_tick 4 (some .int)
theorem zc_X_tick : zw_X_tick ∈ lw_gd := fb_tm (i := 293) (by decide +kernel) (by decide +kernel)
abbrev zb_X_makeTick : ByteArray := prog_1_method_29_code
abbrev zy_X_makeTick : MethodName := ⟨"PausedFabric", "makeTick", "()I"⟩
abbrev zw_X_makeTick : Cond := .code zy_X_makeTick zb_X_makeTick 6 (some .int)
theorem zc_X_makeTick : zw_X_makeTick ∈ lw_gd := fb_tm (i := 297) (by decide +kernel) (by decide +kernel)
abbrev zb_X_wasSo : ByteArray := prog_1_method_30_code
abbrev zy_X_wasSo : MethodName := ⟨"PausedFabric", "wasSo", "(I)Z"⟩
abbrev zw_X_wasSo : Cond := .code zy_X_wasSo zb_X_wasSo 2 (some .boolean)
theorem zc_X_wasSo : zw_X_wasSo ∈ lw_gd := fb_tm (i := 301) (by decide +kernel) (by decide +kernel)
abbrev zb_X_endSending : ByteArray := prog_1_method_33_code
abbrev zy_X_endSending : MethodName := ⟨"PausedFabric", "endSending", "(LPausedFabric$Port;)V"⟩
abbrev zw_X_endSending : Cond := .code zy_X_endSending zb_X_endSending 3 none
theorem zc_X_endSending : zw_X_endSending ∈ lw_gd := fb_tm (i := 305) (by decide +kernel) (by decide +kernel)
abbrev zb_X_release : ByteArray := prog_1_method_34_code
abbrev zy_X_release : MethodName := ⟨"PausedFabric", "release", "(LPausedFabric$Frame;LPausedFabric$Port;)V"⟩
abbrev zw_X_release : Cond := .code zy_X_release zb_X_release 4 none
theorem zc_X_release : zw_X_release ∈ lw_gd := fb_tm (i := 309) (by decide +kernel) (by decide +kernel)
abbrev zb_F_adjustRate : ByteArray := prog_2_method_4_code
abbrev zy_F_adjustRate : MethodName := ⟨"PausedFabric$Flow", "adjustRate", "(Z)V"⟩
abbrev zw_F_adjustRate : Cond := .code zy_F_adjustRate zb_F_adjustRate 2 none
theorem zc_F_adjustRate : zw_F_adjustRate ∈ lw_gd := fb_tm (i := 313) (by decide +kernel) (by decide +kernel)
abbrev zb_F_slowDown : ByteArray := prog_2_method_5_code
abbrev zy_F_slowDown : MethodName := ⟨"PausedFabric$Flow", "slowDown", "()V"⟩
abbrev zw_F_slowDown : Cond := .code zy_F_slowDown zb_F_slowDown 1 none
theorem zc_F_slowDown : zw_F_slowDown ∈ lw_gd := fb_tm (i := 317) (by decide +kernel) (by decide +kernel)
abbrev zb_F_recover : ByteArray := prog_2_method_6_code
abbrev zy_F_recover : MethodName := ⟨"PausedFabric$Flow", "recover", "()V"⟩
abbrev zw_F_recover : Cond := .code zy_F_recover zb_F_recover 1 none
theorem zc_F_recover : zw_F_recover ∈ lw_gd := fb_tm (i := 322) (by decide +kernel) (by decide +kernel)
abbrev zb_X_deliver : ByteArray := prog_1_method_35_code
abbrev zy_X_deliver : MethodName := ⟨"PausedFabric", "deliver", "(LPausedFabric$Port;)I"⟩
abbrev zw_X_deliver : Cond := .code zy_X_deliver zb_X_deliver 3 (some .int)
theorem zc_X_deliver : zw_X_deliver ∈ lw_gd := fb_tm (i := 326) (by decide +kernel) (by decide +kernel)
abbrev zb_Q_removeFirst : ByteArray := prog_4_method_3_code
abbrev zy_Q_removeFirst : MethodName := ⟨"PausedFabric$FrameQueue", "removeFirst", "()V"⟩
abbrev zw_Q_removeFirst : Cond := .code zy_Q_removeFirst zb_Q_removeFirst 2 none
theorem zc_Q_removeFirst : zw_Q_removeFirst ∈ lw_gd := fb_tm (i := 330) (by decide +kernel) (by decide +kernel)
abbrev zb_X_receive : ByteArray := prog_1_method_36_code
abbrev zy_X_receive : MethodName := ⟨"PausedFabric", "receive", "(LPausedFabric$Frame;)V"⟩
abbrev zw_X_receive : Cond := .code zy_X_receive zb_X_receive 2 none
theorem zc_X_receive : zw_X_receive ∈ lw_gd := fb_tm (i := 333) (by decide +kernel) (by decide +kernel)
abbrev zb_X_hasPlace : ByteArray := prog_1_method_38_code
abbrev zy_X_hasPlace : MethodName := ⟨"PausedFabric", "hasPlace", "(LPausedFabric$Port;LPausedFabric$Frame;)Z"⟩
abbrev zw_X_hasPlace : Cond := .code zy_X_hasPlace zb_X_hasPlace 5 (some .boolean)
theorem zc_X_hasPlace : zw_X_hasPlace ∈ lw_gd := fb_tm (i := 337) (by decide +kernel) (by decide +kernel)
abbrev zb_X_hold : ByteArray := prog_1_method_39_code
abbrev zy_X_hold : MethodName := ⟨"PausedFabric", "hold", "(LPausedFabric$Port;LPausedFabric$Frame;)V"⟩
abbrev zw_X_hold : Cond := .code zy_X_hold zb_X_hold 4 none
theorem zc_X_hold : zw_X_hold ∈ lw_gd := fb_tm (i := 341) (by decide +kernel) (by decide +kernel)
abbrev zb_X_drop : ByteArray := prog_1_method_37_code
abbrev zy_X_drop : MethodName := ⟨"PausedFabric", "drop", "(LPausedFabric$Frame;)V"⟩
abbrev zw_X_drop : Cond := .code zy_X_drop zb_X_drop 1 none
theorem zc_X_drop : zw_X_drop ∈ lw_gd := fb_tm (i := 344) (by decide +kernel) (by decide +kernel)
abbrev zb_X_choose : ByteArray := prog_1_method_41_code
abbrev zy_X_choose : MethodName := ⟨"PausedFabric", "choose", "(LPausedFabric$Port;)V"⟩
abbrev zw_X_choose : Cond := .code zy_X_choose zb_X_choose 7 none
theorem zc_X_choose : zw_X_choose ∈ lw_gd := fb_tm (i := 348) (by decide +kernel) (by decide +kernel)
abbrev zb_X_readyFrame : ByteArray := prog_1_method_42_code
abbrev zy_X_readyFrame : MethodName := ⟨"PausedFabric", "readyFrame", "(LPausedFabric$Port;I)LPausedFabric$Frame;"⟩
abbrev zw_X_readyFrame : Cond := .code zy_X_readyFrame zb_X_readyFrame 4 (some (.object "PausedFabric$Frame"))
theorem zc_X_readyFrame : zw_X_readyFrame ∈ lw_gd := fb_tm (i := 352) (by decide +kernel) (by decide +kernel)
abbrev zb_X_beginSending : ByteArray := prog_1_method_43_code
abbrev zy_X_beginSending : MethodName := ⟨"PausedFabric", "beginSending", "(LPausedFabric$Port;LPausedFabric$Frame;)V"⟩
abbrev zw_X_beginSending : Cond := .code zy_X_beginSending zb_X_beginSending 4 none
theorem zc_X_beginSending : zw_X_beginSending ∈ lw_gd := fb_tm (i := 356) (by decide +kernel) (by decide +kernel)
abbrev zb_F_waitFrom : ByteArray := prog_2_method_3_code
abbrev zy_F_waitFrom : MethodName := ⟨"PausedFabric$Flow", "waitFrom", "(II)V"⟩
abbrev zw_F_waitFrom : Cond := .code zy_F_waitFrom zb_F_waitFrom 3 none
theorem zc_F_waitFrom : zw_F_waitFrom ∈ lw_gd := fb_tm (i := 360) (by decide +kernel) (by decide +kernel)
abbrev zb_X_remember : ByteArray := prog_1_method_32_code
abbrev zy_X_remember : MethodName := ⟨"PausedFabric", "remember", "()V"⟩
abbrev zw_X_remember : Cond := .code zy_X_remember zb_X_remember 5 none
theorem zc_X_remember : zw_X_remember ∈ lw_gd := fb_tm (i := 364) (by decide +kernel) (by decide +kernel)
abbrev zb_X_withLatest : ByteArray := prog_1_method_31_code
abbrev zy_X_withLatest : MethodName := ⟨"PausedFabric", "withLatest", "(IZ)I"⟩
abbrev zw_X_withLatest : Cond := .code zy_X_withLatest zb_X_withLatest 3 (some .int)
theorem zc_X_withLatest : zw_X_withLatest ∈ lw_gd := fb_tm (i := 367) (by decide +kernel) (by decide +kernel)
abbrev zb_X_clock : ByteArray := prog_1_method_6_code
abbrev zy_X_clock : MethodName := ⟨"PausedFabric", "clock", "()I"⟩
abbrev zw_X_clock : Cond := .code zy_X_clock zb_X_clock 1 (some .int)
theorem zc_X_clock : zw_X_clock ∈ lw_gd := fb_tm (i := 371) (by decide +kernel) (by decide +kernel)
abbrev zb_X_state : ByteArray := prog_1_method_7_code
abbrev zy_X_state : MethodName := ⟨"PausedFabric", "state", "(I)I"⟩
abbrev zw_X_state : Cond := .code zy_X_state zb_X_state 3 (some .int)
theorem zc_X_state : zw_X_state ∈ lw_gd := fb_tm (i := 375) (by decide +kernel) (by decide +kernel)
abbrev zb_X_frameAt : ByteArray := prog_1_method_27_code
abbrev zy_X_frameAt : MethodName := ⟨"PausedFabric", "frameAt", "(I)LPausedFabric$Frame;"⟩
abbrev zw_X_frameAt : Cond := .code zy_X_frameAt zb_X_frameAt 2 (some (.object "PausedFabric$Frame"))
theorem zc_X_frameAt : zw_X_frameAt ∈ lw_gd := fb_tm (i := 379) (by decide +kernel) (by decide +kernel)
abbrev zb_X_node : ByteArray := prog_1_method_8_code
abbrev zy_X_node : MethodName := ⟨"PausedFabric", "node", "(I)I"⟩
abbrev zw_X_node : Cond := .code zy_X_node zb_X_node 3 (some .int)
theorem zc_X_node : zw_X_node ∈ lw_gd := fb_tm (i := 383) (by decide +kernel) (by decide +kernel)
abbrev zb_X_marked : ByteArray := prog_1_method_9_code
abbrev zy_X_marked : MethodName := ⟨"PausedFabric", "marked", "(I)Z"⟩
abbrev zw_X_marked : Cond := .code zy_X_marked zb_X_marked 3 (some .boolean)
theorem zc_X_marked : zw_X_marked ∈ lw_gd := fb_tm (i := 387) (by decide +kernel) (by decide +kernel)
abbrev zb_X_queued : ByteArray := prog_1_method_10_code
abbrev zy_X_queued : MethodName := ⟨"PausedFabric", "queued", "(III)I"⟩
abbrev zw_X_queued : Cond := .code zy_X_queued zb_X_queued 5 (some .int)
theorem zc_X_queued : zw_X_queued ∈ lw_gd := fb_tm (i := 391) (by decide +kernel) (by decide +kernel)
abbrev zb_X_held : ByteArray := prog_1_method_11_code
abbrev zy_X_held : MethodName := ⟨"PausedFabric", "held", "(III)I"⟩
abbrev zw_X_held : Cond := .code zy_X_held zb_X_held 5 (some .int)
theorem zc_X_held : zw_X_held ∈ lw_gd := fb_tm (i := 395) (by decide +kernel) (by decide +kernel)
abbrev zb_X_asks : ByteArray := prog_1_method_12_code
abbrev zy_X_asks : MethodName := ⟨"PausedFabric", "asks", "(II)Z"⟩
abbrev zw_X_asks : Cond := .code zy_X_asks zb_X_asks 4 (some .boolean)
theorem zc_X_asks : zw_X_asks ∈ lw_gd := fb_tm (i := 399) (by decide +kernel) (by decide +kernel)
abbrev zb_X_paused : ByteArray := prog_1_method_13_code
abbrev zy_X_paused : MethodName := ⟨"PausedFabric", "paused", "(II)Z"⟩
abbrev zw_X_paused : Cond := .code zy_X_paused zb_X_paused 4 (some .boolean)
theorem zc_X_paused : zw_X_paused ∈ lw_gd := fb_tm (i := 403) (by decide +kernel) (by decide +kernel)
abbrev zb_X_rate : ByteArray := prog_1_method_14_code
abbrev zy_X_rate : MethodName := ⟨"PausedFabric", "rate", "(I)I"⟩
abbrev zw_X_rate : Cond := .code zy_X_rate zb_X_rate 3 (some .int)
theorem zc_X_rate : zw_X_rate ∈ lw_gd := fb_tm (i := 407) (by decide +kernel) (by decide +kernel)
abbrev zb_X_alpha : ByteArray := prog_1_method_15_code
abbrev zy_X_alpha : MethodName := ⟨"PausedFabric", "alpha", "(I)I"⟩
abbrev zw_X_alpha : Cond := .code zy_X_alpha zb_X_alpha 3 (some .int)
theorem zc_X_alpha : zw_X_alpha ∈ lw_gd := fb_tm (i := 411) (by decide +kernel) (by decide +kernel)
abbrev zb_X_received : ByteArray := prog_1_method_16_code
abbrev zy_X_received : MethodName := ⟨"PausedFabric", "received", "(I)I"⟩
abbrev zw_X_received : Cond := .code zy_X_received zb_X_received 3 (some .int)
theorem zc_X_received : zw_X_received ∈ lw_gd := fb_tm (i := 415) (by decide +kernel) (by decide +kernel)
abbrev zb_X_dropped : ByteArray := prog_1_method_17_code
abbrev zy_X_dropped : MethodName := ⟨"PausedFabric", "dropped", "(I)I"⟩
abbrev zw_X_dropped : Cond := .code zy_X_dropped zb_X_dropped 3 (some .int)
theorem zc_X_dropped : zw_X_dropped ∈ lw_gd := fb_tm (i := 419) (by decide +kernel) (by decide +kernel)
abbrev zb_X_last : ByteArray := prog_1_method_18_code
abbrev zy_X_last : MethodName := ⟨"PausedFabric", "last", "(I)I"⟩
abbrev zw_X_last : Cond := .code zy_X_last zb_X_last 3 (some .int)
theorem zc_X_last : zw_X_last ∈ lw_gd := fb_tm (i := 423) (by decide +kernel) (by decide +kernel)
abbrev zb_L_cell : ByteArray := method_2_code
abbrev zy_L_cell : MethodName := ⟨"PausedFabricLaw", "cell", "([II)I"⟩
abbrev zw_L_cell : Cond := .code zy_L_cell zb_L_cell 2 (some .int)
theorem zc_L_cell : zw_L_cell ∈ lw_gd := fb_tm (i := 426) (by decide +kernel) (by decide +kernel)
abbrev zb_M_init : ByteArray := prog_7_method_1_code
abbrev zy_M_init : MethodName := ⟨"PausedFabricModel", "<init>", "(IIII)V"⟩
abbrev zw_M_init : Cond := .code zy_M_init zb_M_init 5 none
theorem zc_M_init : zw_M_init ∈ lw_gd := fb_tm (i := 431) (by decide +kernel) (by decide +kernel)
abbrev zb_M_nearest : ByteArray := prog_7_method_2_code
abbrev zy_M_nearest : MethodName := ⟨"PausedFabricModel", "nearest", "(III)I"⟩
abbrev zw_M_nearest : Cond := .code zy_M_nearest zb_M_nearest 3 (some .int)
theorem zc_M_nearest : zw_M_nearest ∈ lw_gd := fb_tm (i := 435) (by decide +kernel) (by decide +kernel)
abbrev zb_M_flow : ByteArray := prog_7_method_14_code
abbrev zy_M_flow : MethodName := ⟨"PausedFabricModel", "flow", "(III)I"⟩
abbrev zw_M_flow : Cond := .code zy_M_flow zb_M_flow 4 (some .int)
theorem zc_M_flow : zw_M_flow ∈ lw_gd := fb_tm (i := 525) (by decide +kernel) (by decide +kernel)
abbrev zb_M_share : ByteArray := prog_7_method_15_code
abbrev zy_M_share : MethodName := ⟨"PausedFabricModel", "share", "(II)Z"⟩
abbrev zw_M_share : Cond := .code zy_M_share zb_M_share 3 (some .boolean)
theorem zc_M_share : zw_M_share ∈ lw_gd := fb_tm (i := 529) (by decide +kernel) (by decide +kernel)
abbrev zb_M_inject : ByteArray := prog_7_method_17_code
abbrev zy_M_inject : MethodName := ⟨"PausedFabricModel", "inject", "(II)I"⟩
abbrev zw_M_inject : Cond := .code zy_M_inject zb_M_inject 3 (some .int)
theorem zc_M_inject : zw_M_inject ∈ lw_gd := fb_tm (i := 533) (by decide +kernel) (by decide +kernel)
abbrev zb_M_isFlow : ByteArray := prog_7_method_4_code
abbrev zy_M_isFlow : MethodName := ⟨"PausedFabricModel", "isFlow", "(I)Z"⟩
abbrev zw_M_isFlow : Cond := .code zy_M_isFlow zb_M_isFlow 2 (some .boolean)
theorem zc_M_isFlow : zw_M_isFlow ∈ lw_gd := fb_tm (i := 537) (by decide +kernel) (by decide +kernel)
abbrev zb_M_enqueue : ByteArray := prog_7_method_16_code
abbrev zy_M_enqueue : MethodName := ⟨"PausedFabricModel", "enqueue", "(I)V"⟩
abbrev zw_M_enqueue : Cond := .code zy_M_enqueue zb_M_enqueue 2 none
theorem zc_M_enqueue : zw_M_enqueue ∈ lw_gd := fb_tm (i := 541) (by decide +kernel) (by decide +kernel)
abbrev zb_M_tick : ByteArray := prog_7_method_26_code
abbrev zy_M_tick : MethodName := ⟨"PausedFabricModel", "tick", "(I)I"⟩
abbrev zw_M_tick : Cond := .code zy_M_tick zb_M_tick 5 (some .int)
theorem zc_M_tick : zw_M_tick ∈ lw_gd := fb_tm (i := 545) (by decide +kernel) (by decide +kernel)
abbrev zb_M_arrived : ByteArray := prog_7_method_27_code
abbrev zy_M_arrived : MethodName := ⟨"PausedFabricModel", "arrived", "()I"⟩
abbrev zw_M_arrived : Cond := .code zy_M_arrived zb_M_arrived 3 (some .int)
theorem zc_M_arrived : zw_M_arrived ∈ lw_gd := fb_tm (i := 549) (by decide +kernel) (by decide +kernel)
abbrev zb_M_endSending : ByteArray := prog_7_method_18_code
abbrev zy_M_endSending : MethodName := ⟨"PausedFabricModel", "endSending", "()V"⟩
abbrev zw_M_endSending : Cond := .code zy_M_endSending zb_M_endSending 5 none
theorem zc_M_endSending : zw_M_endSending ∈ lw_gd := fb_tm (i := 553) (by decide +kernel) (by decide +kernel)
abbrev zb_M_nodeAt : ByteArray := prog_7_method_7_code
abbrev zy_M_nodeAt : MethodName := ⟨"PausedFabricModel", "nodeAt", "(II)I"⟩
abbrev zw_M_nodeAt : Cond := .code zy_M_nodeAt zb_M_nodeAt 4 (some .int)
theorem zc_M_nodeAt : zw_M_nodeAt ∈ lw_gd := fb_tm (i := 557) (by decide +kernel) (by decide +kernel)
abbrev zb_M_end : ByteArray := prog_7_method_6_code
abbrev zy_M_end : MethodName := ⟨"PausedFabricModel", "end", "(I)I"⟩
abbrev zw_M_end : Cond := .code zy_M_end zb_M_end 2 (some .int)
theorem zc_M_end : zw_M_end ∈ lw_gd := fb_tm (i := 561) (by decide +kernel) (by decide +kernel)
abbrev zb_M_holds : ByteArray := prog_7_method_12_code
abbrev zy_M_holds : MethodName := ⟨"PausedFabricModel", "holds", "(III)I"⟩
abbrev zw_M_holds : Cond := .code zy_M_holds zb_M_holds 9 (some .int)
theorem zc_M_holds : zw_M_holds ∈ lw_gd := fb_tm (i := 565) (by decide +kernel) (by decide +kernel)
abbrev zb_M_slow : ByteArray := prog_7_method_20_code
abbrev zy_M_slow : MethodName := ⟨"PausedFabricModel", "slow", "(I)V"⟩
abbrev zw_M_slow : Cond := .code zy_M_slow zb_M_slow 3 none
theorem zc_M_slow : zw_M_slow ∈ lw_gd := fb_tm (i := 569) (by decide +kernel) (by decide +kernel)
abbrev zb_M_told : ByteArray := prog_7_method_19_code
abbrev zy_M_told : MethodName := ⟨"PausedFabricModel", "told", "(I)Z"⟩
abbrev zw_M_told : Cond := .code zy_M_told zb_M_told 4 (some .boolean)
theorem zc_M_told : zw_M_told ∈ lw_gd := fb_tm (i := 573) (by decide +kernel) (by decide +kernel)
abbrev zb_M_arrivals : ByteArray := prog_7_method_22_code
abbrev zy_M_arrivals : MethodName := ⟨"PausedFabricModel", "arrivals", "()V"⟩
abbrev zw_M_arrivals : Cond := .code zy_M_arrivals zb_M_arrivals 4 none
theorem zc_M_arrivals : zw_M_arrivals ∈ lw_gd := fb_tm (i := 577) (by decide +kernel) (by decide +kernel)
abbrev zb_M_isPort : ByteArray := prog_7_method_3_code
abbrev zy_M_isPort : MethodName := ⟨"PausedFabricModel", "isPort", "(II)Z"⟩
abbrev zw_M_isPort : Cond := .code zy_M_isPort zb_M_isPort 4 (some .boolean)
theorem zc_M_isPort : zw_M_isPort ∈ lw_gd := fb_tm (i := 580) (by decide +kernel) (by decide +kernel)
abbrev zb_M_between : ByteArray := prog_7_method_8_code
abbrev zy_M_between : MethodName := ⟨"PausedFabricModel", "between", "(III)Z"⟩
abbrev zw_M_between : Cond := .code zy_M_between zb_M_between 6 (some .boolean)
theorem zc_M_between : zw_M_between ∈ lw_gd := fb_tm (i := 584) (by decide +kernel) (by decide +kernel)
abbrev zb_M_arrive : ByteArray := prog_7_method_21_code
abbrev zy_M_arrive : MethodName := ⟨"PausedFabricModel", "arrive", "(III)V"⟩
abbrev zw_M_arrive : Cond := .code zy_M_arrive zb_M_arrive 8 none
theorem zc_M_arrive : zw_M_arrive ∈ lw_gd := fb_tm (i := 588) (by decide +kernel) (by decide +kernel)
abbrev zb_M_queueLength : ByteArray := prog_7_method_10_code
abbrev zy_M_queueLength : MethodName := ⟨"PausedFabricModel", "queueLength", "(III)I"⟩
abbrev zw_M_queueLength : Cond := .code zy_M_queueLength zb_M_queueLength 7 (some .int)
theorem zc_M_queueLength : zw_M_queueLength ∈ lw_gd := fb_tm (i := 592) (by decide +kernel) (by decide +kernel)
abbrev zb_M_sends : ByteArray := prog_7_method_11_code
abbrev zy_M_sends : MethodName := ⟨"PausedFabricModel", "sends", "(II)Z"⟩
abbrev zw_M_sends : Cond := .code zy_M_sends zb_M_sends 5 (some .boolean)
theorem zc_M_sends : zw_M_sends ∈ lw_gd := fb_tm (i := 596) (by decide +kernel) (by decide +kernel)
abbrev zb_M_choose : ByteArray := prog_7_method_24_code
abbrev zy_M_choose : MethodName := ⟨"PausedFabricModel", "choose", "(II)V"⟩
abbrev zw_M_choose : Cond := .code zy_M_choose zb_M_choose 13 none
theorem zc_M_choose : zw_M_choose ∈ lw_gd := fb_tm (i := 600) (by decide +kernel) (by decide +kernel)
abbrev zb_M_ready : ByteArray := prog_7_method_23_code
abbrev zy_M_ready : MethodName := ⟨"PausedFabricModel", "ready", "(III)Z"⟩
abbrev zw_M_ready : Cond := .code zy_M_ready zb_M_ready 5 (some .boolean)
theorem zc_M_ready : zw_M_ready ∈ lw_gd := fb_tm (i := 604) (by decide +kernel) (by decide +kernel)
abbrev zb_M_first : ByteArray := prog_7_method_9_code
abbrev zy_M_first : MethodName := ⟨"PausedFabricModel", "first", "(III)I"⟩
abbrev zw_M_first : Cond := .code zy_M_first zb_M_first 7 (some .int)
theorem zc_M_first : zw_M_first ∈ lw_gd := fb_tm (i := 608) (by decide +kernel) (by decide +kernel)
abbrev zb_M_isPaused : ByteArray := prog_7_method_13_code
abbrev zy_M_isPaused : MethodName := ⟨"PausedFabricModel", "isPaused", "(II)Z"⟩
abbrev zw_M_isPaused : Cond := .code zy_M_isPaused zb_M_isPaused 3 (some .boolean)
theorem zc_M_isPaused : zw_M_isPaused ∈ lw_gd := fb_tm (i := 612) (by decide +kernel) (by decide +kernel)
abbrev zb_M_begin : ByteArray := prog_7_method_25_code
abbrev zy_M_begin : MethodName := ⟨"PausedFabricModel", "begin", "(II)V"⟩
abbrev zw_M_begin : Cond := .code zy_M_begin zb_M_begin 4 none
theorem zc_M_begin : zw_M_begin ∈ lw_gd := fb_tm (i := 616) (by decide +kernel) (by decide +kernel)
abbrev zb_M_clock : ByteArray := prog_7_method_28_code
abbrev zy_M_clock : MethodName := ⟨"PausedFabricModel", "clock", "()I"⟩
abbrev zw_M_clock : Cond := .code zy_M_clock zb_M_clock 1 (some .int)
theorem zc_M_clock : zw_M_clock ∈ lw_gd := fb_tm (i := 620) (by decide +kernel) (by decide +kernel)
abbrev zb_M_state : ByteArray := prog_7_method_29_code
abbrev zy_M_state : MethodName := ⟨"PausedFabricModel", "state", "(I)I"⟩
abbrev zw_M_state : Cond := .code zy_M_state zb_M_state 2 (some .int)
theorem zc_M_state : zw_M_state ∈ lw_gd := fb_tm (i := 624) (by decide +kernel) (by decide +kernel)
abbrev zb_M_isFrame : ByteArray := prog_7_method_5_code
abbrev zy_M_isFrame : MethodName := ⟨"PausedFabricModel", "isFrame", "(I)Z"⟩
abbrev zw_M_isFrame : Cond := .code zy_M_isFrame zb_M_isFrame 2 (some .boolean)
theorem zc_M_isFrame : zw_M_isFrame ∈ lw_gd := fb_tm (i := 628) (by decide +kernel) (by decide +kernel)
abbrev zb_M_node : ByteArray := prog_7_method_30_code
abbrev zy_M_node : MethodName := ⟨"PausedFabricModel", "node", "(I)I"⟩
abbrev zw_M_node : Cond := .code zy_M_node zb_M_node 2 (some .int)
theorem zc_M_node : zw_M_node ∈ lw_gd := fb_tm (i := 632) (by decide +kernel) (by decide +kernel)
abbrev zb_M_marked : ByteArray := prog_7_method_31_code
abbrev zy_M_marked : MethodName := ⟨"PausedFabricModel", "marked", "(I)Z"⟩
abbrev zw_M_marked : Cond := .code zy_M_marked zb_M_marked 2 (some .boolean)
theorem zc_M_marked : zw_M_marked ∈ lw_gd := fb_tm (i := 636) (by decide +kernel) (by decide +kernel)
abbrev zb_M_queued : ByteArray := prog_7_method_32_code
abbrev zy_M_queued : MethodName := ⟨"PausedFabricModel", "queued", "(III)I"⟩
abbrev zw_M_queued : Cond := .code zy_M_queued zb_M_queued 4 (some .int)
theorem zc_M_queued : zw_M_queued ∈ lw_gd := fb_tm (i := 640) (by decide +kernel) (by decide +kernel)
abbrev zb_M_held : ByteArray := prog_7_method_33_code
abbrev zy_M_held : MethodName := ⟨"PausedFabricModel", "held", "(III)I"⟩
abbrev zw_M_held : Cond := .code zy_M_held zb_M_held 4 (some .int)
theorem zc_M_held : zw_M_held ∈ lw_gd := fb_tm (i := 644) (by decide +kernel) (by decide +kernel)
abbrev zb_M_asks : ByteArray := prog_7_method_34_code
abbrev zy_M_asks : MethodName := ⟨"PausedFabricModel", "asks", "(II)Z"⟩
abbrev zw_M_asks : Cond := .code zy_M_asks zb_M_asks 3 (some .boolean)
theorem zc_M_asks : zw_M_asks ∈ lw_gd := fb_tm (i := 648) (by decide +kernel) (by decide +kernel)
abbrev zb_M_paused : ByteArray := prog_7_method_35_code
abbrev zy_M_paused : MethodName := ⟨"PausedFabricModel", "paused", "(II)Z"⟩
abbrev zw_M_paused : Cond := .code zy_M_paused zb_M_paused 3 (some .boolean)
theorem zc_M_paused : zw_M_paused ∈ lw_gd := fb_tm (i := 652) (by decide +kernel) (by decide +kernel)
abbrev zb_M_rate : ByteArray := prog_7_method_36_code
abbrev zy_M_rate : MethodName := ⟨"PausedFabricModel", "rate", "(I)I"⟩
abbrev zw_M_rate : Cond := .code zy_M_rate zb_M_rate 2 (some .int)
theorem zc_M_rate : zw_M_rate ∈ lw_gd := fb_tm (i := 656) (by decide +kernel) (by decide +kernel)
abbrev zb_M_alpha : ByteArray := prog_7_method_37_code
abbrev zy_M_alpha : MethodName := ⟨"PausedFabricModel", "alpha", "(I)I"⟩
abbrev zw_M_alpha : Cond := .code zy_M_alpha zb_M_alpha 2 (some .int)
theorem zc_M_alpha : zw_M_alpha ∈ lw_gd := fb_tm (i := 660) (by decide +kernel) (by decide +kernel)
abbrev zb_M_received : ByteArray := prog_7_method_39_code
abbrev zy_M_received : MethodName := ⟨"PausedFabricModel", "received", "(I)I"⟩
abbrev zw_M_received : Cond := .code zy_M_received zb_M_received 2 (some .int)
theorem zc_M_received : zw_M_received ∈ lw_gd := fb_tm (i := 664) (by decide +kernel) (by decide +kernel)
abbrev zb_M_countOf : ByteArray := prog_7_method_38_code
abbrev zy_M_countOf : MethodName := ⟨"PausedFabricModel", "countOf", "(II)I"⟩
abbrev zw_M_countOf : Cond := .code zy_M_countOf zb_M_countOf 5 (some .int)
theorem zc_M_countOf : zw_M_countOf ∈ lw_gd := fb_tm (i := 668) (by decide +kernel) (by decide +kernel)
abbrev zb_M_dropped : ByteArray := prog_7_method_40_code
abbrev zy_M_dropped : MethodName := ⟨"PausedFabricModel", "dropped", "(I)I"⟩
abbrev zw_M_dropped : Cond := .code zy_M_dropped zb_M_dropped 2 (some .int)
theorem zc_M_dropped : zw_M_dropped ∈ lw_gd := fb_tm (i := 672) (by decide +kernel) (by decide +kernel)
abbrev zb_M_last : ByteArray := prog_7_method_41_code
abbrev zy_M_last : MethodName := ⟨"PausedFabricModel", "last", "(I)I"⟩
abbrev zw_M_last : Cond := .code zy_M_last zb_M_last 5 (some .int)
theorem zc_M_last : zw_M_last ∈ lw_gd := fb_tm (i := 676) (by decide +kernel) (by decide +kernel)
abbrev zb_L_law : ByteArray := code
theorem zi_0 : (Cond.initialized "PausedFabricLaw" : Cond) ∈ lw_gd := fb_tm (i := 0) (by decide +kernel) (by decide +kernel)
theorem zi_1 : (Cond.initialized "PausedFabric" : Cond) ∈ lw_gd := fb_tm (i := 1) (by decide +kernel) (by decide +kernel)
theorem zi_2 : (Cond.initialized "java/lang/Math" : Cond) ∈ lw_gd := fb_tm (i := 2) (by decide +kernel) (by decide +kernel)
theorem zi_3 : (Cond.initialized "PausedFabric$Port" : Cond) ∈ lw_gd := fb_tm (i := 3) (by decide +kernel) (by decide +kernel)
theorem zi_4 : (Cond.initialized "PausedFabric$FrameQueue" : Cond) ∈ lw_gd := fb_tm (i := 4) (by decide +kernel) (by decide +kernel)
theorem zi_5 : (Cond.initialized "PausedFabricModel" : Cond) ∈ lw_gd := fb_tm (i := 5) (by decide +kernel) (by decide +kernel)
theorem zi_6 : (Cond.initialized "PausedFabric$Flow" : Cond) ∈ lw_gd := fb_tm (i := 6) (by decide +kernel) (by decide +kernel)
theorem zi_7 : (Cond.initialized "java/lang/Integer" : Cond) ∈ lw_gd := fb_tm (i := 7) (by decide +kernel) (by decide +kernel)
theorem zi_8 : (Cond.initialized "PausedFabric$Frame" : Cond) ∈ lw_gd := fb_tm (i := 8) (by decide +kernel) (by decide +kernel)
theorem zi_9 : (Cond.classLink "PausedFabricLaw" 7 "PausedFabric" : Cond) ∈ lw_gd := fb_tm (i := 9) (by decide +kernel) (by decide +kernel)
theorem zi_10 : (Cond.instantiable "PausedFabric" 11 : Cond) ∈ lw_gd := fb_tm (i := 10) (by decide +kernel) (by decide +kernel)
theorem zi_11 : (Cond.methodLink "PausedFabricLaw" 15 ⟨"PausedFabric", "<init>", "(IIII)V"⟩ : Cond) ∈ lw_gd := fb_tm (i := 11) (by decide +kernel) (by decide +kernel)
theorem zi_12 : (Cond.instanceMethod ⟨"PausedFabric", "<init>", "(IIII)V"⟩ : Cond) ∈ lw_gd := fb_tm (i := 12) (by decide +kernel) (by decide +kernel)
theorem zi_14 : (Cond.methodLink "PausedFabric" 1 ⟨"java/lang/Object", "<init>", "()V"⟩ : Cond) ∈ lw_gd := fb_tm (i := 14) (by decide +kernel) (by decide +kernel)
theorem zi_15 : (Cond.instanceMethod ⟨"java/lang/Object", "<init>", "()V"⟩ : Cond) ∈ lw_gd := fb_tm (i := 15) (by decide +kernel) (by decide +kernel)
theorem zi_17 : (Cond.methodLink "PausedFabric" 13 ⟨"PausedFabric", "makePorts", "()[LPausedFabric$Port;"⟩ : Cond) ∈ lw_gd := fb_tm (i := 17) (by decide +kernel) (by decide +kernel)
theorem zi_18 : (Cond.static ⟨"PausedFabric", "makePorts", "()[LPausedFabric$Port;"⟩ : Cond) ∈ lw_gd := fb_tm (i := 18) (by decide +kernel) (by decide +kernel)
theorem zi_20 : (Cond.classLink "PausedFabric" 107 "PausedFabric$Port" : Cond) ∈ lw_gd := fb_tm (i := 20) (by decide +kernel) (by decide +kernel)
theorem zj_21 : (Cond.arrayOver (.object "PausedFabric$Port") : Cond) ∈ lw_tbl := fb_tb (i := 21) (by decide +kernel)
theorem zi_22 : (Cond.methodLink "PausedFabric" 154 ⟨"PausedFabric", "areLinked", "(II)Z"⟩ : Cond) ∈ lw_gd := fb_tm (i := 22) (by decide +kernel) (by decide +kernel)
theorem zi_23 : (Cond.static ⟨"PausedFabric", "areLinked", "(II)Z"⟩ : Cond) ∈ lw_gd := fb_tm (i := 23) (by decide +kernel) (by decide +kernel)
theorem zi_25 : (Cond.methodLink "PausedFabric" 141 ⟨"java/lang/Math", "min", "(II)I"⟩ : Cond) ∈ lw_gd := fb_tm (i := 25) (by decide +kernel) (by decide +kernel)
theorem zi_26 : (Cond.static ⟨"java/lang/Math", "min", "(II)I"⟩ : Cond) ∈ lw_gd := fb_tm (i := 26) (by decide +kernel) (by decide +kernel)
theorem zi_28 : (Cond.methodLink "PausedFabric" 147 ⟨"java/lang/Math", "max", "(II)I"⟩ : Cond) ∈ lw_gd := fb_tm (i := 28) (by decide +kernel) (by decide +kernel)
theorem zi_29 : (Cond.static ⟨"java/lang/Math", "max", "(II)I"⟩ : Cond) ∈ lw_gd := fb_tm (i := 29) (by decide +kernel) (by decide +kernel)
theorem zi_31 : (Cond.methodLink "PausedFabric" 59 ⟨"PausedFabric", "isHost", "(I)Z"⟩ : Cond) ∈ lw_gd := fb_tm (i := 31) (by decide +kernel) (by decide +kernel)
theorem zi_32 : (Cond.static ⟨"PausedFabric", "isHost", "(I)Z"⟩ : Cond) ∈ lw_gd := fb_tm (i := 32) (by decide +kernel) (by decide +kernel)
theorem zi_34 : (Cond.methodLink "PausedFabric" 150 ⟨"PausedFabric", "leafOf", "(I)I"⟩ : Cond) ∈ lw_gd := fb_tm (i := 34) (by decide +kernel) (by decide +kernel)
theorem zi_35 : (Cond.static ⟨"PausedFabric", "leafOf", "(I)I"⟩ : Cond) ∈ lw_gd := fb_tm (i := 35) (by decide +kernel) (by decide +kernel)
theorem zi_37 : (Cond.instantiable "PausedFabric$Port" 11 : Cond) ∈ lw_gd := fb_tm (i := 37) (by decide +kernel) (by decide +kernel)
theorem zi_38 : (Cond.methodLink "PausedFabric" 158 ⟨"PausedFabric$Port", "<init>", "(II)V"⟩ : Cond) ∈ lw_gd := fb_tm (i := 38) (by decide +kernel) (by decide +kernel)
theorem zi_39 : (Cond.instanceMethod ⟨"PausedFabric$Port", "<init>", "(II)V"⟩ : Cond) ∈ lw_gd := fb_tm (i := 39) (by decide +kernel) (by decide +kernel)
theorem zi_41 : (Cond.methodLink "PausedFabric$Port" 1 ⟨"java/lang/Object", "<init>", "()V"⟩ : Cond) ∈ lw_gd := fb_tm (i := 41) (by decide +kernel) (by decide +kernel)
theorem zi_42 : (Cond.classLink "PausedFabric$Port" 7 "PausedFabric$FrameQueue" : Cond) ∈ lw_gd := fb_tm (i := 42) (by decide +kernel) (by decide +kernel)
theorem zj_43 : (Cond.arrayOver (.object "PausedFabric$FrameQueue") : Cond) ∈ lw_tbl := fb_tb (i := 43) (by decide +kernel)
theorem zi_44 : (Cond.instantiable "PausedFabric$FrameQueue" 3 : Cond) ∈ lw_gd := fb_tm (i := 44) (by decide +kernel) (by decide +kernel)
theorem zj_45 : (Cond.methodLinkNest "PausedFabric$Port" 9 ⟨"PausedFabric$FrameQueue", "<init>", "()V"⟩ "PausedFabric" : Cond) ∈ lw_tbl := fb_tb (i := 45) (by decide +kernel)
theorem zi_46 : (Cond.instanceMethod ⟨"PausedFabric$FrameQueue", "<init>", "()V"⟩ : Cond) ∈ lw_gd := fb_tm (i := 46) (by decide +kernel) (by decide +kernel)
theorem zi_48 : (Cond.methodLink "PausedFabric$FrameQueue" 1 ⟨"java/lang/Object", "<init>", "()V"⟩ : Cond) ∈ lw_gd := fb_tm (i := 48) (by decide +kernel) (by decide +kernel)
theorem zi_49 : (Cond.fieldLink "PausedFabric$FrameQueue" 7 "PausedFabric$FrameQueue" "first" "LPausedFabric$Frame;" : Cond) ∈ lw_gd := fb_tm (i := 49) (by decide +kernel) (by decide +kernel)
theorem zi_50 : (Cond.fieldLink "PausedFabric" 237 "PausedFabric$FrameQueue" "first" "LPausedFabric$Frame;" : Cond) ∈ lw_gd := fb_tm (i := 50) (by decide +kernel) (by decide +kernel)
theorem zi_51 : (Cond.fieldLink "PausedFabric$FrameQueue" 13 "PausedFabric$FrameQueue" "end" "LPausedFabric$Frame;" : Cond) ∈ lw_gd := fb_tm (i := 51) (by decide +kernel) (by decide +kernel)
theorem zi_52 : (Cond.fieldLink "PausedFabric$FrameQueue" 16 "PausedFabric$FrameQueue" "length" "I" : Cond) ∈ lw_gd := fb_tm (i := 52) (by decide +kernel) (by decide +kernel)
theorem zi_53 : (Cond.fieldLink "PausedFabric" 112 "PausedFabric$FrameQueue" "length" "I" : Cond) ∈ lw_gd := fb_tm (i := 53) (by decide +kernel) (by decide +kernel)
theorem zi_54 : (Cond.lays "PausedFabric$FrameQueue" "PausedFabric$FrameQueue" "first" "LPausedFabric$Frame;" : Cond) ∈ lw_gd := fb_tm (i := 54) (by decide +kernel) (by decide +kernel)
theorem zi_56 : (Cond.lays "PausedFabric$FrameQueue" "PausedFabric$FrameQueue" "end" "LPausedFabric$Frame;" : Cond) ∈ lw_gd := fb_tm (i := 56) (by decide +kernel) (by decide +kernel)
theorem zi_58 : (Cond.lays "PausedFabric$FrameQueue" "PausedFabric$FrameQueue" "length" "I" : Cond) ∈ lw_gd := fb_tm (i := 58) (by decide +kernel) (by decide +kernel)
theorem zi_61 : (Cond.arrayClass .int : Cond) ∈ lw_gd := fb_tm (i := 61) (by decide +kernel) (by decide +kernel)
theorem zi_62 : (Cond.fieldLink "PausedFabric$Port" 45 "PausedFabric$Port" "from" "I" : Cond) ∈ lw_gd := fb_tm (i := 62) (by decide +kernel) (by decide +kernel)
theorem zi_63 : (Cond.fieldLink "PausedFabric" 161 "PausedFabric$Port" "from" "I" : Cond) ∈ lw_gd := fb_tm (i := 63) (by decide +kernel) (by decide +kernel)
theorem zi_64 : (Cond.fieldLink "PausedFabric$Port" 48 "PausedFabric$Port" "to" "I" : Cond) ∈ lw_gd := fb_tm (i := 64) (by decide +kernel) (by decide +kernel)
theorem zi_65 : (Cond.fieldLink "PausedFabric" 164 "PausedFabric$Port" "to" "I" : Cond) ∈ lw_gd := fb_tm (i := 65) (by decide +kernel) (by decide +kernel)
theorem zi_66 : (Cond.fieldLink "PausedFabric$Port" 10 "PausedFabric$Port" "queues" "[LPausedFabric$FrameQueue;" : Cond) ∈ lw_gd := fb_tm (i := 66) (by decide +kernel) (by decide +kernel)
theorem zi_67 : (Cond.fieldLink "PausedFabric" 106 "PausedFabric$Port" "queues" "[LPausedFabric$FrameQueue;" : Cond) ∈ lw_gd := fb_tm (i := 67) (by decide +kernel) (by decide +kernel)
theorem zi_68 : (Cond.fieldLink "PausedFabric$Port" 16 "PausedFabric$Port" "credit" "[I" : Cond) ∈ lw_gd := fb_tm (i := 68) (by decide +kernel) (by decide +kernel)
theorem zi_69 : (Cond.fieldLink "PausedFabric" 274 "PausedFabric$Port" "credit" "[I" : Cond) ∈ lw_gd := fb_tm (i := 69) (by decide +kernel) (by decide +kernel)
theorem zi_70 : (Cond.fieldLink "PausedFabric$Port" 20 "PausedFabric$Port" "turn" "I" : Cond) ∈ lw_gd := fb_tm (i := 70) (by decide +kernel) (by decide +kernel)
theorem zi_71 : (Cond.fieldLink "PausedFabric" 267 "PausedFabric$Port" "turn" "I" : Cond) ∈ lw_gd := fb_tm (i := 71) (by decide +kernel) (by decide +kernel)
theorem zi_72 : (Cond.fieldLink "PausedFabric$Port" 24 "PausedFabric$Port" "sending" "LPausedFabric$Frame;" : Cond) ∈ lw_gd := fb_tm (i := 72) (by decide +kernel) (by decide +kernel)
theorem zi_73 : (Cond.fieldLink "PausedFabric" 206 "PausedFabric$Port" "sending" "LPausedFabric$Frame;" : Cond) ∈ lw_gd := fb_tm (i := 73) (by decide +kernel) (by decide +kernel)
theorem zi_74 : (Cond.fieldLink "PausedFabric$Port" 28 "PausedFabric$Port" "wire" "LPausedFabric$FrameQueue;" : Cond) ∈ lw_gd := fb_tm (i := 74) (by decide +kernel) (by decide +kernel)
theorem zi_75 : (Cond.fieldLink "PausedFabric" 213 "PausedFabric$Port" "wire" "LPausedFabric$FrameQueue;" : Cond) ∈ lw_gd := fb_tm (i := 75) (by decide +kernel) (by decide +kernel)
theorem zi_76 : (Cond.fieldLink "PausedFabric$Port" 32 "PausedFabric$Port" "held" "[I" : Cond) ∈ lw_gd := fb_tm (i := 76) (by decide +kernel) (by decide +kernel)
theorem zi_77 : (Cond.fieldLink "PausedFabric" 117 "PausedFabric$Port" "held" "[I" : Cond) ∈ lw_gd := fb_tm (i := 77) (by decide +kernel) (by decide +kernel)
theorem zi_78 : (Cond.fieldLink "PausedFabric$Port" 35 "PausedFabric$Port" "asked" "Z" : Cond) ∈ lw_gd := fb_tm (i := 78) (by decide +kernel) (by decide +kernel)
theorem zi_79 : (Cond.fieldLink "PausedFabric" 120 "PausedFabric$Port" "asked" "Z" : Cond) ∈ lw_gd := fb_tm (i := 79) (by decide +kernel) (by decide +kernel)
theorem zi_80 : (Cond.fieldLink "PausedFabric$Port" 39 "PausedFabric$Port" "askedBefore" "I" : Cond) ∈ lw_gd := fb_tm (i := 80) (by decide +kernel) (by decide +kernel)
theorem zi_81 : (Cond.fieldLink "PausedFabric" 172 "PausedFabric$Port" "askedBefore" "I" : Cond) ∈ lw_gd := fb_tm (i := 81) (by decide +kernel) (by decide +kernel)
theorem zi_82 : (Cond.fieldLink "PausedFabric$Port" 42 "PausedFabric$Port" "paused" "Z" : Cond) ∈ lw_gd := fb_tm (i := 82) (by decide +kernel) (by decide +kernel)
theorem zi_83 : (Cond.fieldLink "PausedFabric" 123 "PausedFabric$Port" "paused" "Z" : Cond) ∈ lw_gd := fb_tm (i := 83) (by decide +kernel) (by decide +kernel)
theorem zi_84 : (Cond.laysFinal "PausedFabric$Port" "PausedFabric$Port" "from" "I" : Cond) ∈ lw_gd := fb_tm (i := 84) (by decide +kernel) (by decide +kernel)
theorem zi_86 : (Cond.laysFinal "PausedFabric$Port" "PausedFabric$Port" "to" "I" : Cond) ∈ lw_gd := fb_tm (i := 86) (by decide +kernel) (by decide +kernel)
theorem zi_88 : (Cond.laysFinal "PausedFabric$Port" "PausedFabric$Port" "queues" "[LPausedFabric$FrameQueue;" : Cond) ∈ lw_gd := fb_tm (i := 88) (by decide +kernel) (by decide +kernel)
theorem zi_90 : (Cond.laysFinal "PausedFabric$Port" "PausedFabric$Port" "credit" "[I" : Cond) ∈ lw_gd := fb_tm (i := 90) (by decide +kernel) (by decide +kernel)
theorem zi_92 : (Cond.lays "PausedFabric$Port" "PausedFabric$Port" "turn" "I" : Cond) ∈ lw_gd := fb_tm (i := 92) (by decide +kernel) (by decide +kernel)
theorem zi_94 : (Cond.lays "PausedFabric$Port" "PausedFabric$Port" "sending" "LPausedFabric$Frame;" : Cond) ∈ lw_gd := fb_tm (i := 94) (by decide +kernel) (by decide +kernel)
theorem zi_96 : (Cond.laysFinal "PausedFabric$Port" "PausedFabric$Port" "wire" "LPausedFabric$FrameQueue;" : Cond) ∈ lw_gd := fb_tm (i := 96) (by decide +kernel) (by decide +kernel)
theorem zi_98 : (Cond.laysFinal "PausedFabric$Port" "PausedFabric$Port" "held" "[I" : Cond) ∈ lw_gd := fb_tm (i := 98) (by decide +kernel) (by decide +kernel)
theorem zi_100 : (Cond.lays "PausedFabric$Port" "PausedFabric$Port" "asked" "Z" : Cond) ∈ lw_gd := fb_tm (i := 100) (by decide +kernel) (by decide +kernel)
theorem zi_102 : (Cond.lays "PausedFabric$Port" "PausedFabric$Port" "askedBefore" "I" : Cond) ∈ lw_gd := fb_tm (i := 102) (by decide +kernel) (by decide +kernel)
theorem zi_104 : (Cond.lays "PausedFabric$Port" "PausedFabric$Port" "paused" "Z" : Cond) ∈ lw_gd := fb_tm (i := 104) (by decide +kernel) (by decide +kernel)
theorem zi_107 : (Cond.classLink "PausedFabric" 21 "PausedFabric$Flow" : Cond) ∈ lw_gd := fb_tm (i := 107) (by decide +kernel) (by decide +kernel)
theorem zj_108 : (Cond.arrayOver (.object "PausedFabric$Flow") : Cond) ∈ lw_tbl := fb_tb (i := 108) (by decide +kernel)
theorem zi_109 : (Cond.classLink "PausedFabric" 27 "PausedFabric$Frame" : Cond) ∈ lw_gd := fb_tm (i := 109) (by decide +kernel) (by decide +kernel)
theorem zj_110 : (Cond.arrayOver (.object "PausedFabric$Frame") : Cond) ∈ lw_tbl := fb_tb (i := 110) (by decide +kernel)
theorem zi_111 : (Cond.methodLink "PausedFabric" 43 ⟨"PausedFabric", "nearest", "(III)I"⟩ : Cond) ∈ lw_gd := fb_tm (i := 111) (by decide +kernel) (by decide +kernel)
theorem zi_112 : (Cond.static ⟨"PausedFabric", "nearest", "(III)I"⟩ : Cond) ∈ lw_gd := fb_tm (i := 112) (by decide +kernel) (by decide +kernel)
theorem zi_114 : (Cond.fieldLink "PausedFabric" 47 "PausedFabric" "delay" "I" : Cond) ∈ lw_gd := fb_tm (i := 114) (by decide +kernel) (by decide +kernel)
theorem zi_115 : (Cond.fieldLink "PausedFabric" 50 "PausedFabric" "xoff" "I" : Cond) ∈ lw_gd := fb_tm (i := 115) (by decide +kernel) (by decide +kernel)
theorem zi_116 : (Cond.fieldLink "PausedFabric" 53 "PausedFabric" "room" "I" : Cond) ∈ lw_gd := fb_tm (i := 116) (by decide +kernel) (by decide +kernel)
theorem zi_117 : (Cond.fieldLink "PausedFabric" 56 "PausedFabric" "mark" "I" : Cond) ∈ lw_gd := fb_tm (i := 117) (by decide +kernel) (by decide +kernel)
theorem zi_118 : (Cond.fieldLink "PausedFabric" 7 "PausedFabric" "quantum" "[I" : Cond) ∈ lw_gd := fb_tm (i := 118) (by decide +kernel) (by decide +kernel)
theorem zi_119 : (Cond.fieldLink "PausedFabric" 17 "PausedFabric" "ports" "[LPausedFabric$Port;" : Cond) ∈ lw_gd := fb_tm (i := 119) (by decide +kernel) (by decide +kernel)
theorem zi_120 : (Cond.fieldLink "PausedFabric" 23 "PausedFabric" "flows" "[LPausedFabric$Flow;" : Cond) ∈ lw_gd := fb_tm (i := 120) (by decide +kernel) (by decide +kernel)
theorem zi_121 : (Cond.fieldLink "PausedFabric" 29 "PausedFabric" "frames" "[LPausedFabric$Frame;" : Cond) ∈ lw_gd := fb_tm (i := 121) (by decide +kernel) (by decide +kernel)
theorem zi_122 : (Cond.fieldLink "PausedFabric" 33 "PausedFabric" "flowCount" "I" : Cond) ∈ lw_gd := fb_tm (i := 122) (by decide +kernel) (by decide +kernel)
theorem zi_123 : (Cond.fieldLink "PausedFabric" 37 "PausedFabric" "frameCount" "I" : Cond) ∈ lw_gd := fb_tm (i := 123) (by decide +kernel) (by decide +kernel)
theorem zi_124 : (Cond.fieldLink "PausedFabric" 40 "PausedFabric" "time" "I" : Cond) ∈ lw_gd := fb_tm (i := 124) (by decide +kernel) (by decide +kernel)
theorem zi_125 : (Cond.laysFinal "PausedFabric" "PausedFabric" "delay" "I" : Cond) ∈ lw_gd := fb_tm (i := 125) (by decide +kernel) (by decide +kernel)
theorem zi_127 : (Cond.laysFinal "PausedFabric" "PausedFabric" "xoff" "I" : Cond) ∈ lw_gd := fb_tm (i := 127) (by decide +kernel) (by decide +kernel)
theorem zi_129 : (Cond.laysFinal "PausedFabric" "PausedFabric" "room" "I" : Cond) ∈ lw_gd := fb_tm (i := 129) (by decide +kernel) (by decide +kernel)
theorem zi_131 : (Cond.laysFinal "PausedFabric" "PausedFabric" "mark" "I" : Cond) ∈ lw_gd := fb_tm (i := 131) (by decide +kernel) (by decide +kernel)
theorem zi_133 : (Cond.laysFinal "PausedFabric" "PausedFabric" "quantum" "[I" : Cond) ∈ lw_gd := fb_tm (i := 133) (by decide +kernel) (by decide +kernel)
theorem zi_135 : (Cond.laysFinal "PausedFabric" "PausedFabric" "ports" "[LPausedFabric$Port;" : Cond) ∈ lw_gd := fb_tm (i := 135) (by decide +kernel) (by decide +kernel)
theorem zi_137 : (Cond.laysFinal "PausedFabric" "PausedFabric" "flows" "[LPausedFabric$Flow;" : Cond) ∈ lw_gd := fb_tm (i := 137) (by decide +kernel) (by decide +kernel)
theorem zi_139 : (Cond.laysFinal "PausedFabric" "PausedFabric" "frames" "[LPausedFabric$Frame;" : Cond) ∈ lw_gd := fb_tm (i := 139) (by decide +kernel) (by decide +kernel)
theorem zi_141 : (Cond.lays "PausedFabric" "PausedFabric" "flowCount" "I" : Cond) ∈ lw_gd := fb_tm (i := 141) (by decide +kernel) (by decide +kernel)
theorem zi_143 : (Cond.lays "PausedFabric" "PausedFabric" "frameCount" "I" : Cond) ∈ lw_gd := fb_tm (i := 143) (by decide +kernel) (by decide +kernel)
theorem zi_145 : (Cond.lays "PausedFabric" "PausedFabric" "time" "I" : Cond) ∈ lw_gd := fb_tm (i := 145) (by decide +kernel) (by decide +kernel)
theorem zi_148 : (Cond.methodLink "PausedFabricLaw" 21 ⟨"PausedFabric", "flow", "(III)I"⟩ : Cond) ∈ lw_gd := fb_tm (i := 148) (by decide +kernel) (by decide +kernel)
theorem zi_149 : (Cond.instanceMethod ⟨"PausedFabric", "flow", "(III)I"⟩ : Cond) ∈ lw_gd := fb_tm (i := 149) (by decide +kernel) (by decide +kernel)
theorem zi_150 : (Cond.selects "PausedFabric" ⟨"PausedFabric", "flow", "(III)I"⟩ ⟨"PausedFabric", "flow", "(III)I"⟩ : Cond) ∈ lw_gd := fb_tm (i := 150) (by decide +kernel) (by decide +kernel)
theorem zi_152 : (Cond.methodLink "PausedFabric" 63 ⟨"PausedFabric", "isPriority", "(I)Z"⟩ : Cond) ∈ lw_gd := fb_tm (i := 152) (by decide +kernel) (by decide +kernel)
theorem zi_153 : (Cond.static ⟨"PausedFabric", "isPriority", "(I)Z"⟩ : Cond) ∈ lw_gd := fb_tm (i := 153) (by decide +kernel) (by decide +kernel)
theorem zi_155 : (Cond.instantiable "PausedFabric$Flow" 12 : Cond) ∈ lw_gd := fb_tm (i := 155) (by decide +kernel) (by decide +kernel)
theorem zi_156 : (Cond.methodLink "PausedFabric" 66 ⟨"PausedFabric", "routeOf", "(III)[LPausedFabric$Port;"⟩ : Cond) ∈ lw_gd := fb_tm (i := 156) (by decide +kernel) (by decide +kernel)
theorem zi_158 : (Cond.instanceMethod ⟨"PausedFabric", "routeOf", "(III)[LPausedFabric$Port;"⟩ : Cond) ∈ lw_gd := fb_tm (i := 158) (by decide +kernel) (by decide +kernel)
theorem zi_160 : (Cond.methodLink "PausedFabric" 102 ⟨"PausedFabric", "portBetween", "(II)LPausedFabric$Port;"⟩ : Cond) ∈ lw_gd := fb_tm (i := 160) (by decide +kernel) (by decide +kernel)
theorem zi_162 : (Cond.instanceMethod ⟨"PausedFabric", "portBetween", "(II)LPausedFabric$Port;"⟩ : Cond) ∈ lw_gd := fb_tm (i := 162) (by decide +kernel) (by decide +kernel)
theorem zi_164 : (Cond.methodLink "PausedFabric" 167 ⟨"java/lang/Integer", "bitCount", "(I)I"⟩ : Cond) ∈ lw_gd := fb_tm (i := 164) (by decide +kernel) (by decide +kernel)
theorem zi_165 : (Cond.static ⟨"java/lang/Integer", "bitCount", "(I)I"⟩ : Cond) ∈ lw_gd := fb_tm (i := 165) (by decide +kernel) (by decide +kernel)
theorem zi_167 : (Cond.constant "java/lang/Integer" 265 (1431655765 : Int32) : Cond) ∈ lw_gd := fb_tm (i := 167) (by decide +kernel) (by decide +kernel)
theorem zi_168 : (Cond.constant "java/lang/Integer" 266 (858993459 : Int32) : Cond) ∈ lw_gd := fb_tm (i := 168) (by decide +kernel) (by decide +kernel)
theorem zi_169 : (Cond.constant "java/lang/Integer" 267 (252645135 : Int32) : Cond) ∈ lw_gd := fb_tm (i := 169) (by decide +kernel) (by decide +kernel)
theorem zi_170 : (Cond.methodLink "PausedFabric" 70 ⟨"PausedFabric$Flow", "<init>", "(I[LPausedFabric$Port;)V"⟩ : Cond) ∈ lw_gd := fb_tm (i := 170) (by decide +kernel) (by decide +kernel)
theorem zi_171 : (Cond.instanceMethod ⟨"PausedFabric$Flow", "<init>", "(I[LPausedFabric$Port;)V"⟩ : Cond) ∈ lw_gd := fb_tm (i := 171) (by decide +kernel) (by decide +kernel)
theorem zi_173 : (Cond.methodLink "PausedFabric$Flow" 3 ⟨"java/lang/Object", "<init>", "()V"⟩ : Cond) ∈ lw_gd := fb_tm (i := 173) (by decide +kernel) (by decide +kernel)
theorem zi_174 : (Cond.fieldLink "PausedFabric$Flow" 43 "PausedFabric$Flow" "priority" "I" : Cond) ∈ lw_gd := fb_tm (i := 174) (by decide +kernel) (by decide +kernel)
theorem zi_175 : (Cond.fieldLink "PausedFabric" 233 "PausedFabric$Flow" "priority" "I" : Cond) ∈ lw_gd := fb_tm (i := 175) (by decide +kernel) (by decide +kernel)
theorem zi_176 : (Cond.fieldLink "PausedFabric$Flow" 46 "PausedFabric$Flow" "route" "[LPausedFabric$Port;" : Cond) ∈ lw_gd := fb_tm (i := 176) (by decide +kernel) (by decide +kernel)
theorem zi_177 : (Cond.fieldLink "PausedFabric$Flow" 9 "PausedFabric$Flow" "rate" "I" : Cond) ∈ lw_gd := fb_tm (i := 177) (by decide +kernel) (by decide +kernel)
theorem zi_178 : (Cond.fieldLink "PausedFabric" 126 "PausedFabric$Flow" "rate" "I" : Cond) ∈ lw_gd := fb_tm (i := 178) (by decide +kernel) (by decide +kernel)
theorem zi_179 : (Cond.fieldLink "PausedFabric$Flow" 15 "PausedFabric$Flow" "target" "I" : Cond) ∈ lw_gd := fb_tm (i := 179) (by decide +kernel) (by decide +kernel)
theorem zi_180 : (Cond.fieldLink "PausedFabric$Flow" 18 "PausedFabric$Flow" "alpha" "I" : Cond) ∈ lw_gd := fb_tm (i := 180) (by decide +kernel) (by decide +kernel)
theorem zi_181 : (Cond.fieldLink "PausedFabric" 129 "PausedFabric$Flow" "alpha" "I" : Cond) ∈ lw_gd := fb_tm (i := 181) (by decide +kernel) (by decide +kernel)
theorem zi_182 : (Cond.fieldLink "PausedFabric$Flow" 21 "PausedFabric$Flow" "calm" "I" : Cond) ∈ lw_gd := fb_tm (i := 182) (by decide +kernel) (by decide +kernel)
theorem zi_183 : (Cond.fieldLink "PausedFabric$Flow" 24 "PausedFabric$Flow" "waitsUntil" "I" : Cond) ∈ lw_gd := fb_tm (i := 183) (by decide +kernel) (by decide +kernel)
theorem zi_184 : (Cond.fieldLink "PausedFabric" 280 "PausedFabric$Flow" "waitsUntil" "I" : Cond) ∈ lw_gd := fb_tm (i := 184) (by decide +kernel) (by decide +kernel)
theorem zi_185 : (Cond.fieldLink "PausedFabric$Flow" 27 "PausedFabric$Flow" "markedNow" "Z" : Cond) ∈ lw_gd := fb_tm (i := 185) (by decide +kernel) (by decide +kernel)
theorem zi_186 : (Cond.fieldLink "PausedFabric" 203 "PausedFabric$Flow" "markedNow" "Z" : Cond) ∈ lw_gd := fb_tm (i := 186) (by decide +kernel) (by decide +kernel)
theorem zi_187 : (Cond.fieldLink "PausedFabric$Flow" 31 "PausedFabric$Flow" "markedBefore" "I" : Cond) ∈ lw_gd := fb_tm (i := 187) (by decide +kernel) (by decide +kernel)
theorem zi_188 : (Cond.fieldLink "PausedFabric" 182 "PausedFabric$Flow" "markedBefore" "I" : Cond) ∈ lw_gd := fb_tm (i := 188) (by decide +kernel) (by decide +kernel)
theorem zi_189 : (Cond.fieldLink "PausedFabric$Flow" 34 "PausedFabric$Flow" "received" "I" : Cond) ∈ lw_gd := fb_tm (i := 189) (by decide +kernel) (by decide +kernel)
theorem zi_190 : (Cond.fieldLink "PausedFabric" 132 "PausedFabric$Flow" "received" "I" : Cond) ∈ lw_gd := fb_tm (i := 190) (by decide +kernel) (by decide +kernel)
theorem zi_191 : (Cond.fieldLink "PausedFabric$Flow" 37 "PausedFabric$Flow" "dropped" "I" : Cond) ∈ lw_gd := fb_tm (i := 191) (by decide +kernel) (by decide +kernel)
theorem zi_192 : (Cond.fieldLink "PausedFabric" 135 "PausedFabric$Flow" "dropped" "I" : Cond) ∈ lw_gd := fb_tm (i := 192) (by decide +kernel) (by decide +kernel)
theorem zi_193 : (Cond.fieldLink "PausedFabric$Flow" 40 "PausedFabric$Flow" "last" "I" : Cond) ∈ lw_gd := fb_tm (i := 193) (by decide +kernel) (by decide +kernel)
theorem zi_194 : (Cond.fieldLink "PausedFabric" 138 "PausedFabric$Flow" "last" "I" : Cond) ∈ lw_gd := fb_tm (i := 194) (by decide +kernel) (by decide +kernel)
theorem zi_195 : (Cond.laysFinal "PausedFabric$Flow" "PausedFabric$Flow" "priority" "I" : Cond) ∈ lw_gd := fb_tm (i := 195) (by decide +kernel) (by decide +kernel)
theorem zi_197 : (Cond.laysFinal "PausedFabric$Flow" "PausedFabric$Flow" "route" "[LPausedFabric$Port;" : Cond) ∈ lw_gd := fb_tm (i := 197) (by decide +kernel) (by decide +kernel)
theorem zi_199 : (Cond.lays "PausedFabric$Flow" "PausedFabric$Flow" "rate" "I" : Cond) ∈ lw_gd := fb_tm (i := 199) (by decide +kernel) (by decide +kernel)
theorem zi_201 : (Cond.lays "PausedFabric$Flow" "PausedFabric$Flow" "target" "I" : Cond) ∈ lw_gd := fb_tm (i := 201) (by decide +kernel) (by decide +kernel)
theorem zi_203 : (Cond.lays "PausedFabric$Flow" "PausedFabric$Flow" "alpha" "I" : Cond) ∈ lw_gd := fb_tm (i := 203) (by decide +kernel) (by decide +kernel)
theorem zi_205 : (Cond.lays "PausedFabric$Flow" "PausedFabric$Flow" "calm" "I" : Cond) ∈ lw_gd := fb_tm (i := 205) (by decide +kernel) (by decide +kernel)
theorem zi_207 : (Cond.lays "PausedFabric$Flow" "PausedFabric$Flow" "waitsUntil" "I" : Cond) ∈ lw_gd := fb_tm (i := 207) (by decide +kernel) (by decide +kernel)
theorem zi_209 : (Cond.lays "PausedFabric$Flow" "PausedFabric$Flow" "markedNow" "Z" : Cond) ∈ lw_gd := fb_tm (i := 209) (by decide +kernel) (by decide +kernel)
theorem zi_211 : (Cond.lays "PausedFabric$Flow" "PausedFabric$Flow" "markedBefore" "I" : Cond) ∈ lw_gd := fb_tm (i := 211) (by decide +kernel) (by decide +kernel)
theorem zi_213 : (Cond.lays "PausedFabric$Flow" "PausedFabric$Flow" "received" "I" : Cond) ∈ lw_gd := fb_tm (i := 213) (by decide +kernel) (by decide +kernel)
theorem zi_215 : (Cond.lays "PausedFabric$Flow" "PausedFabric$Flow" "dropped" "I" : Cond) ∈ lw_gd := fb_tm (i := 215) (by decide +kernel) (by decide +kernel)
theorem zi_217 : (Cond.lays "PausedFabric$Flow" "PausedFabric$Flow" "last" "I" : Cond) ∈ lw_gd := fb_tm (i := 217) (by decide +kernel) (by decide +kernel)
theorem zi_220 : (Cond.methodLink "PausedFabricLaw" 26 ⟨"PausedFabric", "share", "(II)Z"⟩ : Cond) ∈ lw_gd := fb_tm (i := 220) (by decide +kernel) (by decide +kernel)
theorem zi_221 : (Cond.instanceMethod ⟨"PausedFabric", "share", "(II)Z"⟩ : Cond) ∈ lw_gd := fb_tm (i := 221) (by decide +kernel) (by decide +kernel)
theorem zi_222 : (Cond.selects "PausedFabric" ⟨"PausedFabric", "share", "(II)Z"⟩ ⟨"PausedFabric", "share", "(II)Z"⟩ : Cond) ∈ lw_gd := fb_tm (i := 222) (by decide +kernel) (by decide +kernel)
theorem zi_224 : (Cond.methodLink "PausedFabricLaw" 31 ⟨"PausedFabric", "inject", "(II)I"⟩ : Cond) ∈ lw_gd := fb_tm (i := 224) (by decide +kernel) (by decide +kernel)
theorem zi_225 : (Cond.instanceMethod ⟨"PausedFabric", "inject", "(II)I"⟩ : Cond) ∈ lw_gd := fb_tm (i := 225) (by decide +kernel) (by decide +kernel)
theorem zi_226 : (Cond.selects "PausedFabric" ⟨"PausedFabric", "inject", "(II)I"⟩ ⟨"PausedFabric", "inject", "(II)I"⟩ : Cond) ∈ lw_gd := fb_tm (i := 226) (by decide +kernel) (by decide +kernel)
theorem zi_228 : (Cond.methodLink "PausedFabric" 73 ⟨"PausedFabric", "flowAt", "(I)LPausedFabric$Flow;"⟩ : Cond) ∈ lw_gd := fb_tm (i := 228) (by decide +kernel) (by decide +kernel)
theorem zi_230 : (Cond.instanceMethod ⟨"PausedFabric", "flowAt", "(I)LPausedFabric$Flow;"⟩ : Cond) ∈ lw_gd := fb_tm (i := 230) (by decide +kernel) (by decide +kernel)
theorem zi_232 : (Cond.instantiable "PausedFabric$Frame" 10 : Cond) ∈ lw_gd := fb_tm (i := 232) (by decide +kernel) (by decide +kernel)
theorem zi_233 : (Cond.methodLink "PausedFabric" 77 ⟨"PausedFabric$Frame", "<init>", "(ILPausedFabric$Flow;I)V"⟩ : Cond) ∈ lw_gd := fb_tm (i := 233) (by decide +kernel) (by decide +kernel)
theorem zi_234 : (Cond.instanceMethod ⟨"PausedFabric$Frame", "<init>", "(ILPausedFabric$Flow;I)V"⟩ : Cond) ∈ lw_gd := fb_tm (i := 234) (by decide +kernel) (by decide +kernel)
theorem zi_236 : (Cond.methodLink "PausedFabric$Frame" 3 ⟨"java/lang/Object", "<init>", "()V"⟩ : Cond) ∈ lw_gd := fb_tm (i := 236) (by decide +kernel) (by decide +kernel)
theorem zi_237 : (Cond.fieldLink "PausedFabric$Frame" 36 "PausedFabric$Frame" "number" "I" : Cond) ∈ lw_gd := fb_tm (i := 237) (by decide +kernel) (by decide +kernel)
theorem zi_238 : (Cond.fieldLink "PausedFabric" 257 "PausedFabric$Frame" "number" "I" : Cond) ∈ lw_gd := fb_tm (i := 238) (by decide +kernel) (by decide +kernel)
theorem zi_239 : (Cond.fieldLink "PausedFabric$Frame" 39 "PausedFabric$Frame" "flow" "LPausedFabric$Flow;" : Cond) ∈ lw_gd := fb_tm (i := 239) (by decide +kernel) (by decide +kernel)
theorem zi_240 : (Cond.fieldLink "PausedFabric" 229 "PausedFabric$Frame" "flow" "LPausedFabric$Flow;" : Cond) ∈ lw_gd := fb_tm (i := 240) (by decide +kernel) (by decide +kernel)
theorem zi_241 : (Cond.fieldLink "PausedFabric$Frame" 43 "PausedFabric$Frame" "length" "I" : Cond) ∈ lw_gd := fb_tm (i := 241) (by decide +kernel) (by decide +kernel)
theorem zi_242 : (Cond.fieldLink "PausedFabric$FrameQueue" 25 "PausedFabric$Frame" "length" "I" : Cond) ∈ lw_gd := fb_tm (i := 242) (by decide +kernel) (by decide +kernel)
theorem zi_243 : (Cond.fieldLink "PausedFabric" 236 "PausedFabric$Frame" "length" "I" : Cond) ∈ lw_gd := fb_tm (i := 243) (by decide +kernel) (by decide +kernel)
theorem zi_244 : (Cond.fieldLink "PausedFabric$Frame" 9 "PausedFabric$Frame" "state" "I" : Cond) ∈ lw_gd := fb_tm (i := 244) (by decide +kernel) (by decide +kernel)
theorem zi_245 : (Cond.fieldLink "PausedFabric" 92 "PausedFabric$Frame" "state" "I" : Cond) ∈ lw_gd := fb_tm (i := 245) (by decide +kernel) (by decide +kernel)
theorem zi_246 : (Cond.fieldLink "PausedFabric$Frame" 15 "PausedFabric$Frame" "node" "I" : Cond) ∈ lw_gd := fb_tm (i := 246) (by decide +kernel) (by decide +kernel)
theorem zi_247 : (Cond.fieldLink "PausedFabric" 95 "PausedFabric$Frame" "node" "I" : Cond) ∈ lw_gd := fb_tm (i := 247) (by decide +kernel) (by decide +kernel)
theorem zi_248 : (Cond.fieldLink "PausedFabric$Frame" 18 "PausedFabric$Frame" "marked" "Z" : Cond) ∈ lw_gd := fb_tm (i := 248) (by decide +kernel) (by decide +kernel)
theorem zi_249 : (Cond.fieldLink "PausedFabric" 98 "PausedFabric$Frame" "marked" "Z" : Cond) ∈ lw_gd := fb_tm (i := 249) (by decide +kernel) (by decide +kernel)
theorem zi_250 : (Cond.fieldLink "PausedFabric$Frame" 22 "PausedFabric$Frame" "hop" "I" : Cond) ∈ lw_gd := fb_tm (i := 250) (by decide +kernel) (by decide +kernel)
theorem zi_251 : (Cond.fieldLink "PausedFabric" 260 "PausedFabric$Frame" "hop" "I" : Cond) ∈ lw_gd := fb_tm (i := 251) (by decide +kernel) (by decide +kernel)
theorem zi_252 : (Cond.fieldLink "PausedFabric$Frame" 25 "PausedFabric$Frame" "cameBy" "LPausedFabric$Port;" : Cond) ∈ lw_gd := fb_tm (i := 252) (by decide +kernel) (by decide +kernel)
theorem zi_253 : (Cond.fieldLink "PausedFabric" 221 "PausedFabric$Frame" "cameBy" "LPausedFabric$Port;" : Cond) ∈ lw_gd := fb_tm (i := 253) (by decide +kernel) (by decide +kernel)
theorem zi_254 : (Cond.fieldLink "PausedFabric$Frame" 29 "PausedFabric$Frame" "due" "I" : Cond) ∈ lw_gd := fb_tm (i := 254) (by decide +kernel) (by decide +kernel)
theorem zi_255 : (Cond.fieldLink "PausedFabric" 210 "PausedFabric$Frame" "due" "I" : Cond) ∈ lw_gd := fb_tm (i := 255) (by decide +kernel) (by decide +kernel)
theorem zi_256 : (Cond.fieldLink "PausedFabric$Frame" 32 "PausedFabric$Frame" "next" "LPausedFabric$Frame;" : Cond) ∈ lw_gd := fb_tm (i := 256) (by decide +kernel) (by decide +kernel)
theorem zi_257 : (Cond.fieldLink "PausedFabric$FrameQueue" 20 "PausedFabric$Frame" "next" "LPausedFabric$Frame;" : Cond) ∈ lw_gd := fb_tm (i := 257) (by decide +kernel) (by decide +kernel)
theorem zi_258 : (Cond.laysFinal "PausedFabric$Frame" "PausedFabric$Frame" "number" "I" : Cond) ∈ lw_gd := fb_tm (i := 258) (by decide +kernel) (by decide +kernel)
theorem zi_260 : (Cond.laysFinal "PausedFabric$Frame" "PausedFabric$Frame" "flow" "LPausedFabric$Flow;" : Cond) ∈ lw_gd := fb_tm (i := 260) (by decide +kernel) (by decide +kernel)
theorem zi_262 : (Cond.laysFinal "PausedFabric$Frame" "PausedFabric$Frame" "length" "I" : Cond) ∈ lw_gd := fb_tm (i := 262) (by decide +kernel) (by decide +kernel)
theorem zi_264 : (Cond.lays "PausedFabric$Frame" "PausedFabric$Frame" "state" "I" : Cond) ∈ lw_gd := fb_tm (i := 264) (by decide +kernel) (by decide +kernel)
theorem zi_266 : (Cond.lays "PausedFabric$Frame" "PausedFabric$Frame" "node" "I" : Cond) ∈ lw_gd := fb_tm (i := 266) (by decide +kernel) (by decide +kernel)
theorem zi_268 : (Cond.lays "PausedFabric$Frame" "PausedFabric$Frame" "marked" "Z" : Cond) ∈ lw_gd := fb_tm (i := 268) (by decide +kernel) (by decide +kernel)
theorem zi_270 : (Cond.lays "PausedFabric$Frame" "PausedFabric$Frame" "hop" "I" : Cond) ∈ lw_gd := fb_tm (i := 270) (by decide +kernel) (by decide +kernel)
theorem zi_272 : (Cond.lays "PausedFabric$Frame" "PausedFabric$Frame" "cameBy" "LPausedFabric$Port;" : Cond) ∈ lw_gd := fb_tm (i := 272) (by decide +kernel) (by decide +kernel)
theorem zi_274 : (Cond.lays "PausedFabric$Frame" "PausedFabric$Frame" "due" "I" : Cond) ∈ lw_gd := fb_tm (i := 274) (by decide +kernel) (by decide +kernel)
theorem zi_276 : (Cond.lays "PausedFabric$Frame" "PausedFabric$Frame" "next" "LPausedFabric$Frame;" : Cond) ∈ lw_gd := fb_tm (i := 276) (by decide +kernel) (by decide +kernel)
theorem zi_279 : (Cond.methodLink "PausedFabric" 80 ⟨"PausedFabric", "enqueue", "(LPausedFabric$Frame;)I"⟩ : Cond) ∈ lw_gd := fb_tm (i := 279) (by decide +kernel) (by decide +kernel)
theorem zi_280 : (Cond.static ⟨"PausedFabric", "enqueue", "(LPausedFabric$Frame;)I"⟩ : Cond) ∈ lw_gd := fb_tm (i := 280) (by decide +kernel) (by decide +kernel)
theorem zi_282 : (Cond.methodLink "PausedFabric" 263 ⟨"PausedFabric$Flow", "portAt", "(I)LPausedFabric$Port;"⟩ : Cond) ∈ lw_gd := fb_tm (i := 282) (by decide +kernel) (by decide +kernel)
theorem zi_283 : (Cond.instanceMethod ⟨"PausedFabric$Flow", "portAt", "(I)LPausedFabric$Port;"⟩ : Cond) ∈ lw_gd := fb_tm (i := 283) (by decide +kernel) (by decide +kernel)
theorem zi_284 : (Cond.selects "PausedFabric$Flow" ⟨"PausedFabric$Flow", "portAt", "(I)LPausedFabric$Port;"⟩ ⟨"PausedFabric$Flow", "portAt", "(I)LPausedFabric$Port;"⟩ : Cond) ∈ lw_gd := fb_tm (i := 284) (by decide +kernel) (by decide +kernel)
theorem zi_286 : (Cond.methodLink "PausedFabric" 217 ⟨"PausedFabric$FrameQueue", "add", "(LPausedFabric$Frame;)V"⟩ : Cond) ∈ lw_gd := fb_tm (i := 286) (by decide +kernel) (by decide +kernel)
theorem zi_287 : (Cond.instanceMethod ⟨"PausedFabric$FrameQueue", "add", "(LPausedFabric$Frame;)V"⟩ : Cond) ∈ lw_gd := fb_tm (i := 287) (by decide +kernel) (by decide +kernel)
theorem zi_288 : (Cond.selects "PausedFabric$FrameQueue" ⟨"PausedFabric$FrameQueue", "add", "(LPausedFabric$Frame;)V"⟩ ⟨"PausedFabric$FrameQueue", "add", "(LPausedFabric$Frame;)V"⟩ : Cond) ∈ lw_gd := fb_tm (i := 288) (by decide +kernel) (by decide +kernel)
theorem zi_290 : (Cond.methodLink "PausedFabricLaw" 36 ⟨"PausedFabric", "tick", "(I)I"⟩ : Cond) ∈ lw_gd := fb_tm (i := 290) (by decide +kernel) (by decide +kernel)
theorem zi_291 : (Cond.instanceMethod ⟨"PausedFabric", "tick", "(I)I"⟩ : Cond) ∈ lw_gd := fb_tm (i := 291) (by decide +kernel) (by decide +kernel)
theorem zi_292 : (Cond.selects "PausedFabric" ⟨"PausedFabric", "tick", "(I)I"⟩ ⟨"PausedFabric", "tick", "(I)I"⟩ : Cond) ∈ lw_gd := fb_tm (i := 292) (by decide +kernel) (by decide +kernel)
theorem zi_294 : (Cond.methodLink "PausedFabric" 84 ⟨"PausedFabric", "makeTick", "()I"⟩ : Cond) ∈ lw_gd := fb_tm (i := 294) (by decide +kernel) (by decide +kernel)
theorem zi_296 : (Cond.instanceMethod ⟨"PausedFabric", "makeTick", "()I"⟩ : Cond) ∈ lw_gd := fb_tm (i := 296) (by decide +kernel) (by decide +kernel)
theorem zi_298 : (Cond.methodLink "PausedFabric" 175 ⟨"PausedFabric", "wasSo", "(I)Z"⟩ : Cond) ∈ lw_gd := fb_tm (i := 298) (by decide +kernel) (by decide +kernel)
theorem zi_300 : (Cond.instanceMethod ⟨"PausedFabric", "wasSo", "(I)Z"⟩ : Cond) ∈ lw_gd := fb_tm (i := 300) (by decide +kernel) (by decide +kernel)
theorem zi_302 : (Cond.methodLink "PausedFabric" 178 ⟨"PausedFabric", "endSending", "(LPausedFabric$Port;)V"⟩ : Cond) ∈ lw_gd := fb_tm (i := 302) (by decide +kernel) (by decide +kernel)
theorem zi_304 : (Cond.instanceMethod ⟨"PausedFabric", "endSending", "(LPausedFabric$Port;)V"⟩ : Cond) ∈ lw_gd := fb_tm (i := 304) (by decide +kernel) (by decide +kernel)
theorem zi_306 : (Cond.methodLink "PausedFabric" 225 ⟨"PausedFabric", "release", "(LPausedFabric$Frame;LPausedFabric$Port;)V"⟩ : Cond) ∈ lw_gd := fb_tm (i := 306) (by decide +kernel) (by decide +kernel)
theorem zi_308 : (Cond.instanceMethod ⟨"PausedFabric", "release", "(LPausedFabric$Frame;LPausedFabric$Port;)V"⟩ : Cond) ∈ lw_gd := fb_tm (i := 308) (by decide +kernel) (by decide +kernel)
theorem zi_310 : (Cond.methodLink "PausedFabric" 185 ⟨"PausedFabric$Flow", "adjustRate", "(Z)V"⟩ : Cond) ∈ lw_gd := fb_tm (i := 310) (by decide +kernel) (by decide +kernel)
theorem zi_311 : (Cond.instanceMethod ⟨"PausedFabric$Flow", "adjustRate", "(Z)V"⟩ : Cond) ∈ lw_gd := fb_tm (i := 311) (by decide +kernel) (by decide +kernel)
theorem zi_312 : (Cond.selects "PausedFabric$Flow" ⟨"PausedFabric$Flow", "adjustRate", "(Z)V"⟩ ⟨"PausedFabric$Flow", "adjustRate", "(Z)V"⟩ : Cond) ∈ lw_gd := fb_tm (i := 312) (by decide +kernel) (by decide +kernel)
theorem zi_314 : (Cond.methodLink "PausedFabric$Flow" 50 ⟨"PausedFabric$Flow", "slowDown", "()V"⟩ : Cond) ∈ lw_gd := fb_tm (i := 314) (by decide +kernel) (by decide +kernel)
theorem zi_315 : (Cond.instanceMethod ⟨"PausedFabric$Flow", "slowDown", "()V"⟩ : Cond) ∈ lw_gd := fb_tm (i := 315) (by decide +kernel) (by decide +kernel)
theorem zi_316 : (Cond.selects "PausedFabric$Flow" ⟨"PausedFabric$Flow", "slowDown", "()V"⟩ ⟨"PausedFabric$Flow", "slowDown", "()V"⟩ : Cond) ∈ lw_gd := fb_tm (i := 316) (by decide +kernel) (by decide +kernel)
theorem zi_318 : (Cond.methodLink "PausedFabric$Flow" 56 ⟨"java/lang/Math", "max", "(II)I"⟩ : Cond) ∈ lw_gd := fb_tm (i := 318) (by decide +kernel) (by decide +kernel)
theorem zi_319 : (Cond.methodLink "PausedFabric$Flow" 53 ⟨"PausedFabric$Flow", "recover", "()V"⟩ : Cond) ∈ lw_gd := fb_tm (i := 319) (by decide +kernel) (by decide +kernel)
theorem zi_320 : (Cond.instanceMethod ⟨"PausedFabric$Flow", "recover", "()V"⟩ : Cond) ∈ lw_gd := fb_tm (i := 320) (by decide +kernel) (by decide +kernel)
theorem zi_321 : (Cond.selects "PausedFabric$Flow" ⟨"PausedFabric$Flow", "recover", "()V"⟩ ⟨"PausedFabric$Flow", "recover", "()V"⟩ : Cond) ∈ lw_gd := fb_tm (i := 321) (by decide +kernel) (by decide +kernel)
theorem zi_323 : (Cond.methodLink "PausedFabric" 189 ⟨"PausedFabric", "deliver", "(LPausedFabric$Port;)I"⟩ : Cond) ∈ lw_gd := fb_tm (i := 323) (by decide +kernel) (by decide +kernel)
theorem zi_325 : (Cond.instanceMethod ⟨"PausedFabric", "deliver", "(LPausedFabric$Port;)I"⟩ : Cond) ∈ lw_gd := fb_tm (i := 325) (by decide +kernel) (by decide +kernel)
theorem zi_327 : (Cond.methodLink "PausedFabric" 240 ⟨"PausedFabric$FrameQueue", "removeFirst", "()V"⟩ : Cond) ∈ lw_gd := fb_tm (i := 327) (by decide +kernel) (by decide +kernel)
theorem zi_328 : (Cond.instanceMethod ⟨"PausedFabric$FrameQueue", "removeFirst", "()V"⟩ : Cond) ∈ lw_gd := fb_tm (i := 328) (by decide +kernel) (by decide +kernel)
theorem zi_329 : (Cond.selects "PausedFabric$FrameQueue" ⟨"PausedFabric$FrameQueue", "removeFirst", "()V"⟩ ⟨"PausedFabric$FrameQueue", "removeFirst", "()V"⟩ : Cond) ∈ lw_gd := fb_tm (i := 329) (by decide +kernel) (by decide +kernel)
theorem zi_331 : (Cond.methodLink "PausedFabric" 243 ⟨"PausedFabric", "receive", "(LPausedFabric$Frame;)V"⟩ : Cond) ∈ lw_gd := fb_tm (i := 331) (by decide +kernel) (by decide +kernel)
theorem zi_332 : (Cond.static ⟨"PausedFabric", "receive", "(LPausedFabric$Frame;)V"⟩ : Cond) ∈ lw_gd := fb_tm (i := 332) (by decide +kernel) (by decide +kernel)
theorem zi_334 : (Cond.methodLink "PausedFabric" 246 ⟨"PausedFabric", "hasPlace", "(LPausedFabric$Port;LPausedFabric$Frame;)Z"⟩ : Cond) ∈ lw_gd := fb_tm (i := 334) (by decide +kernel) (by decide +kernel)
theorem zi_336 : (Cond.instanceMethod ⟨"PausedFabric", "hasPlace", "(LPausedFabric$Port;LPausedFabric$Frame;)Z"⟩ : Cond) ∈ lw_gd := fb_tm (i := 336) (by decide +kernel) (by decide +kernel)
theorem zi_338 : (Cond.methodLink "PausedFabric" 250 ⟨"PausedFabric", "hold", "(LPausedFabric$Port;LPausedFabric$Frame;)V"⟩ : Cond) ∈ lw_gd := fb_tm (i := 338) (by decide +kernel) (by decide +kernel)
theorem zi_340 : (Cond.instanceMethod ⟨"PausedFabric", "hold", "(LPausedFabric$Port;LPausedFabric$Frame;)V"⟩ : Cond) ∈ lw_gd := fb_tm (i := 340) (by decide +kernel) (by decide +kernel)
theorem zi_342 : (Cond.methodLink "PausedFabric" 254 ⟨"PausedFabric", "drop", "(LPausedFabric$Frame;)V"⟩ : Cond) ∈ lw_gd := fb_tm (i := 342) (by decide +kernel) (by decide +kernel)
theorem zi_343 : (Cond.static ⟨"PausedFabric", "drop", "(LPausedFabric$Frame;)V"⟩ : Cond) ∈ lw_gd := fb_tm (i := 343) (by decide +kernel) (by decide +kernel)
theorem zi_345 : (Cond.methodLink "PausedFabric" 193 ⟨"PausedFabric", "choose", "(LPausedFabric$Port;)V"⟩ : Cond) ∈ lw_gd := fb_tm (i := 345) (by decide +kernel) (by decide +kernel)
theorem zi_347 : (Cond.instanceMethod ⟨"PausedFabric", "choose", "(LPausedFabric$Port;)V"⟩ : Cond) ∈ lw_gd := fb_tm (i := 347) (by decide +kernel) (by decide +kernel)
theorem zi_349 : (Cond.methodLink "PausedFabric" 270 ⟨"PausedFabric", "readyFrame", "(LPausedFabric$Port;I)LPausedFabric$Frame;"⟩ : Cond) ∈ lw_gd := fb_tm (i := 349) (by decide +kernel) (by decide +kernel)
theorem zi_351 : (Cond.instanceMethod ⟨"PausedFabric", "readyFrame", "(LPausedFabric$Port;I)LPausedFabric$Frame;"⟩ : Cond) ∈ lw_gd := fb_tm (i := 351) (by decide +kernel) (by decide +kernel)
theorem zi_353 : (Cond.methodLink "PausedFabric" 277 ⟨"PausedFabric", "beginSending", "(LPausedFabric$Port;LPausedFabric$Frame;)V"⟩ : Cond) ∈ lw_gd := fb_tm (i := 353) (by decide +kernel) (by decide +kernel)
theorem zi_355 : (Cond.instanceMethod ⟨"PausedFabric", "beginSending", "(LPausedFabric$Port;LPausedFabric$Frame;)V"⟩ : Cond) ∈ lw_gd := fb_tm (i := 355) (by decide +kernel) (by decide +kernel)
theorem zi_357 : (Cond.methodLink "PausedFabric" 283 ⟨"PausedFabric$Flow", "waitFrom", "(II)V"⟩ : Cond) ∈ lw_gd := fb_tm (i := 357) (by decide +kernel) (by decide +kernel)
theorem zi_358 : (Cond.instanceMethod ⟨"PausedFabric$Flow", "waitFrom", "(II)V"⟩ : Cond) ∈ lw_gd := fb_tm (i := 358) (by decide +kernel) (by decide +kernel)
theorem zi_359 : (Cond.selects "PausedFabric$Flow" ⟨"PausedFabric$Flow", "waitFrom", "(II)V"⟩ ⟨"PausedFabric$Flow", "waitFrom", "(II)V"⟩ : Cond) ∈ lw_gd := fb_tm (i := 359) (by decide +kernel) (by decide +kernel)
theorem zi_361 : (Cond.methodLink "PausedFabric" 196 ⟨"PausedFabric", "remember", "()V"⟩ : Cond) ∈ lw_gd := fb_tm (i := 361) (by decide +kernel) (by decide +kernel)
theorem zi_363 : (Cond.instanceMethod ⟨"PausedFabric", "remember", "()V"⟩ : Cond) ∈ lw_gd := fb_tm (i := 363) (by decide +kernel) (by decide +kernel)
theorem zi_365 : (Cond.methodLink "PausedFabric" 199 ⟨"PausedFabric", "withLatest", "(IZ)I"⟩ : Cond) ∈ lw_gd := fb_tm (i := 365) (by decide +kernel) (by decide +kernel)
theorem zi_366 : (Cond.static ⟨"PausedFabric", "withLatest", "(IZ)I"⟩ : Cond) ∈ lw_gd := fb_tm (i := 366) (by decide +kernel) (by decide +kernel)
theorem zi_368 : (Cond.methodLink "PausedFabricLaw" 41 ⟨"PausedFabric", "clock", "()I"⟩ : Cond) ∈ lw_gd := fb_tm (i := 368) (by decide +kernel) (by decide +kernel)
theorem zi_369 : (Cond.instanceMethod ⟨"PausedFabric", "clock", "()I"⟩ : Cond) ∈ lw_gd := fb_tm (i := 369) (by decide +kernel) (by decide +kernel)
theorem zi_370 : (Cond.selects "PausedFabric" ⟨"PausedFabric", "clock", "()I"⟩ ⟨"PausedFabric", "clock", "()I"⟩ : Cond) ∈ lw_gd := fb_tm (i := 370) (by decide +kernel) (by decide +kernel)
theorem zi_372 : (Cond.methodLink "PausedFabricLaw" 46 ⟨"PausedFabric", "state", "(I)I"⟩ : Cond) ∈ lw_gd := fb_tm (i := 372) (by decide +kernel) (by decide +kernel)
theorem zi_373 : (Cond.instanceMethod ⟨"PausedFabric", "state", "(I)I"⟩ : Cond) ∈ lw_gd := fb_tm (i := 373) (by decide +kernel) (by decide +kernel)
theorem zi_374 : (Cond.selects "PausedFabric" ⟨"PausedFabric", "state", "(I)I"⟩ ⟨"PausedFabric", "state", "(I)I"⟩ : Cond) ∈ lw_gd := fb_tm (i := 374) (by decide +kernel) (by decide +kernel)
theorem zi_376 : (Cond.methodLink "PausedFabric" 88 ⟨"PausedFabric", "frameAt", "(I)LPausedFabric$Frame;"⟩ : Cond) ∈ lw_gd := fb_tm (i := 376) (by decide +kernel) (by decide +kernel)
theorem zi_378 : (Cond.instanceMethod ⟨"PausedFabric", "frameAt", "(I)LPausedFabric$Frame;"⟩ : Cond) ∈ lw_gd := fb_tm (i := 378) (by decide +kernel) (by decide +kernel)
theorem zi_380 : (Cond.methodLink "PausedFabricLaw" 50 ⟨"PausedFabric", "node", "(I)I"⟩ : Cond) ∈ lw_gd := fb_tm (i := 380) (by decide +kernel) (by decide +kernel)
theorem zi_381 : (Cond.instanceMethod ⟨"PausedFabric", "node", "(I)I"⟩ : Cond) ∈ lw_gd := fb_tm (i := 381) (by decide +kernel) (by decide +kernel)
theorem zi_382 : (Cond.selects "PausedFabric" ⟨"PausedFabric", "node", "(I)I"⟩ ⟨"PausedFabric", "node", "(I)I"⟩ : Cond) ∈ lw_gd := fb_tm (i := 382) (by decide +kernel) (by decide +kernel)
theorem zi_384 : (Cond.methodLink "PausedFabricLaw" 54 ⟨"PausedFabric", "marked", "(I)Z"⟩ : Cond) ∈ lw_gd := fb_tm (i := 384) (by decide +kernel) (by decide +kernel)
theorem zi_385 : (Cond.instanceMethod ⟨"PausedFabric", "marked", "(I)Z"⟩ : Cond) ∈ lw_gd := fb_tm (i := 385) (by decide +kernel) (by decide +kernel)
theorem zi_386 : (Cond.selects "PausedFabric" ⟨"PausedFabric", "marked", "(I)Z"⟩ ⟨"PausedFabric", "marked", "(I)Z"⟩ : Cond) ∈ lw_gd := fb_tm (i := 386) (by decide +kernel) (by decide +kernel)
theorem zi_388 : (Cond.methodLink "PausedFabricLaw" 59 ⟨"PausedFabric", "queued", "(III)I"⟩ : Cond) ∈ lw_gd := fb_tm (i := 388) (by decide +kernel) (by decide +kernel)
theorem zi_389 : (Cond.instanceMethod ⟨"PausedFabric", "queued", "(III)I"⟩ : Cond) ∈ lw_gd := fb_tm (i := 389) (by decide +kernel) (by decide +kernel)
theorem zi_390 : (Cond.selects "PausedFabric" ⟨"PausedFabric", "queued", "(III)I"⟩ ⟨"PausedFabric", "queued", "(III)I"⟩ : Cond) ∈ lw_gd := fb_tm (i := 390) (by decide +kernel) (by decide +kernel)
theorem zi_392 : (Cond.methodLink "PausedFabricLaw" 63 ⟨"PausedFabric", "held", "(III)I"⟩ : Cond) ∈ lw_gd := fb_tm (i := 392) (by decide +kernel) (by decide +kernel)
theorem zi_393 : (Cond.instanceMethod ⟨"PausedFabric", "held", "(III)I"⟩ : Cond) ∈ lw_gd := fb_tm (i := 393) (by decide +kernel) (by decide +kernel)
theorem zi_394 : (Cond.selects "PausedFabric" ⟨"PausedFabric", "held", "(III)I"⟩ ⟨"PausedFabric", "held", "(III)I"⟩ : Cond) ∈ lw_gd := fb_tm (i := 394) (by decide +kernel) (by decide +kernel)
theorem zi_396 : (Cond.methodLink "PausedFabricLaw" 67 ⟨"PausedFabric", "asks", "(II)Z"⟩ : Cond) ∈ lw_gd := fb_tm (i := 396) (by decide +kernel) (by decide +kernel)
theorem zi_397 : (Cond.instanceMethod ⟨"PausedFabric", "asks", "(II)Z"⟩ : Cond) ∈ lw_gd := fb_tm (i := 397) (by decide +kernel) (by decide +kernel)
theorem zi_398 : (Cond.selects "PausedFabric" ⟨"PausedFabric", "asks", "(II)Z"⟩ ⟨"PausedFabric", "asks", "(II)Z"⟩ : Cond) ∈ lw_gd := fb_tm (i := 398) (by decide +kernel) (by decide +kernel)
theorem zi_400 : (Cond.methodLink "PausedFabricLaw" 71 ⟨"PausedFabric", "paused", "(II)Z"⟩ : Cond) ∈ lw_gd := fb_tm (i := 400) (by decide +kernel) (by decide +kernel)
theorem zi_401 : (Cond.instanceMethod ⟨"PausedFabric", "paused", "(II)Z"⟩ : Cond) ∈ lw_gd := fb_tm (i := 401) (by decide +kernel) (by decide +kernel)
theorem zi_402 : (Cond.selects "PausedFabric" ⟨"PausedFabric", "paused", "(II)Z"⟩ ⟨"PausedFabric", "paused", "(II)Z"⟩ : Cond) ∈ lw_gd := fb_tm (i := 402) (by decide +kernel) (by decide +kernel)
theorem zi_404 : (Cond.methodLink "PausedFabricLaw" 75 ⟨"PausedFabric", "rate", "(I)I"⟩ : Cond) ∈ lw_gd := fb_tm (i := 404) (by decide +kernel) (by decide +kernel)
theorem zi_405 : (Cond.instanceMethod ⟨"PausedFabric", "rate", "(I)I"⟩ : Cond) ∈ lw_gd := fb_tm (i := 405) (by decide +kernel) (by decide +kernel)
theorem zi_406 : (Cond.selects "PausedFabric" ⟨"PausedFabric", "rate", "(I)I"⟩ ⟨"PausedFabric", "rate", "(I)I"⟩ : Cond) ∈ lw_gd := fb_tm (i := 406) (by decide +kernel) (by decide +kernel)
theorem zi_408 : (Cond.methodLink "PausedFabricLaw" 79 ⟨"PausedFabric", "alpha", "(I)I"⟩ : Cond) ∈ lw_gd := fb_tm (i := 408) (by decide +kernel) (by decide +kernel)
theorem zi_409 : (Cond.instanceMethod ⟨"PausedFabric", "alpha", "(I)I"⟩ : Cond) ∈ lw_gd := fb_tm (i := 409) (by decide +kernel) (by decide +kernel)
theorem zi_410 : (Cond.selects "PausedFabric" ⟨"PausedFabric", "alpha", "(I)I"⟩ ⟨"PausedFabric", "alpha", "(I)I"⟩ : Cond) ∈ lw_gd := fb_tm (i := 410) (by decide +kernel) (by decide +kernel)
theorem zi_412 : (Cond.methodLink "PausedFabricLaw" 83 ⟨"PausedFabric", "received", "(I)I"⟩ : Cond) ∈ lw_gd := fb_tm (i := 412) (by decide +kernel) (by decide +kernel)
theorem zi_413 : (Cond.instanceMethod ⟨"PausedFabric", "received", "(I)I"⟩ : Cond) ∈ lw_gd := fb_tm (i := 413) (by decide +kernel) (by decide +kernel)
theorem zi_414 : (Cond.selects "PausedFabric" ⟨"PausedFabric", "received", "(I)I"⟩ ⟨"PausedFabric", "received", "(I)I"⟩ : Cond) ∈ lw_gd := fb_tm (i := 414) (by decide +kernel) (by decide +kernel)
theorem zi_416 : (Cond.methodLink "PausedFabricLaw" 87 ⟨"PausedFabric", "dropped", "(I)I"⟩ : Cond) ∈ lw_gd := fb_tm (i := 416) (by decide +kernel) (by decide +kernel)
theorem zi_417 : (Cond.instanceMethod ⟨"PausedFabric", "dropped", "(I)I"⟩ : Cond) ∈ lw_gd := fb_tm (i := 417) (by decide +kernel) (by decide +kernel)
theorem zi_418 : (Cond.selects "PausedFabric" ⟨"PausedFabric", "dropped", "(I)I"⟩ ⟨"PausedFabric", "dropped", "(I)I"⟩ : Cond) ∈ lw_gd := fb_tm (i := 418) (by decide +kernel) (by decide +kernel)
theorem zi_420 : (Cond.methodLink "PausedFabricLaw" 91 ⟨"PausedFabric", "last", "(I)I"⟩ : Cond) ∈ lw_gd := fb_tm (i := 420) (by decide +kernel) (by decide +kernel)
theorem zi_421 : (Cond.instanceMethod ⟨"PausedFabric", "last", "(I)I"⟩ : Cond) ∈ lw_gd := fb_tm (i := 421) (by decide +kernel) (by decide +kernel)
theorem zi_422 : (Cond.selects "PausedFabric" ⟨"PausedFabric", "last", "(I)I"⟩ ⟨"PausedFabric", "last", "(I)I"⟩ : Cond) ∈ lw_gd := fb_tm (i := 422) (by decide +kernel) (by decide +kernel)
theorem zi_424 : (Cond.methodLink "PausedFabricLaw" 9 ⟨"PausedFabricLaw", "cell", "([II)I"⟩ : Cond) ∈ lw_gd := fb_tm (i := 424) (by decide +kernel) (by decide +kernel)
theorem zi_425 : (Cond.static ⟨"PausedFabricLaw", "cell", "([II)I"⟩ : Cond) ∈ lw_gd := fb_tm (i := 425) (by decide +kernel) (by decide +kernel)
theorem zi_427 : (Cond.classLink "PausedFabricLaw" 18 "PausedFabricModel" : Cond) ∈ lw_gd := fb_tm (i := 427) (by decide +kernel) (by decide +kernel)
theorem zi_428 : (Cond.instantiable "PausedFabricModel" 28 : Cond) ∈ lw_gd := fb_tm (i := 428) (by decide +kernel) (by decide +kernel)
theorem zi_429 : (Cond.methodLink "PausedFabricLaw" 20 ⟨"PausedFabricModel", "<init>", "(IIII)V"⟩ : Cond) ∈ lw_gd := fb_tm (i := 429) (by decide +kernel) (by decide +kernel)
theorem zi_430 : (Cond.instanceMethod ⟨"PausedFabricModel", "<init>", "(IIII)V"⟩ : Cond) ∈ lw_gd := fb_tm (i := 430) (by decide +kernel) (by decide +kernel)
theorem zi_432 : (Cond.methodLink "PausedFabricModel" 1 ⟨"java/lang/Object", "<init>", "()V"⟩ : Cond) ∈ lw_gd := fb_tm (i := 432) (by decide +kernel) (by decide +kernel)
theorem zi_433 : (Cond.methodLink "PausedFabricModel" 71 ⟨"PausedFabricModel", "nearest", "(III)I"⟩ : Cond) ∈ lw_gd := fb_tm (i := 433) (by decide +kernel) (by decide +kernel)
theorem zi_434 : (Cond.static ⟨"PausedFabricModel", "nearest", "(III)I"⟩ : Cond) ∈ lw_gd := fb_tm (i := 434) (by decide +kernel) (by decide +kernel)
theorem zi_436 : (Cond.fieldLink "PausedFabricModel" 75 "PausedFabricModel" "delay" "I" : Cond) ∈ lw_gd := fb_tm (i := 436) (by decide +kernel) (by decide +kernel)
theorem zi_437 : (Cond.fieldLink "PausedFabricModel" 79 "PausedFabricModel" "xoff" "I" : Cond) ∈ lw_gd := fb_tm (i := 437) (by decide +kernel) (by decide +kernel)
theorem zi_438 : (Cond.fieldLink "PausedFabricModel" 82 "PausedFabricModel" "room" "I" : Cond) ∈ lw_gd := fb_tm (i := 438) (by decide +kernel) (by decide +kernel)
theorem zi_439 : (Cond.fieldLink "PausedFabricModel" 85 "PausedFabricModel" "mark" "I" : Cond) ∈ lw_gd := fb_tm (i := 439) (by decide +kernel) (by decide +kernel)
theorem zi_440 : (Cond.fieldLink "PausedFabricModel" 106 "PausedFabricModel" "time" "I" : Cond) ∈ lw_gd := fb_tm (i := 440) (by decide +kernel) (by decide +kernel)
theorem zi_441 : (Cond.fieldLink "PausedFabricModel" 109 "PausedFabricModel" "order" "I" : Cond) ∈ lw_gd := fb_tm (i := 441) (by decide +kernel) (by decide +kernel)
theorem zi_442 : (Cond.fieldLink "PausedFabricModel" 88 "PausedFabricModel" "flows" "I" : Cond) ∈ lw_gd := fb_tm (i := 442) (by decide +kernel) (by decide +kernel)
theorem zi_443 : (Cond.fieldLink "PausedFabricModel" 7 "PausedFabricModel" "start" "[I" : Cond) ∈ lw_gd := fb_tm (i := 443) (by decide +kernel) (by decide +kernel)
theorem zi_444 : (Cond.fieldLink "PausedFabricModel" 13 "PausedFabricModel" "goal" "[I" : Cond) ∈ lw_gd := fb_tm (i := 444) (by decide +kernel) (by decide +kernel)
theorem zi_445 : (Cond.fieldLink "PausedFabricModel" 16 "PausedFabricModel" "priorityOf" "[I" : Cond) ∈ lw_gd := fb_tm (i := 445) (by decide +kernel) (by decide +kernel)
theorem zi_446 : (Cond.fieldLink "PausedFabricModel" 19 "PausedFabricModel" "rates" "[I" : Cond) ∈ lw_gd := fb_tm (i := 446) (by decide +kernel) (by decide +kernel)
theorem zi_447 : (Cond.fieldLink "PausedFabricModel" 22 "PausedFabricModel" "target" "[I" : Cond) ∈ lw_gd := fb_tm (i := 447) (by decide +kernel) (by decide +kernel)
theorem zi_448 : (Cond.fieldLink "PausedFabricModel" 25 "PausedFabricModel" "alphas" "[I" : Cond) ∈ lw_gd := fb_tm (i := 448) (by decide +kernel) (by decide +kernel)
theorem zi_449 : (Cond.fieldLink "PausedFabricModel" 28 "PausedFabricModel" "calm" "[I" : Cond) ∈ lw_gd := fb_tm (i := 449) (by decide +kernel) (by decide +kernel)
theorem zi_450 : (Cond.fieldLink "PausedFabricModel" 31 "PausedFabricModel" "wait" "[I" : Cond) ∈ lw_gd := fb_tm (i := 450) (by decide +kernel) (by decide +kernel)
theorem zi_451 : (Cond.fieldLink "PausedFabricModel" 91 "PausedFabricModel" "frames" "I" : Cond) ∈ lw_gd := fb_tm (i := 451) (by decide +kernel) (by decide +kernel)
theorem zi_452 : (Cond.fieldLink "PausedFabricModel" 34 "PausedFabricModel" "flowOf" "[I" : Cond) ∈ lw_gd := fb_tm (i := 452) (by decide +kernel) (by decide +kernel)
theorem zi_453 : (Cond.fieldLink "PausedFabricModel" 37 "PausedFabricModel" "lengths" "[I" : Cond) ∈ lw_gd := fb_tm (i := 453) (by decide +kernel) (by decide +kernel)
theorem zi_454 : (Cond.fieldLink "PausedFabricModel" 40 "PausedFabricModel" "states" "[I" : Cond) ∈ lw_gd := fb_tm (i := 454) (by decide +kernel) (by decide +kernel)
theorem zi_455 : (Cond.fieldLink "PausedFabricModel" 43 "PausedFabricModel" "place" "[I" : Cond) ∈ lw_gd := fb_tm (i := 455) (by decide +kernel) (by decide +kernel)
theorem zi_456 : (Cond.fieldLink "PausedFabricModel" 46 "PausedFabricModel" "came" "[I" : Cond) ∈ lw_gd := fb_tm (i := 456) (by decide +kernel) (by decide +kernel)
theorem zi_457 : (Cond.fieldLink "PausedFabricModel" 49 "PausedFabricModel" "when" "[I" : Cond) ∈ lw_gd := fb_tm (i := 457) (by decide +kernel) (by decide +kernel)
theorem zi_458 : (Cond.fieldLink "PausedFabricModel" 52 "PausedFabricModel" "marks" "[Z" : Cond) ∈ lw_gd := fb_tm (i := 458) (by decide +kernel) (by decide +kernel)
theorem zi_459 : (Cond.fieldLink "PausedFabricModel" 56 "PausedFabricModel" "turn" "[I" : Cond) ∈ lw_gd := fb_tm (i := 459) (by decide +kernel) (by decide +kernel)
theorem zi_460 : (Cond.fieldLink "PausedFabricModel" 59 "PausedFabricModel" "credit" "[I" : Cond) ∈ lw_gd := fb_tm (i := 460) (by decide +kernel) (by decide +kernel)
theorem zi_461 : (Cond.fieldLink "PausedFabricModel" 62 "PausedFabricModel" "quantum" "[I" : Cond) ∈ lw_gd := fb_tm (i := 461) (by decide +kernel) (by decide +kernel)
theorem zi_462 : (Cond.fieldLink "PausedFabricModel" 65 "PausedFabricModel" "asking" "[Z" : Cond) ∈ lw_gd := fb_tm (i := 462) (by decide +kernel) (by decide +kernel)
theorem zi_463 : (Cond.fieldLink "PausedFabricModel" 68 "PausedFabricModel" "asked" "[Z" : Cond) ∈ lw_gd := fb_tm (i := 463) (by decide +kernel) (by decide +kernel)
theorem zi_464 : (Cond.laysFinal "PausedFabricModel" "PausedFabricModel" "delay" "I" : Cond) ∈ lw_gd := fb_tm (i := 464) (by decide +kernel) (by decide +kernel)
theorem zi_466 : (Cond.laysFinal "PausedFabricModel" "PausedFabricModel" "xoff" "I" : Cond) ∈ lw_gd := fb_tm (i := 466) (by decide +kernel) (by decide +kernel)
theorem zi_468 : (Cond.laysFinal "PausedFabricModel" "PausedFabricModel" "room" "I" : Cond) ∈ lw_gd := fb_tm (i := 468) (by decide +kernel) (by decide +kernel)
theorem zi_470 : (Cond.laysFinal "PausedFabricModel" "PausedFabricModel" "mark" "I" : Cond) ∈ lw_gd := fb_tm (i := 470) (by decide +kernel) (by decide +kernel)
theorem zi_472 : (Cond.lays "PausedFabricModel" "PausedFabricModel" "time" "I" : Cond) ∈ lw_gd := fb_tm (i := 472) (by decide +kernel) (by decide +kernel)
theorem zi_474 : (Cond.lays "PausedFabricModel" "PausedFabricModel" "order" "I" : Cond) ∈ lw_gd := fb_tm (i := 474) (by decide +kernel) (by decide +kernel)
theorem zi_476 : (Cond.lays "PausedFabricModel" "PausedFabricModel" "flows" "I" : Cond) ∈ lw_gd := fb_tm (i := 476) (by decide +kernel) (by decide +kernel)
theorem zi_478 : (Cond.laysFinal "PausedFabricModel" "PausedFabricModel" "start" "[I" : Cond) ∈ lw_gd := fb_tm (i := 478) (by decide +kernel) (by decide +kernel)
theorem zi_480 : (Cond.laysFinal "PausedFabricModel" "PausedFabricModel" "goal" "[I" : Cond) ∈ lw_gd := fb_tm (i := 480) (by decide +kernel) (by decide +kernel)
theorem zi_482 : (Cond.laysFinal "PausedFabricModel" "PausedFabricModel" "priorityOf" "[I" : Cond) ∈ lw_gd := fb_tm (i := 482) (by decide +kernel) (by decide +kernel)
theorem zi_484 : (Cond.laysFinal "PausedFabricModel" "PausedFabricModel" "rates" "[I" : Cond) ∈ lw_gd := fb_tm (i := 484) (by decide +kernel) (by decide +kernel)
theorem zi_486 : (Cond.laysFinal "PausedFabricModel" "PausedFabricModel" "target" "[I" : Cond) ∈ lw_gd := fb_tm (i := 486) (by decide +kernel) (by decide +kernel)
theorem zi_488 : (Cond.laysFinal "PausedFabricModel" "PausedFabricModel" "alphas" "[I" : Cond) ∈ lw_gd := fb_tm (i := 488) (by decide +kernel) (by decide +kernel)
theorem zi_490 : (Cond.laysFinal "PausedFabricModel" "PausedFabricModel" "calm" "[I" : Cond) ∈ lw_gd := fb_tm (i := 490) (by decide +kernel) (by decide +kernel)
theorem zi_492 : (Cond.laysFinal "PausedFabricModel" "PausedFabricModel" "wait" "[I" : Cond) ∈ lw_gd := fb_tm (i := 492) (by decide +kernel) (by decide +kernel)
theorem zi_494 : (Cond.lays "PausedFabricModel" "PausedFabricModel" "frames" "I" : Cond) ∈ lw_gd := fb_tm (i := 494) (by decide +kernel) (by decide +kernel)
theorem zi_496 : (Cond.laysFinal "PausedFabricModel" "PausedFabricModel" "flowOf" "[I" : Cond) ∈ lw_gd := fb_tm (i := 496) (by decide +kernel) (by decide +kernel)
theorem zi_498 : (Cond.laysFinal "PausedFabricModel" "PausedFabricModel" "lengths" "[I" : Cond) ∈ lw_gd := fb_tm (i := 498) (by decide +kernel) (by decide +kernel)
theorem zi_500 : (Cond.laysFinal "PausedFabricModel" "PausedFabricModel" "states" "[I" : Cond) ∈ lw_gd := fb_tm (i := 500) (by decide +kernel) (by decide +kernel)
theorem zi_502 : (Cond.laysFinal "PausedFabricModel" "PausedFabricModel" "place" "[I" : Cond) ∈ lw_gd := fb_tm (i := 502) (by decide +kernel) (by decide +kernel)
theorem zi_504 : (Cond.laysFinal "PausedFabricModel" "PausedFabricModel" "came" "[I" : Cond) ∈ lw_gd := fb_tm (i := 504) (by decide +kernel) (by decide +kernel)
theorem zi_506 : (Cond.laysFinal "PausedFabricModel" "PausedFabricModel" "when" "[I" : Cond) ∈ lw_gd := fb_tm (i := 506) (by decide +kernel) (by decide +kernel)
theorem zi_508 : (Cond.laysFinal "PausedFabricModel" "PausedFabricModel" "marks" "[Z" : Cond) ∈ lw_gd := fb_tm (i := 508) (by decide +kernel) (by decide +kernel)
theorem zi_510 : (Cond.laysFinal "PausedFabricModel" "PausedFabricModel" "turn" "[I" : Cond) ∈ lw_gd := fb_tm (i := 510) (by decide +kernel) (by decide +kernel)
theorem zi_512 : (Cond.laysFinal "PausedFabricModel" "PausedFabricModel" "credit" "[I" : Cond) ∈ lw_gd := fb_tm (i := 512) (by decide +kernel) (by decide +kernel)
theorem zi_514 : (Cond.laysFinal "PausedFabricModel" "PausedFabricModel" "quantum" "[I" : Cond) ∈ lw_gd := fb_tm (i := 514) (by decide +kernel) (by decide +kernel)
theorem zi_516 : (Cond.laysFinal "PausedFabricModel" "PausedFabricModel" "asking" "[Z" : Cond) ∈ lw_gd := fb_tm (i := 516) (by decide +kernel) (by decide +kernel)
theorem zi_518 : (Cond.laysFinal "PausedFabricModel" "PausedFabricModel" "asked" "[Z" : Cond) ∈ lw_gd := fb_tm (i := 518) (by decide +kernel) (by decide +kernel)
theorem zi_521 : (Cond.arrayClass .boolean : Cond) ∈ lw_gd := fb_tm (i := 521) (by decide +kernel) (by decide +kernel)
theorem zi_522 : (Cond.methodLink "PausedFabricLaw" 25 ⟨"PausedFabricModel", "flow", "(III)I"⟩ : Cond) ∈ lw_gd := fb_tm (i := 522) (by decide +kernel) (by decide +kernel)
theorem zi_523 : (Cond.instanceMethod ⟨"PausedFabricModel", "flow", "(III)I"⟩ : Cond) ∈ lw_gd := fb_tm (i := 523) (by decide +kernel) (by decide +kernel)
theorem zi_524 : (Cond.selects "PausedFabricModel" ⟨"PausedFabricModel", "flow", "(III)I"⟩ ⟨"PausedFabricModel", "flow", "(III)I"⟩ : Cond) ∈ lw_gd := fb_tm (i := 524) (by decide +kernel) (by decide +kernel)
theorem zi_526 : (Cond.methodLink "PausedFabricLaw" 30 ⟨"PausedFabricModel", "share", "(II)Z"⟩ : Cond) ∈ lw_gd := fb_tm (i := 526) (by decide +kernel) (by decide +kernel)
theorem zi_527 : (Cond.instanceMethod ⟨"PausedFabricModel", "share", "(II)Z"⟩ : Cond) ∈ lw_gd := fb_tm (i := 527) (by decide +kernel) (by decide +kernel)
theorem zi_528 : (Cond.selects "PausedFabricModel" ⟨"PausedFabricModel", "share", "(II)Z"⟩ ⟨"PausedFabricModel", "share", "(II)Z"⟩ : Cond) ∈ lw_gd := fb_tm (i := 528) (by decide +kernel) (by decide +kernel)
theorem zi_530 : (Cond.methodLink "PausedFabricLaw" 35 ⟨"PausedFabricModel", "inject", "(II)I"⟩ : Cond) ∈ lw_gd := fb_tm (i := 530) (by decide +kernel) (by decide +kernel)
theorem zi_531 : (Cond.instanceMethod ⟨"PausedFabricModel", "inject", "(II)I"⟩ : Cond) ∈ lw_gd := fb_tm (i := 531) (by decide +kernel) (by decide +kernel)
theorem zi_532 : (Cond.selects "PausedFabricModel" ⟨"PausedFabricModel", "inject", "(II)I"⟩ ⟨"PausedFabricModel", "inject", "(II)I"⟩ : Cond) ∈ lw_gd := fb_tm (i := 532) (by decide +kernel) (by decide +kernel)
theorem zi_534 : (Cond.methodLink "PausedFabricModel" 112 ⟨"PausedFabricModel", "isFlow", "(I)Z"⟩ : Cond) ∈ lw_gd := fb_tm (i := 534) (by decide +kernel) (by decide +kernel)
theorem zi_536 : (Cond.instanceMethod ⟨"PausedFabricModel", "isFlow", "(I)Z"⟩ : Cond) ∈ lw_gd := fb_tm (i := 536) (by decide +kernel) (by decide +kernel)
theorem zi_538 : (Cond.methodLink "PausedFabricModel" 116 ⟨"PausedFabricModel", "enqueue", "(I)V"⟩ : Cond) ∈ lw_gd := fb_tm (i := 538) (by decide +kernel) (by decide +kernel)
theorem zi_540 : (Cond.instanceMethod ⟨"PausedFabricModel", "enqueue", "(I)V"⟩ : Cond) ∈ lw_gd := fb_tm (i := 540) (by decide +kernel) (by decide +kernel)
theorem zi_542 : (Cond.methodLink "PausedFabricLaw" 40 ⟨"PausedFabricModel", "tick", "(I)I"⟩ : Cond) ∈ lw_gd := fb_tm (i := 542) (by decide +kernel) (by decide +kernel)
theorem zi_543 : (Cond.instanceMethod ⟨"PausedFabricModel", "tick", "(I)I"⟩ : Cond) ∈ lw_gd := fb_tm (i := 543) (by decide +kernel) (by decide +kernel)
theorem zi_544 : (Cond.selects "PausedFabricModel" ⟨"PausedFabricModel", "tick", "(I)I"⟩ ⟨"PausedFabricModel", "tick", "(I)I"⟩ : Cond) ∈ lw_gd := fb_tm (i := 544) (by decide +kernel) (by decide +kernel)
theorem zi_546 : (Cond.methodLink "PausedFabricModel" 150 ⟨"PausedFabricModel", "arrived", "()I"⟩ : Cond) ∈ lw_gd := fb_tm (i := 546) (by decide +kernel) (by decide +kernel)
theorem zi_548 : (Cond.instanceMethod ⟨"PausedFabricModel", "arrived", "()I"⟩ : Cond) ∈ lw_gd := fb_tm (i := 548) (by decide +kernel) (by decide +kernel)
theorem zi_550 : (Cond.methodLink "PausedFabricModel" 154 ⟨"PausedFabricModel", "endSending", "()V"⟩ : Cond) ∈ lw_gd := fb_tm (i := 550) (by decide +kernel) (by decide +kernel)
theorem zi_552 : (Cond.instanceMethod ⟨"PausedFabricModel", "endSending", "()V"⟩ : Cond) ∈ lw_gd := fb_tm (i := 552) (by decide +kernel) (by decide +kernel)
theorem zi_554 : (Cond.methodLink "PausedFabricModel" 98 ⟨"PausedFabricModel", "nodeAt", "(II)I"⟩ : Cond) ∈ lw_gd := fb_tm (i := 554) (by decide +kernel) (by decide +kernel)
theorem zi_556 : (Cond.instanceMethod ⟨"PausedFabricModel", "nodeAt", "(II)I"⟩ : Cond) ∈ lw_gd := fb_tm (i := 556) (by decide +kernel) (by decide +kernel)
theorem zi_558 : (Cond.methodLink "PausedFabricModel" 94 ⟨"PausedFabricModel", "end", "(I)I"⟩ : Cond) ∈ lw_gd := fb_tm (i := 558) (by decide +kernel) (by decide +kernel)
theorem zi_560 : (Cond.instanceMethod ⟨"PausedFabricModel", "end", "(I)I"⟩ : Cond) ∈ lw_gd := fb_tm (i := 560) (by decide +kernel) (by decide +kernel)
theorem zi_562 : (Cond.methodLink "PausedFabricModel" 120 ⟨"PausedFabricModel", "holds", "(III)I"⟩ : Cond) ∈ lw_gd := fb_tm (i := 562) (by decide +kernel) (by decide +kernel)
theorem zi_564 : (Cond.instanceMethod ⟨"PausedFabricModel", "holds", "(III)I"⟩ : Cond) ∈ lw_gd := fb_tm (i := 564) (by decide +kernel) (by decide +kernel)
theorem zi_566 : (Cond.methodLink "PausedFabricModel" 157 ⟨"PausedFabricModel", "slow", "(I)V"⟩ : Cond) ∈ lw_gd := fb_tm (i := 566) (by decide +kernel) (by decide +kernel)
theorem zi_568 : (Cond.instanceMethod ⟨"PausedFabricModel", "slow", "(I)V"⟩ : Cond) ∈ lw_gd := fb_tm (i := 568) (by decide +kernel) (by decide +kernel)
theorem zi_570 : (Cond.methodLink "PausedFabricModel" 123 ⟨"PausedFabricModel", "told", "(I)Z"⟩ : Cond) ∈ lw_gd := fb_tm (i := 570) (by decide +kernel) (by decide +kernel)
theorem zi_572 : (Cond.instanceMethod ⟨"PausedFabricModel", "told", "(I)Z"⟩ : Cond) ∈ lw_gd := fb_tm (i := 572) (by decide +kernel) (by decide +kernel)
theorem zi_574 : (Cond.methodLink "PausedFabricModel" 160 ⟨"PausedFabricModel", "arrivals", "()V"⟩ : Cond) ∈ lw_gd := fb_tm (i := 574) (by decide +kernel) (by decide +kernel)
theorem zi_576 : (Cond.instanceMethod ⟨"PausedFabricModel", "arrivals", "()V"⟩ : Cond) ∈ lw_gd := fb_tm (i := 576) (by decide +kernel) (by decide +kernel)
theorem zi_578 : (Cond.methodLink "PausedFabricModel" 129 ⟨"PausedFabricModel", "isPort", "(II)Z"⟩ : Cond) ∈ lw_gd := fb_tm (i := 578) (by decide +kernel) (by decide +kernel)
theorem zi_579 : (Cond.static ⟨"PausedFabricModel", "isPort", "(II)Z"⟩ : Cond) ∈ lw_gd := fb_tm (i := 579) (by decide +kernel) (by decide +kernel)
theorem zi_581 : (Cond.methodLink "PausedFabricModel" 102 ⟨"PausedFabricModel", "between", "(III)Z"⟩ : Cond) ∈ lw_gd := fb_tm (i := 581) (by decide +kernel) (by decide +kernel)
theorem zi_583 : (Cond.instanceMethod ⟨"PausedFabricModel", "between", "(III)Z"⟩ : Cond) ∈ lw_gd := fb_tm (i := 583) (by decide +kernel) (by decide +kernel)
theorem zi_585 : (Cond.methodLink "PausedFabricModel" 133 ⟨"PausedFabricModel", "arrive", "(III)V"⟩ : Cond) ∈ lw_gd := fb_tm (i := 585) (by decide +kernel) (by decide +kernel)
theorem zi_587 : (Cond.instanceMethod ⟨"PausedFabricModel", "arrive", "(III)V"⟩ : Cond) ∈ lw_gd := fb_tm (i := 587) (by decide +kernel) (by decide +kernel)
theorem zi_589 : (Cond.methodLink "PausedFabricModel" 126 ⟨"PausedFabricModel", "queueLength", "(III)I"⟩ : Cond) ∈ lw_gd := fb_tm (i := 589) (by decide +kernel) (by decide +kernel)
theorem zi_591 : (Cond.instanceMethod ⟨"PausedFabricModel", "queueLength", "(III)I"⟩ : Cond) ∈ lw_gd := fb_tm (i := 591) (by decide +kernel) (by decide +kernel)
theorem zi_593 : (Cond.methodLink "PausedFabricModel" 163 ⟨"PausedFabricModel", "sends", "(II)Z"⟩ : Cond) ∈ lw_gd := fb_tm (i := 593) (by decide +kernel) (by decide +kernel)
theorem zi_595 : (Cond.instanceMethod ⟨"PausedFabricModel", "sends", "(II)Z"⟩ : Cond) ∈ lw_gd := fb_tm (i := 595) (by decide +kernel) (by decide +kernel)
theorem zi_597 : (Cond.methodLink "PausedFabricModel" 166 ⟨"PausedFabricModel", "choose", "(II)V"⟩ : Cond) ∈ lw_gd := fb_tm (i := 597) (by decide +kernel) (by decide +kernel)
theorem zi_599 : (Cond.instanceMethod ⟨"PausedFabricModel", "choose", "(II)V"⟩ : Cond) ∈ lw_gd := fb_tm (i := 599) (by decide +kernel) (by decide +kernel)
theorem zi_601 : (Cond.methodLink "PausedFabricModel" 143 ⟨"PausedFabricModel", "ready", "(III)Z"⟩ : Cond) ∈ lw_gd := fb_tm (i := 601) (by decide +kernel) (by decide +kernel)
theorem zi_603 : (Cond.instanceMethod ⟨"PausedFabricModel", "ready", "(III)Z"⟩ : Cond) ∈ lw_gd := fb_tm (i := 603) (by decide +kernel) (by decide +kernel)
theorem zi_605 : (Cond.methodLink "PausedFabricModel" 137 ⟨"PausedFabricModel", "first", "(III)I"⟩ : Cond) ∈ lw_gd := fb_tm (i := 605) (by decide +kernel) (by decide +kernel)
theorem zi_607 : (Cond.instanceMethod ⟨"PausedFabricModel", "first", "(III)I"⟩ : Cond) ∈ lw_gd := fb_tm (i := 607) (by decide +kernel) (by decide +kernel)
theorem zi_609 : (Cond.methodLink "PausedFabricModel" 140 ⟨"PausedFabricModel", "isPaused", "(II)Z"⟩ : Cond) ∈ lw_gd := fb_tm (i := 609) (by decide +kernel) (by decide +kernel)
theorem zi_611 : (Cond.instanceMethod ⟨"PausedFabricModel", "isPaused", "(II)Z"⟩ : Cond) ∈ lw_gd := fb_tm (i := 611) (by decide +kernel) (by decide +kernel)
theorem zi_613 : (Cond.methodLink "PausedFabricModel" 146 ⟨"PausedFabricModel", "begin", "(II)V"⟩ : Cond) ∈ lw_gd := fb_tm (i := 613) (by decide +kernel) (by decide +kernel)
theorem zi_615 : (Cond.instanceMethod ⟨"PausedFabricModel", "begin", "(II)V"⟩ : Cond) ∈ lw_gd := fb_tm (i := 615) (by decide +kernel) (by decide +kernel)
theorem zi_617 : (Cond.methodLink "PausedFabricLaw" 45 ⟨"PausedFabricModel", "clock", "()I"⟩ : Cond) ∈ lw_gd := fb_tm (i := 617) (by decide +kernel) (by decide +kernel)
theorem zi_618 : (Cond.instanceMethod ⟨"PausedFabricModel", "clock", "()I"⟩ : Cond) ∈ lw_gd := fb_tm (i := 618) (by decide +kernel) (by decide +kernel)
theorem zi_619 : (Cond.selects "PausedFabricModel" ⟨"PausedFabricModel", "clock", "()I"⟩ ⟨"PausedFabricModel", "clock", "()I"⟩ : Cond) ∈ lw_gd := fb_tm (i := 619) (by decide +kernel) (by decide +kernel)
theorem zi_621 : (Cond.methodLink "PausedFabricLaw" 49 ⟨"PausedFabricModel", "state", "(I)I"⟩ : Cond) ∈ lw_gd := fb_tm (i := 621) (by decide +kernel) (by decide +kernel)
theorem zi_622 : (Cond.instanceMethod ⟨"PausedFabricModel", "state", "(I)I"⟩ : Cond) ∈ lw_gd := fb_tm (i := 622) (by decide +kernel) (by decide +kernel)
theorem zi_623 : (Cond.selects "PausedFabricModel" ⟨"PausedFabricModel", "state", "(I)I"⟩ ⟨"PausedFabricModel", "state", "(I)I"⟩ : Cond) ∈ lw_gd := fb_tm (i := 623) (by decide +kernel) (by decide +kernel)
theorem zi_625 : (Cond.methodLink "PausedFabricModel" 169 ⟨"PausedFabricModel", "isFrame", "(I)Z"⟩ : Cond) ∈ lw_gd := fb_tm (i := 625) (by decide +kernel) (by decide +kernel)
theorem zi_627 : (Cond.instanceMethod ⟨"PausedFabricModel", "isFrame", "(I)Z"⟩ : Cond) ∈ lw_gd := fb_tm (i := 627) (by decide +kernel) (by decide +kernel)
theorem zi_629 : (Cond.methodLink "PausedFabricLaw" 53 ⟨"PausedFabricModel", "node", "(I)I"⟩ : Cond) ∈ lw_gd := fb_tm (i := 629) (by decide +kernel) (by decide +kernel)
theorem zi_630 : (Cond.instanceMethod ⟨"PausedFabricModel", "node", "(I)I"⟩ : Cond) ∈ lw_gd := fb_tm (i := 630) (by decide +kernel) (by decide +kernel)
theorem zi_631 : (Cond.selects "PausedFabricModel" ⟨"PausedFabricModel", "node", "(I)I"⟩ ⟨"PausedFabricModel", "node", "(I)I"⟩ : Cond) ∈ lw_gd := fb_tm (i := 631) (by decide +kernel) (by decide +kernel)
theorem zi_633 : (Cond.methodLink "PausedFabricLaw" 58 ⟨"PausedFabricModel", "marked", "(I)Z"⟩ : Cond) ∈ lw_gd := fb_tm (i := 633) (by decide +kernel) (by decide +kernel)
theorem zi_634 : (Cond.instanceMethod ⟨"PausedFabricModel", "marked", "(I)Z"⟩ : Cond) ∈ lw_gd := fb_tm (i := 634) (by decide +kernel) (by decide +kernel)
theorem zi_635 : (Cond.selects "PausedFabricModel" ⟨"PausedFabricModel", "marked", "(I)Z"⟩ ⟨"PausedFabricModel", "marked", "(I)Z"⟩ : Cond) ∈ lw_gd := fb_tm (i := 635) (by decide +kernel) (by decide +kernel)
theorem zi_637 : (Cond.methodLink "PausedFabricLaw" 62 ⟨"PausedFabricModel", "queued", "(III)I"⟩ : Cond) ∈ lw_gd := fb_tm (i := 637) (by decide +kernel) (by decide +kernel)
theorem zi_638 : (Cond.instanceMethod ⟨"PausedFabricModel", "queued", "(III)I"⟩ : Cond) ∈ lw_gd := fb_tm (i := 638) (by decide +kernel) (by decide +kernel)
theorem zi_639 : (Cond.selects "PausedFabricModel" ⟨"PausedFabricModel", "queued", "(III)I"⟩ ⟨"PausedFabricModel", "queued", "(III)I"⟩ : Cond) ∈ lw_gd := fb_tm (i := 639) (by decide +kernel) (by decide +kernel)
theorem zi_641 : (Cond.methodLink "PausedFabricLaw" 66 ⟨"PausedFabricModel", "held", "(III)I"⟩ : Cond) ∈ lw_gd := fb_tm (i := 641) (by decide +kernel) (by decide +kernel)
theorem zi_642 : (Cond.instanceMethod ⟨"PausedFabricModel", "held", "(III)I"⟩ : Cond) ∈ lw_gd := fb_tm (i := 642) (by decide +kernel) (by decide +kernel)
theorem zi_643 : (Cond.selects "PausedFabricModel" ⟨"PausedFabricModel", "held", "(III)I"⟩ ⟨"PausedFabricModel", "held", "(III)I"⟩ : Cond) ∈ lw_gd := fb_tm (i := 643) (by decide +kernel) (by decide +kernel)
theorem zi_645 : (Cond.methodLink "PausedFabricLaw" 70 ⟨"PausedFabricModel", "asks", "(II)Z"⟩ : Cond) ∈ lw_gd := fb_tm (i := 645) (by decide +kernel) (by decide +kernel)
theorem zi_646 : (Cond.instanceMethod ⟨"PausedFabricModel", "asks", "(II)Z"⟩ : Cond) ∈ lw_gd := fb_tm (i := 646) (by decide +kernel) (by decide +kernel)
theorem zi_647 : (Cond.selects "PausedFabricModel" ⟨"PausedFabricModel", "asks", "(II)Z"⟩ ⟨"PausedFabricModel", "asks", "(II)Z"⟩ : Cond) ∈ lw_gd := fb_tm (i := 647) (by decide +kernel) (by decide +kernel)
theorem zi_649 : (Cond.methodLink "PausedFabricLaw" 74 ⟨"PausedFabricModel", "paused", "(II)Z"⟩ : Cond) ∈ lw_gd := fb_tm (i := 649) (by decide +kernel) (by decide +kernel)
theorem zi_650 : (Cond.instanceMethod ⟨"PausedFabricModel", "paused", "(II)Z"⟩ : Cond) ∈ lw_gd := fb_tm (i := 650) (by decide +kernel) (by decide +kernel)
theorem zi_651 : (Cond.selects "PausedFabricModel" ⟨"PausedFabricModel", "paused", "(II)Z"⟩ ⟨"PausedFabricModel", "paused", "(II)Z"⟩ : Cond) ∈ lw_gd := fb_tm (i := 651) (by decide +kernel) (by decide +kernel)
theorem zi_653 : (Cond.methodLink "PausedFabricLaw" 78 ⟨"PausedFabricModel", "rate", "(I)I"⟩ : Cond) ∈ lw_gd := fb_tm (i := 653) (by decide +kernel) (by decide +kernel)
theorem zi_654 : (Cond.instanceMethod ⟨"PausedFabricModel", "rate", "(I)I"⟩ : Cond) ∈ lw_gd := fb_tm (i := 654) (by decide +kernel) (by decide +kernel)
theorem zi_655 : (Cond.selects "PausedFabricModel" ⟨"PausedFabricModel", "rate", "(I)I"⟩ ⟨"PausedFabricModel", "rate", "(I)I"⟩ : Cond) ∈ lw_gd := fb_tm (i := 655) (by decide +kernel) (by decide +kernel)
theorem zi_657 : (Cond.methodLink "PausedFabricLaw" 82 ⟨"PausedFabricModel", "alpha", "(I)I"⟩ : Cond) ∈ lw_gd := fb_tm (i := 657) (by decide +kernel) (by decide +kernel)
theorem zi_658 : (Cond.instanceMethod ⟨"PausedFabricModel", "alpha", "(I)I"⟩ : Cond) ∈ lw_gd := fb_tm (i := 658) (by decide +kernel) (by decide +kernel)
theorem zi_659 : (Cond.selects "PausedFabricModel" ⟨"PausedFabricModel", "alpha", "(I)I"⟩ ⟨"PausedFabricModel", "alpha", "(I)I"⟩ : Cond) ∈ lw_gd := fb_tm (i := 659) (by decide +kernel) (by decide +kernel)
theorem zi_661 : (Cond.methodLink "PausedFabricLaw" 86 ⟨"PausedFabricModel", "received", "(I)I"⟩ : Cond) ∈ lw_gd := fb_tm (i := 661) (by decide +kernel) (by decide +kernel)
theorem zi_662 : (Cond.instanceMethod ⟨"PausedFabricModel", "received", "(I)I"⟩ : Cond) ∈ lw_gd := fb_tm (i := 662) (by decide +kernel) (by decide +kernel)
theorem zi_663 : (Cond.selects "PausedFabricModel" ⟨"PausedFabricModel", "received", "(I)I"⟩ ⟨"PausedFabricModel", "received", "(I)I"⟩ : Cond) ∈ lw_gd := fb_tm (i := 663) (by decide +kernel) (by decide +kernel)
theorem zi_665 : (Cond.methodLink "PausedFabricModel" 172 ⟨"PausedFabricModel", "countOf", "(II)I"⟩ : Cond) ∈ lw_gd := fb_tm (i := 665) (by decide +kernel) (by decide +kernel)
theorem zi_667 : (Cond.instanceMethod ⟨"PausedFabricModel", "countOf", "(II)I"⟩ : Cond) ∈ lw_gd := fb_tm (i := 667) (by decide +kernel) (by decide +kernel)
theorem zi_669 : (Cond.methodLink "PausedFabricLaw" 90 ⟨"PausedFabricModel", "dropped", "(I)I"⟩ : Cond) ∈ lw_gd := fb_tm (i := 669) (by decide +kernel) (by decide +kernel)
theorem zi_670 : (Cond.instanceMethod ⟨"PausedFabricModel", "dropped", "(I)I"⟩ : Cond) ∈ lw_gd := fb_tm (i := 670) (by decide +kernel) (by decide +kernel)
theorem zi_671 : (Cond.selects "PausedFabricModel" ⟨"PausedFabricModel", "dropped", "(I)I"⟩ ⟨"PausedFabricModel", "dropped", "(I)I"⟩ : Cond) ∈ lw_gd := fb_tm (i := 671) (by decide +kernel) (by decide +kernel)
theorem zi_673 : (Cond.methodLink "PausedFabricLaw" 94 ⟨"PausedFabricModel", "last", "(I)I"⟩ : Cond) ∈ lw_gd := fb_tm (i := 673) (by decide +kernel) (by decide +kernel)
theorem zi_674 : (Cond.instanceMethod ⟨"PausedFabricModel", "last", "(I)I"⟩ : Cond) ∈ lw_gd := fb_tm (i := 674) (by decide +kernel) (by decide +kernel)
theorem zi_675 : (Cond.selects "PausedFabricModel" ⟨"PausedFabricModel", "last", "(I)I"⟩ ⟨"PausedFabricModel", "last", "(I)I"⟩ : Cond) ∈ lw_gd := fb_tm (i := 675) (by decide +kernel) (by decide +kernel)
theorem zs_X_routeOf : (Cond.selects "PausedFabric" ⟨"PausedFabric", "routeOf", "(III)[LPausedFabric$Port;"⟩ ⟨"PausedFabric", "routeOf", "(III)[LPausedFabric$Port;"⟩ : Cond) ∈ lw_gd := fb_sm (i := 0) (by decide +kernel) (by decide +kernel)
theorem zs_X_portBetween : (Cond.selects "PausedFabric" ⟨"PausedFabric", "portBetween", "(II)LPausedFabric$Port;"⟩ ⟨"PausedFabric", "portBetween", "(II)LPausedFabric$Port;"⟩ : Cond) ∈ lw_gd := fb_sm (i := 1) (by decide +kernel) (by decide +kernel)
theorem zs_X_flowAt : (Cond.selects "PausedFabric" ⟨"PausedFabric", "flowAt", "(I)LPausedFabric$Flow;"⟩ ⟨"PausedFabric", "flowAt", "(I)LPausedFabric$Flow;"⟩ : Cond) ∈ lw_gd := fb_sm (i := 2) (by decide +kernel) (by decide +kernel)
theorem zs_X_makeTick : (Cond.selects "PausedFabric" ⟨"PausedFabric", "makeTick", "()I"⟩ ⟨"PausedFabric", "makeTick", "()I"⟩ : Cond) ∈ lw_gd := fb_sm (i := 3) (by decide +kernel) (by decide +kernel)
theorem zs_X_wasSo : (Cond.selects "PausedFabric" ⟨"PausedFabric", "wasSo", "(I)Z"⟩ ⟨"PausedFabric", "wasSo", "(I)Z"⟩ : Cond) ∈ lw_gd := fb_sm (i := 4) (by decide +kernel) (by decide +kernel)
theorem zs_X_endSending : (Cond.selects "PausedFabric" ⟨"PausedFabric", "endSending", "(LPausedFabric$Port;)V"⟩ ⟨"PausedFabric", "endSending", "(LPausedFabric$Port;)V"⟩ : Cond) ∈ lw_gd := fb_sm (i := 5) (by decide +kernel) (by decide +kernel)
theorem zs_X_release : (Cond.selects "PausedFabric" ⟨"PausedFabric", "release", "(LPausedFabric$Frame;LPausedFabric$Port;)V"⟩ ⟨"PausedFabric", "release", "(LPausedFabric$Frame;LPausedFabric$Port;)V"⟩ : Cond) ∈ lw_gd := fb_sm (i := 6) (by decide +kernel) (by decide +kernel)
theorem zs_X_deliver : (Cond.selects "PausedFabric" ⟨"PausedFabric", "deliver", "(LPausedFabric$Port;)I"⟩ ⟨"PausedFabric", "deliver", "(LPausedFabric$Port;)I"⟩ : Cond) ∈ lw_gd := fb_sm (i := 7) (by decide +kernel) (by decide +kernel)
theorem zs_X_hasPlace : (Cond.selects "PausedFabric" ⟨"PausedFabric", "hasPlace", "(LPausedFabric$Port;LPausedFabric$Frame;)Z"⟩ ⟨"PausedFabric", "hasPlace", "(LPausedFabric$Port;LPausedFabric$Frame;)Z"⟩ : Cond) ∈ lw_gd := fb_sm (i := 8) (by decide +kernel) (by decide +kernel)
theorem zs_X_hold : (Cond.selects "PausedFabric" ⟨"PausedFabric", "hold", "(LPausedFabric$Port;LPausedFabric$Frame;)V"⟩ ⟨"PausedFabric", "hold", "(LPausedFabric$Port;LPausedFabric$Frame;)V"⟩ : Cond) ∈ lw_gd := fb_sm (i := 9) (by decide +kernel) (by decide +kernel)
theorem zs_X_choose : (Cond.selects "PausedFabric" ⟨"PausedFabric", "choose", "(LPausedFabric$Port;)V"⟩ ⟨"PausedFabric", "choose", "(LPausedFabric$Port;)V"⟩ : Cond) ∈ lw_gd := fb_sm (i := 10) (by decide +kernel) (by decide +kernel)
theorem zs_X_readyFrame : (Cond.selects "PausedFabric" ⟨"PausedFabric", "readyFrame", "(LPausedFabric$Port;I)LPausedFabric$Frame;"⟩ ⟨"PausedFabric", "readyFrame", "(LPausedFabric$Port;I)LPausedFabric$Frame;"⟩ : Cond) ∈ lw_gd := fb_sm (i := 11) (by decide +kernel) (by decide +kernel)
theorem zs_X_beginSending : (Cond.selects "PausedFabric" ⟨"PausedFabric", "beginSending", "(LPausedFabric$Port;LPausedFabric$Frame;)V"⟩ ⟨"PausedFabric", "beginSending", "(LPausedFabric$Port;LPausedFabric$Frame;)V"⟩ : Cond) ∈ lw_gd := fb_sm (i := 12) (by decide +kernel) (by decide +kernel)
theorem zs_X_remember : (Cond.selects "PausedFabric" ⟨"PausedFabric", "remember", "()V"⟩ ⟨"PausedFabric", "remember", "()V"⟩ : Cond) ∈ lw_gd := fb_sm (i := 13) (by decide +kernel) (by decide +kernel)
theorem zs_X_frameAt : (Cond.selects "PausedFabric" ⟨"PausedFabric", "frameAt", "(I)LPausedFabric$Frame;"⟩ ⟨"PausedFabric", "frameAt", "(I)LPausedFabric$Frame;"⟩ : Cond) ∈ lw_gd := fb_sm (i := 14) (by decide +kernel) (by decide +kernel)
theorem zs_M_isFlow : (Cond.selects "PausedFabricModel" ⟨"PausedFabricModel", "isFlow", "(I)Z"⟩ ⟨"PausedFabricModel", "isFlow", "(I)Z"⟩ : Cond) ∈ lw_gd := fb_sm (i := 15) (by decide +kernel) (by decide +kernel)
theorem zs_M_enqueue : (Cond.selects "PausedFabricModel" ⟨"PausedFabricModel", "enqueue", "(I)V"⟩ ⟨"PausedFabricModel", "enqueue", "(I)V"⟩ : Cond) ∈ lw_gd := fb_sm (i := 16) (by decide +kernel) (by decide +kernel)
theorem zs_M_arrived : (Cond.selects "PausedFabricModel" ⟨"PausedFabricModel", "arrived", "()I"⟩ ⟨"PausedFabricModel", "arrived", "()I"⟩ : Cond) ∈ lw_gd := fb_sm (i := 17) (by decide +kernel) (by decide +kernel)
theorem zs_M_endSending : (Cond.selects "PausedFabricModel" ⟨"PausedFabricModel", "endSending", "()V"⟩ ⟨"PausedFabricModel", "endSending", "()V"⟩ : Cond) ∈ lw_gd := fb_sm (i := 18) (by decide +kernel) (by decide +kernel)
theorem zs_M_nodeAt : (Cond.selects "PausedFabricModel" ⟨"PausedFabricModel", "nodeAt", "(II)I"⟩ ⟨"PausedFabricModel", "nodeAt", "(II)I"⟩ : Cond) ∈ lw_gd := fb_sm (i := 19) (by decide +kernel) (by decide +kernel)
theorem zs_M_end : (Cond.selects "PausedFabricModel" ⟨"PausedFabricModel", "end", "(I)I"⟩ ⟨"PausedFabricModel", "end", "(I)I"⟩ : Cond) ∈ lw_gd := fb_sm (i := 20) (by decide +kernel) (by decide +kernel)
theorem zs_M_holds : (Cond.selects "PausedFabricModel" ⟨"PausedFabricModel", "holds", "(III)I"⟩ ⟨"PausedFabricModel", "holds", "(III)I"⟩ : Cond) ∈ lw_gd := fb_sm (i := 21) (by decide +kernel) (by decide +kernel)
theorem zs_M_slow : (Cond.selects "PausedFabricModel" ⟨"PausedFabricModel", "slow", "(I)V"⟩ ⟨"PausedFabricModel", "slow", "(I)V"⟩ : Cond) ∈ lw_gd := fb_sm (i := 22) (by decide +kernel) (by decide +kernel)
theorem zs_M_told : (Cond.selects "PausedFabricModel" ⟨"PausedFabricModel", "told", "(I)Z"⟩ ⟨"PausedFabricModel", "told", "(I)Z"⟩ : Cond) ∈ lw_gd := fb_sm (i := 23) (by decide +kernel) (by decide +kernel)
theorem zs_M_arrivals : (Cond.selects "PausedFabricModel" ⟨"PausedFabricModel", "arrivals", "()V"⟩ ⟨"PausedFabricModel", "arrivals", "()V"⟩ : Cond) ∈ lw_gd := fb_sm (i := 24) (by decide +kernel) (by decide +kernel)
theorem zs_M_between : (Cond.selects "PausedFabricModel" ⟨"PausedFabricModel", "between", "(III)Z"⟩ ⟨"PausedFabricModel", "between", "(III)Z"⟩ : Cond) ∈ lw_gd := fb_sm (i := 25) (by decide +kernel) (by decide +kernel)
theorem zs_M_arrive : (Cond.selects "PausedFabricModel" ⟨"PausedFabricModel", "arrive", "(III)V"⟩ ⟨"PausedFabricModel", "arrive", "(III)V"⟩ : Cond) ∈ lw_gd := fb_sm (i := 26) (by decide +kernel) (by decide +kernel)
theorem zs_M_queueLength : (Cond.selects "PausedFabricModel" ⟨"PausedFabricModel", "queueLength", "(III)I"⟩ ⟨"PausedFabricModel", "queueLength", "(III)I"⟩ : Cond) ∈ lw_gd := fb_sm (i := 27) (by decide +kernel) (by decide +kernel)
theorem zs_M_sends : (Cond.selects "PausedFabricModel" ⟨"PausedFabricModel", "sends", "(II)Z"⟩ ⟨"PausedFabricModel", "sends", "(II)Z"⟩ : Cond) ∈ lw_gd := fb_sm (i := 28) (by decide +kernel) (by decide +kernel)
theorem zs_M_choose : (Cond.selects "PausedFabricModel" ⟨"PausedFabricModel", "choose", "(II)V"⟩ ⟨"PausedFabricModel", "choose", "(II)V"⟩ : Cond) ∈ lw_gd := fb_sm (i := 29) (by decide +kernel) (by decide +kernel)
theorem zs_M_ready : (Cond.selects "PausedFabricModel" ⟨"PausedFabricModel", "ready", "(III)Z"⟩ ⟨"PausedFabricModel", "ready", "(III)Z"⟩ : Cond) ∈ lw_gd := fb_sm (i := 30) (by decide +kernel) (by decide +kernel)
theorem zs_M_first : (Cond.selects "PausedFabricModel" ⟨"PausedFabricModel", "first", "(III)I"⟩ ⟨"PausedFabricModel", "first", "(III)I"⟩ : Cond) ∈ lw_gd := fb_sm (i := 31) (by decide +kernel) (by decide +kernel)
theorem zs_M_isPaused : (Cond.selects "PausedFabricModel" ⟨"PausedFabricModel", "isPaused", "(II)Z"⟩ ⟨"PausedFabricModel", "isPaused", "(II)Z"⟩ : Cond) ∈ lw_gd := fb_sm (i := 32) (by decide +kernel) (by decide +kernel)
theorem zs_M_begin : (Cond.selects "PausedFabricModel" ⟨"PausedFabricModel", "begin", "(II)V"⟩ ⟨"PausedFabricModel", "begin", "(II)V"⟩ : Cond) ∈ lw_gd := fb_sm (i := 33) (by decide +kernel) (by decide +kernel)
theorem zs_M_isFrame : (Cond.selects "PausedFabricModel" ⟨"PausedFabricModel", "isFrame", "(I)Z"⟩ ⟨"PausedFabricModel", "isFrame", "(I)Z"⟩ : Cond) ∈ lw_gd := fb_sm (i := 34) (by decide +kernel) (by decide +kernel)
theorem zs_M_countOf : (Cond.selects "PausedFabricModel" ⟨"PausedFabricModel", "countOf", "(II)I"⟩ ⟨"PausedFabricModel", "countOf", "(II)I"⟩ : Cond) ∈ lw_gd := fb_sm (i := 35) (by decide +kernel) (by decide +kernel)
def zT_X : u_T := fun k => match k with
  | 0 => ("PausedFabric", "delay", "I", true)
  | 1 => ("PausedFabric", "xoff", "I", true)
  | 2 => ("PausedFabric", "room", "I", true)
  | 3 => ("PausedFabric", "mark", "I", true)
  | 4 => ("PausedFabric", "quantum", "[I", true)
  | 5 => ("PausedFabric", "ports", "[LPausedFabric$Port;", true)
  | 6 => ("PausedFabric", "flows", "[LPausedFabric$Flow;", true)
  | 7 => ("PausedFabric", "frames", "[LPausedFabric$Frame;", true)
  | 8 => ("PausedFabric", "flowCount", "I", false)
  | 9 => ("PausedFabric", "frameCount", "I", false)
  | _ => ("PausedFabric", "time", "I", false)
def zt_X : Nat → FieldType := fun k => match k with
  | 0 => .int
  | 1 => .int
  | 2 => .int
  | 3 => .int
  | 4 => .array .int
  | 5 => .array (.object "PausedFabric$Port")
  | 6 => .array (.object "PausedFabric$Flow")
  | 7 => .array (.object "PausedFabric$Frame")
  | 8 => .int
  | 9 => .int
  | _ => .int
theorem znm_X : ∀ a, a < 11 → ∀ b, b < 11 → a ≠ b → (zT_X a).2.1 ≠ (zT_X b).2.1 := by decide +kernel
theorem ztok_X : ∀ k, k < 11 → parseFieldDescriptor (zT_X k).2.2.1 = some (zt_X k) := by decide +kernel
theorem zin_X : ∀ w ∈ u_ws "PausedFabric" zT_X 11, w ∈ lw_gd := by
  intro w hw
  obtain ⟨k, hk, rfl⟩ := List.mem_map.mp hw
  have hk := List.mem_range.mp hk
  exact (show ∀ k, k < 11 → u_lay "PausedFabric" zT_X k ∈ lw_gd from fun k hk => match k, hk with
    | 0, _ => zi_125
    | 1, _ => zi_127
    | 2, _ => zi_129
    | 3, _ => zi_131
    | 4, _ => zi_133
    | 5, _ => zi_135
    | 6, _ => zi_137
    | 7, _ => zi_139
    | 8, _ => zi_141
    | 9, _ => zi_143
    | 10, _ => zi_145
    | n + 11, h => absurd h (by omega)) k hk
def zT_P : u_T := fun k => match k with
  | 0 => ("PausedFabric$Port", "from", "I", true)
  | 1 => ("PausedFabric$Port", "to", "I", true)
  | 2 => ("PausedFabric$Port", "queues", "[LPausedFabric$FrameQueue;", true)
  | 3 => ("PausedFabric$Port", "credit", "[I", true)
  | 4 => ("PausedFabric$Port", "turn", "I", false)
  | 5 => ("PausedFabric$Port", "sending", "LPausedFabric$Frame;", false)
  | 6 => ("PausedFabric$Port", "wire", "LPausedFabric$FrameQueue;", true)
  | 7 => ("PausedFabric$Port", "held", "[I", true)
  | 8 => ("PausedFabric$Port", "asked", "Z", false)
  | 9 => ("PausedFabric$Port", "askedBefore", "I", false)
  | _ => ("PausedFabric$Port", "paused", "Z", false)
def zt_P : Nat → FieldType := fun k => match k with
  | 0 => .int
  | 1 => .int
  | 2 => .array (.object "PausedFabric$FrameQueue")
  | 3 => .array .int
  | 4 => .int
  | 5 => .object "PausedFabric$Frame"
  | 6 => .object "PausedFabric$FrameQueue"
  | 7 => .array .int
  | 8 => .boolean
  | 9 => .int
  | _ => .boolean
theorem znm_P : ∀ a, a < 11 → ∀ b, b < 11 → a ≠ b → (zT_P a).2.1 ≠ (zT_P b).2.1 := by decide +kernel
theorem ztok_P : ∀ k, k < 11 → parseFieldDescriptor (zT_P k).2.2.1 = some (zt_P k) := by decide +kernel
theorem zin_P : ∀ w ∈ u_ws "PausedFabric$Port" zT_P 11, w ∈ lw_gd := by
  intro w hw
  obtain ⟨k, hk, rfl⟩ := List.mem_map.mp hw
  have hk := List.mem_range.mp hk
  exact (show ∀ k, k < 11 → u_lay "PausedFabric$Port" zT_P k ∈ lw_gd from fun k hk => match k, hk with
    | 0, _ => zi_84
    | 1, _ => zi_86
    | 2, _ => zi_88
    | 3, _ => zi_90
    | 4, _ => zi_92
    | 5, _ => zi_94
    | 6, _ => zi_96
    | 7, _ => zi_98
    | 8, _ => zi_100
    | 9, _ => zi_102
    | 10, _ => zi_104
    | n + 11, h => absurd h (by omega)) k hk
def zT_F : u_T := fun k => match k with
  | 0 => ("PausedFabric$Flow", "priority", "I", true)
  | 1 => ("PausedFabric$Flow", "route", "[LPausedFabric$Port;", true)
  | 2 => ("PausedFabric$Flow", "rate", "I", false)
  | 3 => ("PausedFabric$Flow", "target", "I", false)
  | 4 => ("PausedFabric$Flow", "alpha", "I", false)
  | 5 => ("PausedFabric$Flow", "calm", "I", false)
  | 6 => ("PausedFabric$Flow", "waitsUntil", "I", false)
  | 7 => ("PausedFabric$Flow", "markedNow", "Z", false)
  | 8 => ("PausedFabric$Flow", "markedBefore", "I", false)
  | 9 => ("PausedFabric$Flow", "received", "I", false)
  | 10 => ("PausedFabric$Flow", "dropped", "I", false)
  | _ => ("PausedFabric$Flow", "last", "I", false)
def zt_F : Nat → FieldType := fun k => match k with
  | 0 => .int
  | 1 => .array (.object "PausedFabric$Port")
  | 2 => .int
  | 3 => .int
  | 4 => .int
  | 5 => .int
  | 6 => .int
  | 7 => .boolean
  | 8 => .int
  | 9 => .int
  | 10 => .int
  | _ => .int
theorem znm_F : ∀ a, a < 12 → ∀ b, b < 12 → a ≠ b → (zT_F a).2.1 ≠ (zT_F b).2.1 := by decide +kernel
theorem ztok_F : ∀ k, k < 12 → parseFieldDescriptor (zT_F k).2.2.1 = some (zt_F k) := by decide +kernel
theorem zin_F : ∀ w ∈ u_ws "PausedFabric$Flow" zT_F 12, w ∈ lw_gd := by
  intro w hw
  obtain ⟨k, hk, rfl⟩ := List.mem_map.mp hw
  have hk := List.mem_range.mp hk
  exact (show ∀ k, k < 12 → u_lay "PausedFabric$Flow" zT_F k ∈ lw_gd from fun k hk => match k, hk with
    | 0, _ => zi_195
    | 1, _ => zi_197
    | 2, _ => zi_199
    | 3, _ => zi_201
    | 4, _ => zi_203
    | 5, _ => zi_205
    | 6, _ => zi_207
    | 7, _ => zi_209
    | 8, _ => zi_211
    | 9, _ => zi_213
    | 10, _ => zi_215
    | 11, _ => zi_217
    | n + 12, h => absurd h (by omega)) k hk
def zT_K : u_T := fun k => match k with
  | 0 => ("PausedFabric$Frame", "number", "I", true)
  | 1 => ("PausedFabric$Frame", "flow", "LPausedFabric$Flow;", true)
  | 2 => ("PausedFabric$Frame", "length", "I", true)
  | 3 => ("PausedFabric$Frame", "state", "I", false)
  | 4 => ("PausedFabric$Frame", "node", "I", false)
  | 5 => ("PausedFabric$Frame", "marked", "Z", false)
  | 6 => ("PausedFabric$Frame", "hop", "I", false)
  | 7 => ("PausedFabric$Frame", "cameBy", "LPausedFabric$Port;", false)
  | 8 => ("PausedFabric$Frame", "due", "I", false)
  | _ => ("PausedFabric$Frame", "next", "LPausedFabric$Frame;", false)
def zt_K : Nat → FieldType := fun k => match k with
  | 0 => .int
  | 1 => .object "PausedFabric$Flow"
  | 2 => .int
  | 3 => .int
  | 4 => .int
  | 5 => .boolean
  | 6 => .int
  | 7 => .object "PausedFabric$Port"
  | 8 => .int
  | _ => .object "PausedFabric$Frame"
theorem znm_K : ∀ a, a < 10 → ∀ b, b < 10 → a ≠ b → (zT_K a).2.1 ≠ (zT_K b).2.1 := by decide +kernel
theorem ztok_K : ∀ k, k < 10 → parseFieldDescriptor (zT_K k).2.2.1 = some (zt_K k) := by decide +kernel
theorem zin_K : ∀ w ∈ u_ws "PausedFabric$Frame" zT_K 10, w ∈ lw_gd := by
  intro w hw
  obtain ⟨k, hk, rfl⟩ := List.mem_map.mp hw
  have hk := List.mem_range.mp hk
  exact (show ∀ k, k < 10 → u_lay "PausedFabric$Frame" zT_K k ∈ lw_gd from fun k hk => match k, hk with
    | 0, _ => zi_258
    | 1, _ => zi_260
    | 2, _ => zi_262
    | 3, _ => zi_264
    | 4, _ => zi_266
    | 5, _ => zi_268
    | 6, _ => zi_270
    | 7, _ => zi_272
    | 8, _ => zi_274
    | 9, _ => zi_276
    | n + 10, h => absurd h (by omega)) k hk
def zT_Q : u_T := fun k => match k with
  | 0 => ("PausedFabric$FrameQueue", "first", "LPausedFabric$Frame;", false)
  | 1 => ("PausedFabric$FrameQueue", "end", "LPausedFabric$Frame;", false)
  | _ => ("PausedFabric$FrameQueue", "length", "I", false)
def zt_Q : Nat → FieldType := fun k => match k with
  | 0 => .object "PausedFabric$Frame"
  | 1 => .object "PausedFabric$Frame"
  | _ => .int
theorem znm_Q : ∀ a, a < 3 → ∀ b, b < 3 → a ≠ b → (zT_Q a).2.1 ≠ (zT_Q b).2.1 := by decide +kernel
theorem ztok_Q : ∀ k, k < 3 → parseFieldDescriptor (zT_Q k).2.2.1 = some (zt_Q k) := by decide +kernel
theorem zin_Q : ∀ w ∈ u_ws "PausedFabric$FrameQueue" zT_Q 3, w ∈ lw_gd := by
  intro w hw
  obtain ⟨k, hk, rfl⟩ := List.mem_map.mp hw
  have hk := List.mem_range.mp hk
  exact (show ∀ k, k < 3 → u_lay "PausedFabric$FrameQueue" zT_Q k ∈ lw_gd from fun k hk => match k, hk with
    | 0, _ => zi_54
    | 1, _ => zi_56
    | 2, _ => zi_58
    | n + 3, h => absurd h (by omega)) k hk
def zT_M : u_T := fun k => match k with
  | 0 => ("PausedFabricModel", "delay", "I", true)
  | 1 => ("PausedFabricModel", "xoff", "I", true)
  | 2 => ("PausedFabricModel", "room", "I", true)
  | 3 => ("PausedFabricModel", "mark", "I", true)
  | 4 => ("PausedFabricModel", "time", "I", false)
  | 5 => ("PausedFabricModel", "order", "I", false)
  | 6 => ("PausedFabricModel", "flows", "I", false)
  | 7 => ("PausedFabricModel", "start", "[I", true)
  | 8 => ("PausedFabricModel", "goal", "[I", true)
  | 9 => ("PausedFabricModel", "priorityOf", "[I", true)
  | 10 => ("PausedFabricModel", "rates", "[I", true)
  | 11 => ("PausedFabricModel", "target", "[I", true)
  | 12 => ("PausedFabricModel", "alphas", "[I", true)
  | 13 => ("PausedFabricModel", "calm", "[I", true)
  | 14 => ("PausedFabricModel", "wait", "[I", true)
  | 15 => ("PausedFabricModel", "frames", "I", false)
  | 16 => ("PausedFabricModel", "flowOf", "[I", true)
  | 17 => ("PausedFabricModel", "lengths", "[I", true)
  | 18 => ("PausedFabricModel", "states", "[I", true)
  | 19 => ("PausedFabricModel", "place", "[I", true)
  | 20 => ("PausedFabricModel", "came", "[I", true)
  | 21 => ("PausedFabricModel", "when", "[I", true)
  | 22 => ("PausedFabricModel", "marks", "[Z", true)
  | 23 => ("PausedFabricModel", "turn", "[I", true)
  | 24 => ("PausedFabricModel", "credit", "[I", true)
  | 25 => ("PausedFabricModel", "quantum", "[I", true)
  | 26 => ("PausedFabricModel", "asking", "[Z", true)
  | _ => ("PausedFabricModel", "asked", "[Z", true)
def zt_M : Nat → FieldType := fun k => match k with
  | 0 => .int
  | 1 => .int
  | 2 => .int
  | 3 => .int
  | 4 => .int
  | 5 => .int
  | 6 => .int
  | 7 => .array .int
  | 8 => .array .int
  | 9 => .array .int
  | 10 => .array .int
  | 11 => .array .int
  | 12 => .array .int
  | 13 => .array .int
  | 14 => .array .int
  | 15 => .int
  | 16 => .array .int
  | 17 => .array .int
  | 18 => .array .int
  | 19 => .array .int
  | 20 => .array .int
  | 21 => .array .int
  | 22 => .array .boolean
  | 23 => .array .int
  | 24 => .array .int
  | 25 => .array .int
  | 26 => .array .boolean
  | _ => .array .boolean
theorem znm_M : ∀ a, a < 28 → ∀ b, b < 28 → a ≠ b → (zT_M a).2.1 ≠ (zT_M b).2.1 := by decide +kernel
theorem ztok_M : ∀ k, k < 28 → parseFieldDescriptor (zT_M k).2.2.1 = some (zt_M k) := by decide +kernel
theorem zin_M : ∀ w ∈ u_ws "PausedFabricModel" zT_M 28, w ∈ lw_gd := by
  intro w hw
  obtain ⟨k, hk, rfl⟩ := List.mem_map.mp hw
  have hk := List.mem_range.mp hk
  exact (show ∀ k, k < 28 → u_lay "PausedFabricModel" zT_M k ∈ lw_gd from fun k hk => match k, hk with
    | 0, _ => zi_464
    | 1, _ => zi_466
    | 2, _ => zi_468
    | 3, _ => zi_470
    | 4, _ => zi_472
    | 5, _ => zi_474
    | 6, _ => zi_476
    | 7, _ => zi_478
    | 8, _ => zi_480
    | 9, _ => zi_482
    | 10, _ => zi_484
    | 11, _ => zi_486
    | 12, _ => zi_488
    | 13, _ => zi_490
    | 14, _ => zi_492
    | 15, _ => zi_494
    | 16, _ => zi_496
    | 17, _ => zi_498
    | 18, _ => zi_500
    | 19, _ => zi_502
    | 20, _ => zi_504
    | 21, _ => zi_506
    | 22, _ => zi_508
    | 23, _ => zi_510
    | 24, _ => zi_512
    | 25, _ => zi_514
    | 26, _ => zi_516
    | 27, _ => zi_518
    | n + 28, h => absurd h (by omega)) k hk
abbrev fb_cl : List vw_C := [("PausedFabric", zT_X, 11), ("PausedFabric$Port", zT_P, 11), ("PausedFabric$Flow", zT_F, 12), ("PausedFabric$Frame", zT_K, 10), ("PausedFabric$FrameQueue", zT_Q, 3), ("PausedFabricModel", zT_M, 28)]
theorem fb_gd {w : Cond} (h : w ∈ lw_gd) : w ∈ lw_gd ∧ ((w.onTables && w.keeps) = true ∨ ∃ ty, w = .arrayClass ty) := ⟨h, good_of_word (List.mem_filter.mp h).2⟩
theorem fb_gV {own C : String} {ix : Nat} {y : MethodName} {cw : Cond} (h1 : (Cond.methodLink own ix y : Cond) ∈ lw_gd) (h2 : (Cond.instanceMethod y : Cond) ∈ lw_gd) (h3 : (Cond.selects C y y : Cond) ∈ lw_gd) (h4 : (Cond.initialized C : Cond) ∈ lw_gd) (h5 : cw ∈ lw_gd) : GoodIn lw_gd (wsV own ix C y (cw :: lw_gd)) := by
  intro w hw
  simp only [wsV, List.cons_append, List.nil_append, List.mem_cons] at hw
  rcases hw with rfl | rfl | rfl | rfl | rfl | hw
  · exact fb_gd h1
  · exact fb_gd h2
  · exact fb_gd h3
  · exact fb_gd h4
  · exact fb_gd h5
  · exact fb_gd hw
theorem fb_gS {own : String} {ix : Nat} {y : MethodName} {cw : Cond} (h1 : (Cond.methodLink own ix y : Cond) ∈ lw_gd) (h2 : (Cond.static y : Cond) ∈ lw_gd) (h3 : (Cond.initialized own : Cond) ∈ lw_gd) (h5 : cw ∈ lw_gd) : GoodIn lw_gd (wsS own ix y (cw :: lw_gd)) := by
  intro w hw
  simp only [wsS, List.cons_append, List.nil_append, List.mem_cons] at hw
  rcases hw with rfl | rfl | rfl | rfl | hw
  · exact fb_gd h1
  · exact fb_gd h2
  · exact fb_gd h3
  · exact fb_gd h5
  · exact fb_gd hw
theorem fb_gI {cw : Cond} (h5 : cw ∈ lw_gd) : GoodIn lw_gd (cw :: lw_gd) := by
  intro w hw
  rcases List.mem_cons.mp hw with rfl | hw
  · exact fb_gd h5
  · exact fb_gd hw
end
section
/-! stores: a side's numbers as one function (field, index) -/
abbrev fb_S : Type := Nat → Nat → Int32
def fb_up (s : fb_S) (F i : Nat) (v : Int32) : fb_S := fun G j => if G = F ∧ j = i then v else s G j
/-- f (n-1) (.. (f 1 (f 0 s))) -/
def fb_it {α : Type} (f : Nat → α → α) : Nat → α → α
  | 0, s => s
  | n + 1, s => f n (fb_it f n s)
abbrev fb_n (z : Int32) : Nat := z.toNatClampNeg
def fb_b (c : Bool) : Int32 := if c = true then 1 else 0
theorem fb_b_t : fb_b true = 1 := rfl
theorem fb_b_f : fb_b false = 0 := rfl
theorem fb_b0 {c : Bool} (h : fb_b c = 0) : ¬ c = true := by
  intro hc
  rw [hc] at h
  exact absurd h (by decide)
theorem fb_b1 {c : Bool} (h : ¬ fb_b c = 0) : c = true := by
  cases c with
  | true => rfl
  | false => exact absurd rfl h
theorem fb_b01 (c : Bool) : fb_b c = 0 ∨ fb_b c = 1 := by
  cases c
  · exact Or.inl rfl
  · exact Or.inr rfl
theorem fb_up_same (s : fb_S) (F i : Nat) (v : Int32) : fb_up s F i v F i = v := by simp [fb_up]
theorem fb_up_F (s : fb_S) {F G : Nat} (i j : Nat) (v : Int32) (h : G ≠ F) : fb_up s F i v G j = s G j := by simp [fb_up, h]
theorem fb_up_i (s : fb_S) (F G : Nat) {i j : Nat} (v : Int32) (h : j ≠ i) : fb_up s F i v G j = s G j := by simp [fb_up, h]
theorem fb_up_row (s : fb_S) (F i : Nat) (v : Int32) : fb_up s F i v F = upd (s F) i v := by
  funext j
  simp [fb_up, upd]
/-- a reference in a store: negative is null -/
def fb_ro (a : Nat → Nat) (z : Int32) : Option Nat := if z < 0 then none else some (a (fb_n z))
theorem fb_ro_n {a : Nat → Nat} {z : Int32} (h : z < 0) : fb_ro a z = none := if_pos h
theorem fb_ro_s {a : Nat → Nat} {z : Int32} (h : ¬ z < 0) : fb_ro a z = some (a (fb_n z)) := if_neg h
theorem fb_ro_k {a : Nat → Nat} {k : Nat} (h : k < 2 ^ 31) : fb_ro a (nI k) = some (a k) := by
  rw [fb_ro_s (nI_pos h)]
  exact congrArg (fun q => some (a q)) (nI_clamp h)
theorem fb_m1 : (-1 : Int32) < 0 := by decide
theorem fb_nI {k : Nat} (h : k < 2 ^ 31) : fb_n (nI k) = k := nI_clamp h
/-- where a reference field may point -/
def fb_rg (n : Nat) (v : Int32) : Prop := v = -1 ∨ vp_in v n
theorem fb_rl {n : Nat} {v : Int32} (h : fb_rg n v) (hv : ¬ v < 0) : fb_n v < n := by
  rcases h with rfl | h
  · exact absurd fb_m1 hv
  · exact Nat.lt_of_not_le (fun q => h (Or.inr q))
theorem fb_rk {n k : Nat} (h : k < n) (hn : n < 2 ^ 31) : fb_rg n (nI k) := Or.inr (vp_in_nI h hn)
theorem fb_vl {n : Nat} {v : Int32} (h : vp_in v n) : fb_n v < n := Nat.lt_of_not_le (fun q => h (Or.inr q))
theorem fb_vp {n : Nat} {v : Int32} (h : vp_in v n) : ¬ v < 0 := fun q => h (Or.inl q)
theorem fb_v0 : vp_in 0 2 := by unfold vp_in; decide
theorem fb_v1 : vp_in 1 2 := by unfold vp_in; decide
theorem fb_v01 {v : Int32} (h : v = 0 ∨ v = 1) : vp_in v 2 := by
  rcases h with rfl | rfl
  · exact fb_v0
  · exact fb_v1
theorem fb_o01 {v : Int32} (h : v = 0 ∨ v = 1) : 1 - v = 0 ∨ 1 - v = 1 := by
  rcases h with rfl | rfl
  · exact Or.inr (by decide)
  · exact Or.inl (by decide)
theorem fb_nz {v : Int32} (h : v = 0 ∨ v = 1) : narrow .boolean (.int v) = .int v := by
  rcases h with rfl | rfl <;> rfl
theorem fb_fz {v : Int32} (h : v = 0 ∨ v = 1) : fits .boolean (.int v) = true := by
  rcases h with rfl | rfl <;> rfl
theorem fb_vz {v : Int32} (h : v = 0 ∨ v = 1) : vp_nar .boolean v = v := by
  rcases h with rfl | rfl <;> rfl
/-- a counter against its bound -/
theorem fb_lge {i n : Nat} {z : Int32} (hz : z = nI n) (h : i < n) (hn : n < 2 ^ 31) : ¬ z ≤ nI i := by
  rw [hz]
  exact nI_ge h hn
theorem fb_lle {n : Nat} {z : Int32} (hz : z = nI n) (hn : n < 2 ^ 31) : z ≤ nI n := by
  rw [hz]
  exact nI_le (Nat.le_refl n) hn
/-- an int between 0 and a count -/
theorem fb_inI {f z : Int32} {n N : Nat} (h0 : ¬ f < 0) (h1 : ¬ z ≤ f) (hz : z = nI n) (hn : n ≤ N) (hN : N < 2 ^ 31) : vp_in f N := by
  obtain ⟨j, hj, rfl⟩ := nI_of h0
  rw [hz] at h1
  have : ¬ n ≤ j := fun q => h1 (nI_le q hj)
  exact vp_in_nI (by omega) hN
theorem fb_inI' {f z : Int32} {n : Nat} (h0 : ¬ f < 0) (h1 : ¬ z ≤ f) (hz : z = nI n) (hn : n < 2 ^ 31) : fb_n f < n := fb_vl (fb_inI h0 h1 hz (Nat.le_refl n) hn)
theorem fb_rfc (r : Option Nat) : va_rf r = .null ∨ ∃ a, va_rf r = .ref a := by
  cases r with
  | none => exact Or.inl rfl
  | some a => exact Or.inr ⟨a, rfl⟩
theorem fb_it_0 {α : Type} (f : Nat → α → α) (s : α) : fb_it f 0 s = s := rfl
theorem fb_it_s {α : Type} (f : Nat → α → α) (n : Nat) (s : α) : fb_it f (n + 1) s = f n (fb_it f n s) := rfl
end
section
/-! a side's world as ONE list made out of a store; rows over the kit's rows. fb_S, fb_up: see 04. -/
abbrev fb_L : Type := List (Nat × Nat)
abbrev fb_C : Type := (Nat → Nat → Nat) → fb_S → Nat → Nat → va_E
def fb_wl (cn : fb_C) (ad : Nat → Nat → Nat) (st : fb_S) (LL : fb_L) : va_W := LL.map (fun q => (ad q.1 q.2, cn ad st q.1 q.2))
def fb_A (ad : Nat → Nat → Nat) (LL : fb_L) (sz : Nat) : Nat → Prop := fun q => (∃ x : Nat × Nat, x ∈ LL ∧ q = ad x.1 x.2) ∨ sz ≤ q
theorem fb_get {cn : fb_C} {ad : Nat → Nat → Nat} {st : fb_S} {LL : fb_L} {k i : Nat} (h : (k, i) ∈ LL) : ∃ q0 : Nat, LL[q0]? = some (k, i) ∧ (fb_wl cn ad st LL)[q0]? = some (ad k i, cn ad st k i) := by
  obtain ⟨q0, hq⟩ := List.getElem?_of_mem h
  exact ⟨q0, hq, by simp [fb_wl, List.getElem?_map, hq]⟩
theorem fb_set {cn : fb_C} {ad : Nat → Nat → Nat} {st st' : fb_S} {LL : fb_L} {A : Nat → Prop} {q0 k i : Nat} {e : va_E} (hD : va_D A (fb_wl cn ad st LL)) (hq : LL[q0]? = some (k, i)) (he : e = cn ad st' k i)
    (ho : ∀ k' i' : Nat, (k', i') ∈ LL → ¬ (k' = k ∧ i' = i) → cn ad st' k' i' = cn ad st k' i') : (fb_wl cn ad st LL).set q0 (ad k i, e) = fb_wl cn ad st' LL := by
  have hlt : q0 < LL.length := (List.getElem?_eq_some_iff.mp hq).1
  apply List.ext_getElem?
  intro j
  by_cases hj : j = q0
  · subst hj
    rw [List.getElem?_set_self (by simpa [fb_wl] using hlt), he]
    simp [fb_wl, List.getElem?_map, hq]
  · rw [List.getElem?_set_ne (Ne.symm hj)]
    simp only [fb_wl, List.getElem?_map]
    cases hx : LL[j]? with
    | none => rfl
    | some x =>
      obtain ⟨k', i'⟩ := x
      simp only [Option.map_some, Option.some.injEq, Prod.mk.injEq, true_and]
      refine (ho k' i' (List.mem_of_getElem? hx) ?_).symm
      rintro ⟨rfl, rfl⟩
      refine hj (hD.1 j q0 (ad k' i', cn ad st k' i') (ad k' i', cn ad st k' i') ?_ ?_ rfl)
      · simp [fb_wl, List.getElem?_map, hx]
      · simp [fb_wl, List.getElem?_map, hq]
theorem fb_A_le {ad : Nat → Nat → Nat} {LL : fb_L} {a b q : Nat} (h : a ≤ b) (hq : fb_A ad LL b q) : fb_A ad LL a q := by
  rcases hq with hq | hq
  · exact Or.inl hq
  · exact Or.inr (Nat.le_trans h hq)
theorem fb_D_self {cn : fb_C} {ad : Nat → Nat → Nat} {st : fb_S} {LL : fb_L} {A : Nat → Prop} {sz : Nat} (h : va_D A (fb_wl cn ad st LL)) : va_D (fb_A ad LL sz) (fb_wl cn ad st LL) := by
  refine ⟨h.1, fun k q hk => ?_⟩
  simp only [fb_wl, List.getElem?_map] at hk
  cases hx : LL[k]? with
  | none => rw [hx] at hk; cases hk
  | some x => rw [hx] at hk; cases hk; exact Or.inl ⟨x, List.mem_of_getElem? hx, rfl⟩
section FBW
variable {p : Program} {l : Launch} {e : Env} {R : Room} {s : State} {m : MethodId} {args : Array Value} {below : List Frame} {meth : Method} {c : Code} {H : Heap} {locs : List Loc} {cells slots : Nat} {Q : State → Prop}
variable {cc : ByteArray} {pc : Nat} {ls : Array Slot} {rest : List Value} {D : va_G} {cl : List vw_C} {A : Nat → Prop} {tys : List (ClassId × FieldType)} {H0 : Heap} {cn : fb_C} {ad : Nat → Nat → Nat} {st : fb_S} {LL : fb_L} {k i : Nat}
theorem pw_get (hexec : p.tables.exec = Jvm.exec) (hb : c.code = cc) {own ref C : String} {T : u_T} {N ci index : Nat} {Ts : List Cond} (hts : ∀ w ∈ Ts, w.before args s = true) (hin : ∀ w ∈ u_ws C T N, w ∈ Ts) (hown : s.vm.findClass own = some m.cls) (hK : va_K D cl tys s) (hP : va_P D cl (fb_wl cn ad st LL) H) (hm : (k, i) ∈ LL) {fs : List Value} (he : cn ad st k i = .inr (ci, fs)) (hc : cl[ci]? = some (C, T, N)) (j : Nat) (hj : j < N)
    (hlink : (Cond.fieldLink own index ref (T j).2.1 (T j).2.2.1).before args s = true) (hsame : ∀ x, s.fieldFound? (T j).1 (T j).2.1 (T j).2.2.1 = some x → s.fieldFound? ref (T j).2.1 (T j).2.2.1 = some x) {v : Value} (hv : fs[j]? = some v) (hdg : decode cc pc = .ok (.getfield index, 3))
    (kk : W p l e R s m args below meth c H locs cells slots Q (F0 m (pc + 3) ls (v :: rest))) : W p l e R s m args below meth c H locs cells slots Q (F0 m pc ls (.ref (ad k i) :: rest)) := by
  obtain ⟨q0, -, hq⟩ := fb_get (cn := cn) (ad := ad) (st := st) hm
  rw [he] at hq
  exact va_get hexec hb hts hin hown hK hP q0 hq hc j hj hlink hsame hv hdg kk
theorem pw_split {a : Nat → Nat} {z : Int32} (kn : z < 0 → W p l e R s m args below meth c H locs cells slots Q (F0 m pc ls (.null :: rest))) (ks : ¬ z < 0 → W p l e R s m args below meth c H locs cells slots Q (F0 m pc ls (.ref (a (fb_n z)) :: rest))) : W p l e R s m args below meth c H locs cells slots Q (F0 m pc ls (va_rf (fb_ro a z) :: rest)) := by
  by_cases h : z < 0
  · rw [fb_ro_n h]
    exact kn h
  · rw [fb_ro_s h]
    exact ks h
theorem pw_put (hexec : p.tables.exec = Jvm.exec) (hb : c.code = cc) {own ref C : String} {T : u_T} {N ci index : Nat} {Ts : List Cond} (hts : ∀ w ∈ Ts, w.before args s = true) (hin : ∀ w ∈ u_ws C T N, w ∈ Ts) (ty0 : Nat → FieldType) (hty : ∀ k, k < N → parseFieldDescriptor (T k).2.2.1 = some (ty0 k)) (hnm : ∀ a, a < N → ∀ b, b < N → a ≠ b → (T a).2.1 ≠ (T b).2.1) (hown : s.vm.findClass own = some m.cls) (hK : va_K D cl tys s)
    (hP : va_P D cl (fb_wl cn ad st LL) H) (hD : va_D A (fb_wl cn ad st LL)) (hS : va_S A H0 H locs) (hm : (k, i) ∈ LL) {fs : List Value} (he : cn ad st k i = .inr (ci, fs)) (hc : cl[ci]? = some (C, T, N)) (j : Nat) (hj : j < N)
    (hlink : (Cond.fieldLink own index ref (T j).2.1 (T j).2.2.1).before args s = true) (hsame : ∀ x, s.fieldFound? (T j).1 (T j).2.1 (T j).2.2.1 = some x → s.fieldFound? ref (T j).2.1 (T j).2.2.1 = some x) (hfin : (T j).2.2.2 = false) {ty : FieldType} {v : Value} (hd : parseFieldDescriptor (T j).2.2.1 = some ty) (hn : narrow ty v = v) (hfit : fits ty v = true) (hl : j < fs.length)
    (st' : fb_S) (hs : cn ad st' k i = .inr (ci, fs.set j v)) (ho : ∀ k' i' : Nat, (k', i') ∈ LL → ¬ (k' = k ∧ i' = i) → cn ad st' k' i' = cn ad st k' i') (hdg : decode cc pc = .ok (.putfield index, 3))
    (kk : ∀ (H1 : Heap) (locs1 : List Loc), va_P D cl (fb_wl cn ad st' LL) H1 → va_D A (fb_wl cn ad st' LL) → va_S A H0 H1 locs1 → W p l e R s m args below meth c H1 locs1 cells slots Q (F0 m (pc + 3) ls rest)) : W p l e R s m args below meth c H locs cells slots Q (F0 m pc ls (v :: .ref (ad k i) :: rest)) := by
  obtain ⟨q0, hL, hq⟩ := fb_get (cn := cn) (ad := ad) (st := st) hm
  have hset := fb_set hD hL hs.symm ho
  rw [he] at hq
  refine va_put hexec hb hts hin ty0 hty hnm hown hK hP hD hS q0 hq hc j hj hlink hsame hfin hd hn hfit hl hdg (fun H1 locs1 h1 h2 h3 => ?_)
  rw [hset] at h1 h2
  exact kk H1 locs1 h1 h2 h3
theorem pw_iald (hexec : p.tables.exec = Jvm.exec) (hb : c.code = cc) (hK : va_K D cl tys s) (hP : va_P D cl (fb_wl cn ad st LL) H) (hm : (k, i) ∈ LL) (t0 : Nat) {cA : ClassId} {n : Nat} {f : Nat → Int32} (he : cn ad st k i = .inl (cA, n, .inl f)) (ht : tys[t0]? = some (cA, .int)) {z v : Int32} (hin : vp_in z n) (hv : f z.toNatClampNeg = v) (hdg : decode cc pc = .ok (.iaload, 1))
    (kk : W p l e R s m args below meth c H locs cells slots Q (F0 m (pc + 1) ls (.int v :: rest))) : W p l e R s m args below meth c H locs cells slots Q (F0 m pc ls (.int z :: .ref (ad k i) :: rest)) := by
  obtain ⟨q0, -, hq⟩ := fb_get (cn := cn) (ad := ad) (st := st) hm
  rw [he] at hq
  subst hv
  exact va_iald hexec hb hK hP q0 t0 hq ht hin hdg kk
theorem pw_zald (hexec : p.tables.exec = Jvm.exec) (hb : c.code = cc) (hK : va_K D cl tys s) (hP : va_P D cl (fb_wl cn ad st LL) H) (hm : (k, i) ∈ LL) (t0 : Nat) {cA : ClassId} {n : Nat} {f : Nat → Int32} (he : cn ad st k i = .inl (cA, n, .inl f)) (ht : tys[t0]? = some (cA, .boolean)) {z v : Int32} (hin : vp_in z n) (hv : f z.toNatClampNeg = v) (hdg : decode cc pc = .ok (.baload, 1))
    (kk : W p l e R s m args below meth c H locs cells slots Q (F0 m (pc + 1) ls (.int v :: rest))) : W p l e R s m args below meth c H locs cells slots Q (F0 m pc ls (.int z :: .ref (ad k i) :: rest)) := by
  obtain ⟨q0, -, hq⟩ := fb_get (cn := cn) (ad := ad) (st := st) hm
  rw [he] at hq
  subst hv
  exact va_zald hexec hb hK hP q0 t0 hq ht hin hdg kk
theorem pw_aald (hexec : p.tables.exec = Jvm.exec) (hb : c.code = cc) (hK : va_K D cl tys s) (hP : va_P D cl (fb_wl cn ad st LL) H) (hm : (k, i) ∈ LL) (t0 : Nat) {cA : ClassId} {C : String} {n : Nat} {f : Nat → Option Nat} (he : cn ad st k i = .inl (cA, n, .inr (.inr (.inr (.inr f))))) (ht : tys[t0]? = some (cA, .object C)) {z : Int32} {r : Option Nat} (hin : vp_in z n) (hv : f z.toNatClampNeg = r) (hdg : decode cc pc = .ok (.aaload, 1))
    (kk : W p l e R s m args below meth c H locs cells slots Q (F0 m (pc + 1) ls (va_rf r :: rest))) : W p l e R s m args below meth c H locs cells slots Q (F0 m pc ls (.int z :: .ref (ad k i) :: rest)) := by
  obtain ⟨q0, -, hq⟩ := fb_get (cn := cn) (ad := ad) (st := st) hm
  rw [he] at hq
  subst hv
  exact va_aldq hexec hb hK hP q0 t0 hq ht hin hdg kk
theorem pw_alen (hexec : p.tables.exec = Jvm.exec) (hb : c.code = cc) (hK : va_K D cl tys s) (hP : va_P D cl (fb_wl cn ad st LL) H) (hm : (k, i) ∈ LL) (t0 : Nat) {cA : ClassId} {x : vp_A} (he : cn ad st k i = .inl (cA, x)) {ty : FieldType} (ht : tys[t0]? = some (cA, ty)) {v : Int32} (hv : Int32.ofNat x.1 = v) (hdg : decode cc pc = .ok (.arraylength, 1))
    (kk : W p l e R s m args below meth c H locs cells slots Q (F0 m (pc + 1) ls (.int v :: rest))) : W p l e R s m args below meth c H locs cells slots Q (F0 m pc ls (.ref (ad k i) :: rest)) := by
  obtain ⟨q0, -, hq⟩ := fb_get (cn := cn) (ad := ad) (st := st) hm
  rw [he] at hq
  exact va_alen hexec hb hK hP q0 t0 hq ht hv hdg kk
theorem pw_iast (hexec : p.tables.exec = Jvm.exec) (hb : c.code = cc) (hK : va_K D cl tys s) (hP : va_P D cl (fb_wl cn ad st LL) H) (hD : va_D A (fb_wl cn ad st LL)) (hS : va_S A H0 H locs) (hm : (k, i) ∈ LL) (t0 : Nat) {cA : ClassId} {n : Nat} {f : Nat → Int32} (he : cn ad st k i = .inl (cA, n, .inl f)) (ht : tys[t0]? = some (cA, .int)) {z x : Int32} (hin : vp_in z n)
    (st' : fb_S) (hs : cn ad st' k i = .inl (cA, n, .inl (upd f z.toNatClampNeg x))) (ho : ∀ k' i' : Nat, (k', i') ∈ LL → ¬ (k' = k ∧ i' = i) → cn ad st' k' i' = cn ad st k' i') (hdg : decode cc pc = .ok (.iastore, 1))
    (kk : ∀ (H1 : Heap) (locs1 : List Loc), va_P D cl (fb_wl cn ad st' LL) H1 → va_D A (fb_wl cn ad st' LL) → va_S A H0 H1 locs1 → W p l e R s m args below meth c H1 locs1 cells slots Q (F0 m (pc + 1) ls rest)) : W p l e R s m args below meth c H locs cells slots Q (F0 m pc ls (.int x :: .int z :: .ref (ad k i) :: rest)) := by
  obtain ⟨q0, hL, hq⟩ := fb_get (cn := cn) (ad := ad) (st := st) hm
  have hset := fb_set hD hL hs.symm ho
  rw [he] at hq
  refine va_iast hexec hb hK hP hD hS q0 t0 hq ht hin hdg (fun H1 locs1 h1 h2 h3 => ?_)
  rw [hset] at h1 h2
  exact kk H1 locs1 h1 h2 h3
theorem pw_zast (hexec : p.tables.exec = Jvm.exec) (hb : c.code = cc) (hK : va_K D cl tys s) (hP : va_P D cl (fb_wl cn ad st LL) H) (hD : va_D A (fb_wl cn ad st LL)) (hS : va_S A H0 H locs) (hm : (k, i) ∈ LL) (t0 : Nat) {cA : ClassId} {n : Nat} {f : Nat → Int32} (he : cn ad st k i = .inl (cA, n, .inl f)) (ht : tys[t0]? = some (cA, .boolean)) {z x : Int32} (hin : vp_in z n)
    (st' : fb_S) (hs : cn ad st' k i = .inl (cA, n, .inl (upd f z.toNatClampNeg (vp_nar .boolean x)))) (ho : ∀ k' i' : Nat, (k', i') ∈ LL → ¬ (k' = k ∧ i' = i) → cn ad st' k' i' = cn ad st k' i') (hdg : decode cc pc = .ok (.bastore, 1))
    (kk : ∀ (H1 : Heap) (locs1 : List Loc), va_P D cl (fb_wl cn ad st' LL) H1 → va_D A (fb_wl cn ad st' LL) → va_S A H0 H1 locs1 → W p l e R s m args below meth c H1 locs1 cells slots Q (F0 m (pc + 1) ls rest)) : W p l e R s m args below meth c H locs cells slots Q (F0 m pc ls (.int x :: .int z :: .ref (ad k i) :: rest)) := by
  obtain ⟨q0, hL, hq⟩ := fb_get (cn := cn) (ad := ad) (st := st) hm
  have hset := fb_set hD hL hs.symm ho
  rw [he] at hq
  refine va_zast hexec hb hK hP hD hS q0 t0 hq ht hin hdg (fun H1 locs1 h1 h2 h3 => ?_)
  rw [hset] at h1 h2
  exact kk H1 locs1 h1 h2 h3
/-- a loop: head at pc, the invariant over the heap and the locals -/
theorem pw_loop {n : Nat} {Inv : Nat → Heap → List Loc → Array Slot → Prop} (hstep : ∀ i, i < n → ∀ (H : Heap) (locs : List Loc) (ls : Array Slot), Inv i H locs ls → (∀ (H : Heap) (locs : List Loc) (ls : Array Slot), Inv (i + 1) H locs ls → W p l e R s m args below meth c H locs cells slots Q (F0 m pc ls rest)) → W p l e R s m args below meth c H locs cells slots Q (F0 m pc ls rest))
    (hend : ∀ (H : Heap) (locs : List Loc) (ls : Array Slot), Inv n H locs ls → W p l e R s m args below meth c H locs cells slots Q (F0 m pc ls rest)) (h0 : Inv 0 H locs ls) : W p l e R s m args below meth c H locs cells slots Q (F0 m pc ls rest) := by
  have key : ∀ (d i : Nat), i + d = n → ∀ (H : Heap) (locs : List Loc) (ls : Array Slot), Inv i H locs ls → W p l e R s m args below meth c H locs cells slots Q (F0 m pc ls rest) := by
    intro d
    induction d with
    | zero =>
      intro i hi H locs ls h
      have hin : i = n := by omega
      subst hin
      exact hend H locs ls h
    | succ d ih =>
      intro i hi H locs ls h
      exact hstep i (by omega) H locs ls h (fun H locs ls h => ih (i + 1) (by omega) H locs ls h)
  exact key n 0 (by omega) H locs ls h0
/-- several roads lay one value on the stack -/
theorem pw_cut {X : Int32} {rest : List Value} {g : JFrame} (pj : Nat) (J : Heap → List Loc → Prop) (k : ∀ (x : Int32) (H : Heap) (locs : List Loc), x = X → J H locs → W p l e R s m args below meth c H locs cells slots Q (F0 m pj ls (.int x :: rest)))
    (f : (∀ (x : Int32) (H : Heap) (locs : List Loc), x = X → J H locs → W p l e R s m args below meth c H locs cells slots Q (F0 m pj ls (.int x :: rest))) → W p l e R s m args below meth c H locs cells slots Q g) : W p l e R s m args below meth c H locs cells slots Q g := f k
end FBW
/-- a contract's start and end over a side's world -/
def fb_Pre (cn : fb_C) (D : va_G) (cl : List vw_C) (tys : List (ClassId × FieldType)) (ad : Nat → Nat → Nat) (LL : fb_L) (st : fb_S) (sz : Nat) (U : State) : Prop := U.heap.size = sz ∧ va_P D cl (fb_wl cn ad st LL) U.heap ∧ va_K D cl tys U ∧ va_D (fun _ => True) (fb_wl cn ad st LL)
def fb_B (cn : fb_C) (D : va_G) (cl : List vw_C) (tys : List (ClassId × FieldType)) (ad : Nat → Nat → Nat) (LL : fb_L) (sz : Nat) (st : fb_S) (t : State) : Prop := va_P D cl (fb_wl cn ad st LL) t.heap ∧ va_K D cl tys t ∧ va_D (fb_A ad LL sz) (fb_wl cn ad st LL)
theorem fb_blind {cn : fb_C} {D : va_G} {cl : List vw_C} {tys : List (ClassId × FieldType)} {ad : Nat → Nat → Nat} {LL : fb_L} {st : fb_S} {sz : Nat} {av : List Value} : FrameBlind (va_Pc av (fb_Pre cn D cl tys ad LL st sz)) := by
  intro a U g mk q
  obtain ⟨q0, q1, qP, qK, qD⟩ := q
  exact ⟨q0, q1, qP, va_K.moved (u := U) (U := U.calling g mk a) (Vm.Alike.refl U.vm) qK, qD⟩
def fb_Mi (l : Launch) (y : MethodName) (ws : List Cond) (rm : Room) (cn : fb_C) (D : va_G) (cl : List vw_C) (tys : List (ClassId × FieldType)) (ad : Nat → Nat → Nat) (LL : fb_L) (st : fb_S) (av : List Value) (post : Int32 → fb_S → Prop) : Prop :=
  ∀ sz : Nat, Met l y ws rm (va_Pc av (fb_Pre cn D cl tys ad LL st sz)) (va_Qi post (fb_B cn D cl tys ad LL sz) (fb_A ad LL sz)) 0 0 (fb_A ad LL sz)
def fb_Mv (l : Launch) (y : MethodName) (ws : List Cond) (rm : Room) (cn : fb_C) (D : va_G) (cl : List vw_C) (tys : List (ClassId × FieldType)) (ad : Nat → Nat → Nat) (LL : fb_L) (st : fb_S) (av : List Value) (post : fb_S → Prop) : Prop :=
  ∀ sz : Nat, Met l y ws rm (va_Pc av (fb_Pre cn D cl tys ad LL st sz)) (va_Qv post (fb_B cn D cl tys ad LL sz) (fb_A ad LL sz)) 0 0 (fb_A ad LL sz)
def fb_Mq (l : Launch) (y : MethodName) (ws : List Cond) (rm : Room) (cn : fb_C) (D : va_G) (cl : List vw_C) (tys : List (ClassId × FieldType)) (ad : Nat → Nat → Nat) (LL : fb_L) (st : fb_S) (av : List Value) (post : Option Nat → fb_S → Prop) : Prop :=
  ∀ sz : Nat, Met l y ws rm (va_Pc av (fb_Pre cn D cl tys ad LL st sz)) (va_Qq post (fb_B cn D cl tys ad LL sz) (fb_A ad LL sz)) 0 0 (fb_A ad LL sz)
section FBC
variable {p : Program} {l : Launch} {e : Env} {R : Room} {s : State} {m : MethodId} {args : Array Value} {below : List Frame} {meth : Method} {c : Code} {H : Heap} {locs : List Loc} {cells slots : Nat} {Q : State → Prop}
variable {cc bytes : ByteArray} {pc nL maxL n index b : Nat} {ls : Array Slot} {rest st0 As : List Value} {D : va_G} {cl : List vw_C} {tys : List (ClassId × FieldType)} {H0 : Heap} {cn : fb_C} {ad : Nat → Nat → Nat} {st : fb_S} {LL : fb_L}
variable {Ts ws : List Cond} {own C : String} {y : MethodName} {rm : Room} {ret : Option FieldType}
theorem pw_Vi {post : Int32 → fb_S → Prop} (S : CallFix p m c cc nL s args Ts own) (hM : fb_Mi l y ws rm cn D cl tys ad LL st (.ref b :: As) post) (cw : CallW R s args own C index y bytes maxL ret ws rm 0 0 n) (hK : va_K D cl tys s) (hP : va_P D cl (fb_wl cn ad st LL) H) (hD : va_D (fb_A ad LL H0.size) (fb_wl cn ad st LL)) (hS : va_S (fb_A ad LL H0.size) H0 H locs)
    (hrecv : ∃ cellB : Cell, H[b]? = some cellB ∧ cellB.vm.isStatics = false ∧ s.vm.findClass C = some cellB.cls) (hn : As.length = n) (hsz : ls.size = nL) (hst : st0 = As.reverse ++ .ref b :: rest) (hW : 2 * (F0 m pc ls st0).monitorRoom + (rest.map fun v => v.category).sum ≤ 8) (hdg : decode cc pc = .ok (.invokevirtual index, 3)) (hf : cells ≤ R.cells ∧ slots ≤ R.slots)
    (kk : ∀ (r : Int32) (st1 : fb_S) (H1 : Heap) (locs1 : List Loc), post r st1 → va_P D cl (fb_wl cn ad st1 LL) H1 → va_D (fb_A ad LL H0.size) (fb_wl cn ad st1 LL) → va_S (fb_A ad LL H0.size) H0 H1 locs1 → W p l e R s m args below meth c H1 locs1 cells slots Q (F0 m (pc + 3) ls (.int r :: rest))) : W p l e R s m args below meth c H locs cells slots Q (F0 m pc ls st0) := by
  refine va_calli (va_runV S (hM H.size) cw ⟨fb_blind, hrecv, fun U hU hW => ⟨rfl, by rw [hU], by rw [hU]; exact hP, va_K.moved hW.alike hK, hD.weaken (fun _ _ _ _ => trivial)⟩⟩ rfl hn hsz hst hW hdg hf) hS (fun q _ h => fb_A_le hS.1 h) (fun q h => fb_A_le hS.1 h) (fun r u t H1 locs1 ht hvm hp hB hz hk hS1 => ?_)
  obtain ⟨hP1, -, hD1⟩ := hB
  rw [ht] at hP1
  exact kk r u H1 locs1 hp hP1 (hD1.weaken (fun _ _ _ h => fb_A_le hS.1 h)) hS1
theorem pw_Vv {post : fb_S → Prop} (S : CallFix p m c cc nL s args Ts own) (hM : fb_Mv l y ws rm cn D cl tys ad LL st (.ref b :: As) post) (cw : CallW R s args own C index y bytes maxL ret ws rm 0 0 n) (hK : va_K D cl tys s) (hP : va_P D cl (fb_wl cn ad st LL) H) (hD : va_D (fb_A ad LL H0.size) (fb_wl cn ad st LL)) (hS : va_S (fb_A ad LL H0.size) H0 H locs)
    (hrecv : ∃ cellB : Cell, H[b]? = some cellB ∧ cellB.vm.isStatics = false ∧ s.vm.findClass C = some cellB.cls) (hn : As.length = n) (hsz : ls.size = nL) (hst : st0 = As.reverse ++ .ref b :: rest) (hW : 2 * (F0 m pc ls st0).monitorRoom + (rest.map fun v => v.category).sum ≤ 8) (hdg : decode cc pc = .ok (.invokevirtual index, 3)) (hf : cells ≤ R.cells ∧ slots ≤ R.slots)
    (kk : ∀ (st1 : fb_S) (H1 : Heap) (locs1 : List Loc), post st1 → va_P D cl (fb_wl cn ad st1 LL) H1 → va_D (fb_A ad LL H0.size) (fb_wl cn ad st1 LL) → va_S (fb_A ad LL H0.size) H0 H1 locs1 → W p l e R s m args below meth c H1 locs1 cells slots Q (F0 m (pc + 3) ls rest)) : W p l e R s m args below meth c H locs cells slots Q (F0 m pc ls st0) := by
  refine va_callv (va_runV S (hM H.size) cw ⟨fb_blind, hrecv, fun U hU hW => ⟨rfl, by rw [hU], by rw [hU]; exact hP, va_K.moved hW.alike hK, hD.weaken (fun _ _ _ _ => trivial)⟩⟩ rfl hn hsz hst hW hdg hf) hS (fun q _ h => fb_A_le hS.1 h) (fun q h => fb_A_le hS.1 h) (fun u t H1 locs1 ht hvm hp hB hz hk hS1 => ?_)
  obtain ⟨hP1, -, hD1⟩ := hB
  rw [ht] at hP1
  exact kk u H1 locs1 hp hP1 (hD1.weaken (fun _ _ _ h => fb_A_le hS.1 h)) hS1
theorem pw_Vq {post : Option Nat → fb_S → Prop} (S : CallFix p m c cc nL s args Ts own) (hM : fb_Mq l y ws rm cn D cl tys ad LL st (.ref b :: As) post) (cw : CallW R s args own C index y bytes maxL ret ws rm 0 0 n) (hK : va_K D cl tys s) (hP : va_P D cl (fb_wl cn ad st LL) H) (hD : va_D (fb_A ad LL H0.size) (fb_wl cn ad st LL)) (hS : va_S (fb_A ad LL H0.size) H0 H locs)
    (hrecv : ∃ cellB : Cell, H[b]? = some cellB ∧ cellB.vm.isStatics = false ∧ s.vm.findClass C = some cellB.cls) (hn : As.length = n) (hsz : ls.size = nL) (hst : st0 = As.reverse ++ .ref b :: rest) (hW : 2 * (F0 m pc ls st0).monitorRoom + (rest.map fun v => v.category).sum ≤ 8) (hdg : decode cc pc = .ok (.invokevirtual index, 3)) (hf : cells ≤ R.cells ∧ slots ≤ R.slots)
    (kk : ∀ (r : Option Nat) (st1 : fb_S) (H1 : Heap) (locs1 : List Loc), post r st1 → va_P D cl (fb_wl cn ad st1 LL) H1 → va_D (fb_A ad LL H0.size) (fb_wl cn ad st1 LL) → va_S (fb_A ad LL H0.size) H0 H1 locs1 → W p l e R s m args below meth c H1 locs1 cells slots Q (F0 m (pc + 3) ls (va_rf r :: rest))) : W p l e R s m args below meth c H locs cells slots Q (F0 m pc ls st0) := by
  refine va_callq (va_runV S (hM H.size) cw ⟨fb_blind, hrecv, fun U hU hW => ⟨rfl, by rw [hU], by rw [hU]; exact hP, va_K.moved hW.alike hK, hD.weaken (fun _ _ _ _ => trivial)⟩⟩ rfl hn hsz hst hW hdg hf) hS (fun q _ h => fb_A_le hS.1 h) (fun q h => fb_A_le hS.1 h) (fun r u t H1 locs1 ht hvm hp hB hz hk hS1 => ?_)
  obtain ⟨hP1, -, hD1⟩ := hB
  rw [ht] at hP1
  exact kk r u H1 locs1 hp hP1 (hD1.weaken (fun _ _ _ h => fb_A_le hS.1 h)) hS1
theorem pw_Si {post : Int32 → fb_S → Prop} (S : CallFix p m c cc nL s args Ts own) (hM : fb_Mi l y ws rm cn D cl tys ad LL st As post) (cw : CallB R s args own index y bytes maxL ret ws rm 0 0 n ∧ (Cond.static y).before args s = true) (hK : va_K D cl tys s) (hP : va_P D cl (fb_wl cn ad st LL) H) (hD : va_D (fb_A ad LL H0.size) (fb_wl cn ad st LL)) (hS : va_S (fb_A ad LL H0.size) H0 H locs)
    (hn : As.length = n) (hsz : ls.size = nL) (hst : st0 = As.reverse ++ rest) (hW : 2 * (F0 m pc ls st0).monitorRoom + (rest.map fun v => v.category).sum ≤ 8) (hdg : decode cc pc = .ok (.invokestatic index, 3)) (hf : cells ≤ R.cells ∧ slots ≤ R.slots)
    (kk : ∀ (r : Int32) (st1 : fb_S) (H1 : Heap) (locs1 : List Loc), post r st1 → va_P D cl (fb_wl cn ad st1 LL) H1 → va_D (fb_A ad LL H0.size) (fb_wl cn ad st1 LL) → va_S (fb_A ad LL H0.size) H0 H1 locs1 → W p l e R s m args below meth c H1 locs1 cells slots Q (F0 m (pc + 3) ls (.int r :: rest))) : W p l e R s m args below meth c H locs cells slots Q (F0 m pc ls st0) := by
  refine va_calli (va_runS S (hM H.size) cw ⟨fb_blind, fun U hU hW => ⟨rfl, by rw [hU], by rw [hU]; exact hP, va_K.moved hW.alike hK, hD.weaken (fun _ _ _ _ => trivial)⟩⟩ rfl hn hsz hst hW hdg hf) hS (fun q _ h => fb_A_le hS.1 h) (fun q h => fb_A_le hS.1 h) (fun r u t H1 locs1 ht hvm hp hB hz hk hS1 => ?_)
  obtain ⟨hP1, -, hD1⟩ := hB
  rw [ht] at hP1
  exact kk r u H1 locs1 hp hP1 (hD1.weaken (fun _ _ _ h => fb_A_le hS.1 h)) hS1
theorem pw_Sv {post : fb_S → Prop} (S : CallFix p m c cc nL s args Ts own) (hM : fb_Mv l y ws rm cn D cl tys ad LL st As post) (cw : CallB R s args own index y bytes maxL ret ws rm 0 0 n ∧ (Cond.static y).before args s = true) (hK : va_K D cl tys s) (hP : va_P D cl (fb_wl cn ad st LL) H) (hD : va_D (fb_A ad LL H0.size) (fb_wl cn ad st LL)) (hS : va_S (fb_A ad LL H0.size) H0 H locs)
    (hn : As.length = n) (hsz : ls.size = nL) (hst : st0 = As.reverse ++ rest) (hW : 2 * (F0 m pc ls st0).monitorRoom + (rest.map fun v => v.category).sum ≤ 8) (hdg : decode cc pc = .ok (.invokestatic index, 3)) (hf : cells ≤ R.cells ∧ slots ≤ R.slots)
    (kk : ∀ (st1 : fb_S) (H1 : Heap) (locs1 : List Loc), post st1 → va_P D cl (fb_wl cn ad st1 LL) H1 → va_D (fb_A ad LL H0.size) (fb_wl cn ad st1 LL) → va_S (fb_A ad LL H0.size) H0 H1 locs1 → W p l e R s m args below meth c H1 locs1 cells slots Q (F0 m (pc + 3) ls rest)) : W p l e R s m args below meth c H locs cells slots Q (F0 m pc ls st0) := by
  refine va_callv (va_runS S (hM H.size) cw ⟨fb_blind, fun U hU hW => ⟨rfl, by rw [hU], by rw [hU]; exact hP, va_K.moved hW.alike hK, hD.weaken (fun _ _ _ _ => trivial)⟩⟩ rfl hn hsz hst hW hdg hf) hS (fun q _ h => fb_A_le hS.1 h) (fun q h => fb_A_le hS.1 h) (fun u t H1 locs1 ht hvm hp hB hz hk hS1 => ?_)
  obtain ⟨hP1, -, hD1⟩ := hB
  rw [ht] at hP1
  exact kk u H1 locs1 hp hP1 (hD1.weaken (fun _ _ _ h => fb_A_le hS.1 h)) hS1
theorem fb_recv {ci : Nat} {q : vw_C} {fs : List Value} {k i : Nat} (hK : va_K D cl tys s) (hP : va_P D cl (fb_wl cn ad st LL) H) (hm : (k, i) ∈ LL) (he : cn ad st k i = .inr (ci, fs)) (hc : cl[ci]? = some q) : ∃ cell : Cell, H[ad k i]? = some cell ∧ cell.vm.isStatics = false ∧ s.vm.findClass q.1 = some cell.cls := by
  obtain ⟨q0, -, hq⟩ := fb_get (cn := cn) (ad := ad) (st := st) hm
  rw [he] at hq
  exact va_recv hK hP hc hq
end FBC
/-- array classes of one element type are one class -/
theorem fb_uni {D : va_G} {cl : List vw_C} {tys : List (ClassId × FieldType)} {s : State} (hK : va_K D cl tys s) {i j : Nat} {a b : ClassId} {ty : FieldType} (hi : tys[i]? = some (a, ty)) (hj : tys[j]? = some (b, ty)) : a = b := by
  have h1 := (hK.2 i _ hi).2
  have h2 := (hK.2 j _ hj).2
  cases ty with
  | object C =>
    obtain ⟨_, _, _, _, _, e1⟩ := h1
    obtain ⟨_, _, _, _, _, e2⟩ := h2
    exact Option.some.inj (e1.symm.trans e2)
  | _ => exact Option.some.inj (h1.symm.trans h2)
section FBX
variable {p : Program} {l : Launch} {e : Env} {R : Room} {s : State} {m : MethodId} {args : Array Value} {below : List Frame} {meth : Method} {c : Code} {H : Heap} {locs : List Loc} {cells slots : Nat} {Q : State → Prop}
variable {cc bytes : ByteArray} {pc nL maxL n index : Nat} {ls : Array Slot} {rest st0 As : List Value} {D : va_G} {cl : List vw_C} {tys : List (ClassId × FieldType)} {H0 : Heap} {cn : fb_C} {ad : Nat → Nat → Nat} {st : fb_S} {A : Nat → Prop} {ws : va_W}
variable {Ts w0 : List Cond} {own C : String} {y : MethodName} {rm : Room} {ret : Option FieldType}
/-- a pure method, from any world -/
theorem pw_SiX {post : Int32 → fb_S → Prop} (S : CallFix p m c cc nL s args Ts own) (hM : fb_Mi l y w0 rm cn D cl tys ad [] st As post) (cw : CallB R s args own index y bytes maxL ret w0 rm 0 0 n ∧ (Cond.static y).before args s = true) (hK : va_K D cl tys s) (hP : va_P D cl ws H) (hD : va_D A ws) (hS : va_S A H0 H locs) (hA : ∀ q, H0.size ≤ q → A q)
    (hn : As.length = n) (hsz : ls.size = nL) (hst : st0 = As.reverse ++ rest) (hW : 2 * (F0 m pc ls st0).monitorRoom + (rest.map fun v => v.category).sum ≤ 8) (hdg : decode cc pc = .ok (.invokestatic index, 3)) (hf : cells ≤ R.cells ∧ slots ≤ R.slots)
    (kk : ∀ (r : Int32) (st1 : fb_S) (H1 : Heap) (locs1 : List Loc), post r st1 → va_P D cl ws H1 → va_D A ws → va_S A H0 H1 locs1 → W p l e R s m args below meth c H1 locs1 cells slots Q (F0 m (pc + 3) ls (.int r :: rest))) : W p l e R s m args below meth c H locs cells slots Q (F0 m pc ls st0) := by
  have nilP : va_P D cl (fb_wl cn ad st []) H := fun k q hk => by simp [fb_wl] at hk
  have nilD : va_D (fun _ => True) (fb_wl cn ad st []) := ⟨fun i j p q hi => by simp [fb_wl] at hi, fun _ _ _ => trivial⟩
  have hA1 : ∀ q, q < H.size → ¬ fb_A ad [] H.size q := fun q h1 h2 => by
    rcases h2 with ⟨x, hx, -⟩ | h2
    · cases hx
    · omega
  have hA2 : ∀ q, fb_A ad [] H.size q → A q := fun q h => hA q (by
    rcases h with ⟨x, hx, -⟩ | h
    · cases hx
    · exact Nat.le_trans hS.1 h)
  refine va_calli (va_runS S (hM H.size) cw ⟨fb_blind, fun U hU hW => ⟨rfl, by rw [hU], by rw [hU]; exact nilP, va_K.moved hW.alike hK, nilD⟩⟩ rfl hn hsz hst hW hdg hf) hS (fun q h1 h2 => absurd h2 (hA1 q h1)) hA2 (fun r u t H1 locs1 ht hvm hp hB hz hk hS1 => ?_)
  exact kk r u H1 locs1 hp (hP.kept (fun k x hx => hk x.1 ((hP k x hx).lt) (hA1 x.1 ((hP k x hx).lt)))) hD hS1
end FBX
end
section
/-! the cells of both sides out of the stores; ranges; what lives. Class numbers: 0 PausedFabric 1 Port 2 Flow 3 Frame 4 FrameQueue 5 the reference; array classes: cA 0 int 1 Port 2 Flow 3 Frame 4 FrameQueue 5 boolean -/
def fb_tys (cA : Nat → ClassId) : List (ClassId × FieldType) := [(cA 0, .int), (cA 1, .object "PausedFabric$Port"), (cA 2, .object "PausedFabric$Flow"), (cA 3, .object "PausedFabric$Frame"), (cA 4, .object "PausedFabric$FrameQueue"), (cA 5, .boolean)]
def fb_cC (cA : Nat → ClassId) : fb_C := fun ad st k i => match k with
  | 0 => .inr (0, [.int (st 0 0), .int (st 1 0), .int (st 2 0), .int (st 3 0), .ref (ad 1 0), .ref (ad 2 0), .ref (ad 3 0), .ref (ad 4 0), .int (st 4 0), .int (st 5 0), .int (st 6 0)])
  | 1 => .inl (cA 0, 2, .inl (st 7))
  | 2 => .inl (cA 1, 32, .inr (.inr (.inr (.inr (fun j => if j < 32 then some (ad 5 j) else none)))))
  | 3 => .inl (cA 2, 12, .inr (.inr (.inr (.inr (fun j => fb_ro (ad 6) (st 8 j))))))
  | 4 => .inl (cA 3, 100, .inr (.inr (.inr (.inr (fun j => fb_ro (ad 7) (st 9 j))))))
  | 5 => .inr (1, [.int (st 10 i), .int (st 11 i), .ref (ad 8 i), .ref (ad 9 i), .int (st 12 i), va_rf (fb_ro (ad 7) (st 13 i)), .ref (ad 11 (3 * i + 2)), .ref (ad 10 i), .int (st 14 i), .int (st 15 i), .int (st 16 i)])
  | 6 => .inr (2, [.int (st 22 i), .ref (ad 12 i), .int (st 23 i), .int (st 24 i), .int (st 25 i), .int (st 26 i), .int (st 27 i), .int (st 28 i), .int (st 29 i), .int (st 30 i), .int (st 31 i), .int (st 32 i)])
  | 7 => .inr (3, [.int (st 35 i), .ref (ad 6 (fb_n (st 36 i))), .int (st 37 i), .int (st 38 i), .int (st 39 i), .int (st 40 i), .int (st 41 i), va_rf (fb_ro (ad 5) (st 42 i)), .int (st 43 i), va_rf (fb_ro (ad 7) (st 44 i))])
  | 8 => .inl (cA 4, 2, .inr (.inr (.inr (.inr (fun j => if j < 2 then some (ad 11 (3 * i + j)) else none)))))
  | 9 => .inl (cA 0, 2, .inl (fun j => if j < 2 then st 17 (2 * i + j) else 0))
  | 10 => .inl (cA 0, 2, .inl (fun j => if j < 2 then st 18 (2 * i + j) else 0))
  | 11 => .inr (4, [va_rf (fb_ro (ad 7) (st 19 i)), va_rf (fb_ro (ad 7) (st 20 i)), .int (st 21 i)])
  | _ => .inl (cA 1, fb_n (st 34 i), .inr (.inr (.inr (.inr (fun j => fb_ro (ad 5) (if j < 4 then st 33 (4 * i + j) else -1))))))
/-- which label a field belongs to -/
def fb_ow (F : Nat) : Nat := if F < 7 then 0 else if F = 7 then 1 else if F = 8 then 3 else if F = 9 then 4 else if F < 17 then 5 else if F = 17 then 9 else if F = 18 then 10 else if F < 22 then 11 else if F < 33 then 6 else if F < 35 then 12 else 7
def fb_ix (F j : Nat) : Nat := if F < 10 then 0 else if F = 17 then j / 2 else if F = 18 then j / 2 else if F = 33 then j / 4 else j
theorem ow_0 : fb_ow 0 = 0 := by simp [fb_ow]
theorem ix_0 (j : Nat) : fb_ix 0 j = 0 := by simp [fb_ix]
theorem ow_1 : fb_ow 1 = 0 := by simp [fb_ow]
theorem ix_1 (j : Nat) : fb_ix 1 j = 0 := by simp [fb_ix]
theorem ow_2 : fb_ow 2 = 0 := by simp [fb_ow]
theorem ix_2 (j : Nat) : fb_ix 2 j = 0 := by simp [fb_ix]
theorem ow_3 : fb_ow 3 = 0 := by simp [fb_ow]
theorem ix_3 (j : Nat) : fb_ix 3 j = 0 := by simp [fb_ix]
theorem ow_4 : fb_ow 4 = 0 := by simp [fb_ow]
theorem ix_4 (j : Nat) : fb_ix 4 j = 0 := by simp [fb_ix]
theorem ow_5 : fb_ow 5 = 0 := by simp [fb_ow]
theorem ix_5 (j : Nat) : fb_ix 5 j = 0 := by simp [fb_ix]
theorem ow_6 : fb_ow 6 = 0 := by simp [fb_ow]
theorem ix_6 (j : Nat) : fb_ix 6 j = 0 := by simp [fb_ix]
theorem ow_7 : fb_ow 7 = 1 := by simp [fb_ow]
theorem ix_7 (j : Nat) : fb_ix 7 j = 0 := by simp [fb_ix]
theorem ow_8 : fb_ow 8 = 3 := by simp [fb_ow]
theorem ix_8 (j : Nat) : fb_ix 8 j = 0 := by simp [fb_ix]
theorem ow_9 : fb_ow 9 = 4 := by simp [fb_ow]
theorem ix_9 (j : Nat) : fb_ix 9 j = 0 := by simp [fb_ix]
theorem ow_10 : fb_ow 10 = 5 := by simp [fb_ow]
theorem ix_10 (j : Nat) : fb_ix 10 j = j := by simp [fb_ix]
theorem ow_11 : fb_ow 11 = 5 := by simp [fb_ow]
theorem ix_11 (j : Nat) : fb_ix 11 j = j := by simp [fb_ix]
theorem ow_12 : fb_ow 12 = 5 := by simp [fb_ow]
theorem ix_12 (j : Nat) : fb_ix 12 j = j := by simp [fb_ix]
theorem ow_13 : fb_ow 13 = 5 := by simp [fb_ow]
theorem ix_13 (j : Nat) : fb_ix 13 j = j := by simp [fb_ix]
theorem ow_14 : fb_ow 14 = 5 := by simp [fb_ow]
theorem ix_14 (j : Nat) : fb_ix 14 j = j := by simp [fb_ix]
theorem ow_15 : fb_ow 15 = 5 := by simp [fb_ow]
theorem ix_15 (j : Nat) : fb_ix 15 j = j := by simp [fb_ix]
theorem ow_16 : fb_ow 16 = 5 := by simp [fb_ow]
theorem ix_16 (j : Nat) : fb_ix 16 j = j := by simp [fb_ix]
theorem ow_17 : fb_ow 17 = 9 := by simp [fb_ow]
theorem ix_17 (j : Nat) : fb_ix 17 j = j / 2 := by simp [fb_ix]
theorem ow_18 : fb_ow 18 = 10 := by simp [fb_ow]
theorem ix_18 (j : Nat) : fb_ix 18 j = j / 2 := by simp [fb_ix]
theorem ow_19 : fb_ow 19 = 11 := by simp [fb_ow]
theorem ix_19 (j : Nat) : fb_ix 19 j = j := by simp [fb_ix]
theorem ow_20 : fb_ow 20 = 11 := by simp [fb_ow]
theorem ix_20 (j : Nat) : fb_ix 20 j = j := by simp [fb_ix]
theorem ow_21 : fb_ow 21 = 11 := by simp [fb_ow]
theorem ix_21 (j : Nat) : fb_ix 21 j = j := by simp [fb_ix]
theorem ow_22 : fb_ow 22 = 6 := by simp [fb_ow]
theorem ix_22 (j : Nat) : fb_ix 22 j = j := by simp [fb_ix]
theorem ow_23 : fb_ow 23 = 6 := by simp [fb_ow]
theorem ix_23 (j : Nat) : fb_ix 23 j = j := by simp [fb_ix]
theorem ow_24 : fb_ow 24 = 6 := by simp [fb_ow]
theorem ix_24 (j : Nat) : fb_ix 24 j = j := by simp [fb_ix]
theorem ow_25 : fb_ow 25 = 6 := by simp [fb_ow]
theorem ix_25 (j : Nat) : fb_ix 25 j = j := by simp [fb_ix]
theorem ow_26 : fb_ow 26 = 6 := by simp [fb_ow]
theorem ix_26 (j : Nat) : fb_ix 26 j = j := by simp [fb_ix]
theorem ow_27 : fb_ow 27 = 6 := by simp [fb_ow]
theorem ix_27 (j : Nat) : fb_ix 27 j = j := by simp [fb_ix]
theorem ow_28 : fb_ow 28 = 6 := by simp [fb_ow]
theorem ix_28 (j : Nat) : fb_ix 28 j = j := by simp [fb_ix]
theorem ow_29 : fb_ow 29 = 6 := by simp [fb_ow]
theorem ix_29 (j : Nat) : fb_ix 29 j = j := by simp [fb_ix]
theorem ow_30 : fb_ow 30 = 6 := by simp [fb_ow]
theorem ix_30 (j : Nat) : fb_ix 30 j = j := by simp [fb_ix]
theorem ow_31 : fb_ow 31 = 6 := by simp [fb_ow]
theorem ix_31 (j : Nat) : fb_ix 31 j = j := by simp [fb_ix]
theorem ow_32 : fb_ow 32 = 6 := by simp [fb_ow]
theorem ix_32 (j : Nat) : fb_ix 32 j = j := by simp [fb_ix]
theorem ow_33 : fb_ow 33 = 12 := by simp [fb_ow]
theorem ix_33 (j : Nat) : fb_ix 33 j = j / 4 := by simp [fb_ix]
theorem ow_34 : fb_ow 34 = 12 := by simp [fb_ow]
theorem ix_34 (j : Nat) : fb_ix 34 j = j := by simp [fb_ix]
theorem ow_35 : fb_ow 35 = 7 := by simp [fb_ow]
theorem ix_35 (j : Nat) : fb_ix 35 j = j := by simp [fb_ix]
theorem ow_36 : fb_ow 36 = 7 := by simp [fb_ow]
theorem ix_36 (j : Nat) : fb_ix 36 j = j := by simp [fb_ix]
theorem ow_37 : fb_ow 37 = 7 := by simp [fb_ow]
theorem ix_37 (j : Nat) : fb_ix 37 j = j := by simp [fb_ix]
theorem ow_38 : fb_ow 38 = 7 := by simp [fb_ow]
theorem ix_38 (j : Nat) : fb_ix 38 j = j := by simp [fb_ix]
theorem ow_39 : fb_ow 39 = 7 := by simp [fb_ow]
theorem ix_39 (j : Nat) : fb_ix 39 j = j := by simp [fb_ix]
theorem ow_40 : fb_ow 40 = 7 := by simp [fb_ow]
theorem ix_40 (j : Nat) : fb_ix 40 j = j := by simp [fb_ix]
theorem ow_41 : fb_ow 41 = 7 := by simp [fb_ow]
theorem ix_41 (j : Nat) : fb_ix 41 j = j := by simp [fb_ix]
theorem ow_42 : fb_ow 42 = 7 := by simp [fb_ow]
theorem ix_42 (j : Nat) : fb_ix 42 j = j := by simp [fb_ix]
theorem ow_43 : fb_ow 43 = 7 := by simp [fb_ow]
theorem ix_43 (j : Nat) : fb_ix 43 j = j := by simp [fb_ix]
theorem ow_44 : fb_ow 44 = 7 := by simp [fb_ow]
theorem ix_44 (j : Nat) : fb_ix 44 j = j := by simp [fb_ix]
theorem fbc_0 {cA : Nat → ClassId} {ad : Nat → Nat → Nat} {st st' : fb_S} {i : Nat} (hk : 0 ≤ 4 → i = 0) (h : ∀ F j, fb_ow F = 0 → fb_ix F j = i → st' F j = st F j) : fb_cC cA ad st' 0 i = fb_cC cA ad st 0 i := by
  obtain rfl := hk (by omega)
  simp only [fb_cC]
  rw [h 0 0 ow_0 (ix_0 _), h 1 0 ow_1 (ix_1 _), h 2 0 ow_2 (ix_2 _), h 3 0 ow_3 (ix_3 _), h 4 0 ow_4 (ix_4 _), h 5 0 ow_5 (ix_5 _), h 6 0 ow_6 (ix_6 _)]
theorem fbc_1 {cA : Nat → ClassId} {ad : Nat → Nat → Nat} {st st' : fb_S} {i : Nat} (hk : 1 ≤ 4 → i = 0) (h : ∀ F j, fb_ow F = 1 → fb_ix F j = i → st' F j = st F j) : fb_cC cA ad st' 1 i = fb_cC cA ad st 1 i := by
  obtain rfl := hk (by omega)
  simp only [fb_cC]
  rw [show st' 7 = st 7 from funext (fun j => h 7 j ow_7 (ix_7 _))]
theorem fbc_2 {cA : Nat → ClassId} {ad : Nat → Nat → Nat} {st st' : fb_S} {i : Nat} (hk : 2 ≤ 4 → i = 0) (h : ∀ F j, fb_ow F = 2 → fb_ix F j = i → st' F j = st F j) : fb_cC cA ad st' 2 i = fb_cC cA ad st 2 i := by
  simp only [fb_cC]
theorem fbc_3 {cA : Nat → ClassId} {ad : Nat → Nat → Nat} {st st' : fb_S} {i : Nat} (hk : 3 ≤ 4 → i = 0) (h : ∀ F j, fb_ow F = 3 → fb_ix F j = i → st' F j = st F j) : fb_cC cA ad st' 3 i = fb_cC cA ad st 3 i := by
  obtain rfl := hk (by omega)
  simp only [fb_cC]
  rw [show st' 8 = st 8 from funext (fun j => h 8 j ow_8 (ix_8 _))]
theorem fbc_4 {cA : Nat → ClassId} {ad : Nat → Nat → Nat} {st st' : fb_S} {i : Nat} (hk : 4 ≤ 4 → i = 0) (h : ∀ F j, fb_ow F = 4 → fb_ix F j = i → st' F j = st F j) : fb_cC cA ad st' 4 i = fb_cC cA ad st 4 i := by
  obtain rfl := hk (by omega)
  simp only [fb_cC]
  rw [show st' 9 = st 9 from funext (fun j => h 9 j ow_9 (ix_9 _))]
theorem fbc_5 {cA : Nat → ClassId} {ad : Nat → Nat → Nat} {st st' : fb_S} {i : Nat} (hk : 5 ≤ 4 → i = 0) (h : ∀ F j, fb_ow F = 5 → fb_ix F j = i → st' F j = st F j) : fb_cC cA ad st' 5 i = fb_cC cA ad st 5 i := by
  simp only [fb_cC]
  rw [h 10 i ow_10 (ix_10 _), h 11 i ow_11 (ix_11 _), h 12 i ow_12 (ix_12 _), h 13 i ow_13 (ix_13 _), h 14 i ow_14 (ix_14 _), h 15 i ow_15 (ix_15 _), h 16 i ow_16 (ix_16 _)]
theorem fbc_6 {cA : Nat → ClassId} {ad : Nat → Nat → Nat} {st st' : fb_S} {i : Nat} (hk : 6 ≤ 4 → i = 0) (h : ∀ F j, fb_ow F = 6 → fb_ix F j = i → st' F j = st F j) : fb_cC cA ad st' 6 i = fb_cC cA ad st 6 i := by
  simp only [fb_cC]
  rw [h 22 i ow_22 (ix_22 _), h 23 i ow_23 (ix_23 _), h 24 i ow_24 (ix_24 _), h 25 i ow_25 (ix_25 _), h 26 i ow_26 (ix_26 _), h 27 i ow_27 (ix_27 _), h 28 i ow_28 (ix_28 _), h 29 i ow_29 (ix_29 _), h 30 i ow_30 (ix_30 _), h 31 i ow_31 (ix_31 _), h 32 i ow_32 (ix_32 _)]
theorem fbc_7 {cA : Nat → ClassId} {ad : Nat → Nat → Nat} {st st' : fb_S} {i : Nat} (hk : 7 ≤ 4 → i = 0) (h : ∀ F j, fb_ow F = 7 → fb_ix F j = i → st' F j = st F j) : fb_cC cA ad st' 7 i = fb_cC cA ad st 7 i := by
  simp only [fb_cC]
  rw [h 35 i ow_35 (ix_35 _), h 36 i ow_36 (ix_36 _), h 37 i ow_37 (ix_37 _), h 38 i ow_38 (ix_38 _), h 39 i ow_39 (ix_39 _), h 40 i ow_40 (ix_40 _), h 41 i ow_41 (ix_41 _), h 42 i ow_42 (ix_42 _), h 43 i ow_43 (ix_43 _), h 44 i ow_44 (ix_44 _)]
theorem fbc_8 {cA : Nat → ClassId} {ad : Nat → Nat → Nat} {st st' : fb_S} {i : Nat} (hk : 8 ≤ 4 → i = 0) (h : ∀ F j, fb_ow F = 8 → fb_ix F j = i → st' F j = st F j) : fb_cC cA ad st' 8 i = fb_cC cA ad st 8 i := by
  simp only [fb_cC]
theorem fbc_9 {cA : Nat → ClassId} {ad : Nat → Nat → Nat} {st st' : fb_S} {i : Nat} (hk : 9 ≤ 4 → i = 0) (h : ∀ F j, fb_ow F = 9 → fb_ix F j = i → st' F j = st F j) : fb_cC cA ad st' 9 i = fb_cC cA ad st 9 i := by
  simp only [fb_cC]
  rw [show (fun j => if j < 2 then st' 17 (2 * i + j) else 0) = (fun j => if j < 2 then st 17 (2 * i + j) else 0) from funext (fun j => by
    by_cases hj : j < 2
    · rw [if_pos hj, if_pos hj, h 17 (2 * i + j) ow_17 ((ix_17 _).trans (by omega))]
    · rw [if_neg hj, if_neg hj])]
theorem fbc_10 {cA : Nat → ClassId} {ad : Nat → Nat → Nat} {st st' : fb_S} {i : Nat} (hk : 10 ≤ 4 → i = 0) (h : ∀ F j, fb_ow F = 10 → fb_ix F j = i → st' F j = st F j) : fb_cC cA ad st' 10 i = fb_cC cA ad st 10 i := by
  simp only [fb_cC]
  rw [show (fun j => if j < 2 then st' 18 (2 * i + j) else 0) = (fun j => if j < 2 then st 18 (2 * i + j) else 0) from funext (fun j => by
    by_cases hj : j < 2
    · rw [if_pos hj, if_pos hj, h 18 (2 * i + j) ow_18 ((ix_18 _).trans (by omega))]
    · rw [if_neg hj, if_neg hj])]
theorem fbc_11 {cA : Nat → ClassId} {ad : Nat → Nat → Nat} {st st' : fb_S} {i : Nat} (hk : 11 ≤ 4 → i = 0) (h : ∀ F j, fb_ow F = 11 → fb_ix F j = i → st' F j = st F j) : fb_cC cA ad st' 11 i = fb_cC cA ad st 11 i := by
  simp only [fb_cC]
  rw [h 19 i ow_19 (ix_19 _), h 20 i ow_20 (ix_20 _), h 21 i ow_21 (ix_21 _)]
theorem fbc_12 {cA : Nat → ClassId} {ad : Nat → Nat → Nat} {st st' : fb_S} {i : Nat} (hk : 12 ≤ 4 → i = 0) (h : ∀ F j, fb_ow F = 12 → fb_ix F j = i → st' F j = st F j) : fb_cC cA ad st' 12 i = fb_cC cA ad st 12 i := by
  simp only [fb_cC]
  rw [h 34 i ow_34 (ix_34 _), show (fun j => fb_ro (ad 5) (if j < 4 then st' 33 (4 * i + j) else -1)) = (fun j => fb_ro (ad 5) (if j < 4 then st 33 (4 * i + j) else -1)) from funext (fun j => by
    by_cases hj : j < 4
    · rw [if_pos hj, if_pos hj, h 33 (4 * i + j) ow_33 ((ix_33 _).trans (by omega))]
    · rw [if_neg hj, if_neg hj])]
theorem fb_cC_congr {cA : Nat → ClassId} {ad : Nat → Nat → Nat} {st st' : fb_S} : ∀ {k i : Nat}, (k ≤ 4 → i = 0) → (∀ F j, fb_ow F = k → fb_ix F j = i → st' F j = st F j) → k ≤ 12 → fb_cC cA ad st' k i = fb_cC cA ad st k i
  | 0, _, hk, h, _ => fbc_0 hk h
  | 1, _, hk, h, _ => fbc_1 hk h
  | 2, _, hk, h, _ => fbc_2 hk h
  | 3, _, hk, h, _ => fbc_3 hk h
  | 4, _, hk, h, _ => fbc_4 hk h
  | 5, _, hk, h, _ => fbc_5 hk h
  | 6, _, hk, h, _ => fbc_6 hk h
  | 7, _, hk, h, _ => fbc_7 hk h
  | 8, _, hk, h, _ => fbc_8 hk h
  | 9, _, hk, h, _ => fbc_9 hk h
  | 10, _, hk, h, _ => fbc_10 hk h
  | 11, _, hk, h, _ => fbc_11 hk h
  | 12, _, hk, h, _ => fbc_12 hk h
  | n + 13, _, _, _, h => absurd h (by omega)
/-- labels of the class that live: fl flows, fr frames -/
def fb_lvC (LL : fb_L) (fl fr : Nat) : Prop :=
  (∀ k i, (k, i) ∈ LL → k ≤ 12 ∧ (k ≤ 4 → i = 0) ∧ (k = 7 → i < fr) ∧ (k = 6 → i < fl) ∧ (k = 12 → i < fl)) ∧ (∀ k, k ≤ 4 → (k, 0) ∈ LL) ∧ (∀ i, i < 32 → (5, i) ∈ LL ∧ (8, i) ∈ LL ∧ (9, i) ∈ LL ∧ (10, i) ∈ LL) ∧ (∀ j, j < 96 → (11, j) ∈ LL) ∧ (∀ f, f < fl → (6, f) ∈ LL ∧ (12, f) ∈ LL) ∧ (∀ k, k < fr → (7, k) ∈ LL) ∧ fl ≤ 12 ∧ fr ≤ 100
theorem fb_hoC {cA : Nat → ClassId} {ad : Nat → Nat → Nat} {LL : fb_L} {fl fr : Nat} (hL : fb_lvC LL fl fr) (st : fb_S) (F j : Nat) (v : Int32) {k i : Nat} (hk : fb_ow F = k) (hi : fb_ix F j = i) : ∀ k' i' : Nat, (k', i') ∈ LL → ¬ (k' = k ∧ i' = i) → fb_cC cA ad (fb_up st F j v) k' i' = fb_cC cA ad st k' i' := by
  intro k' i' hm hne
  obtain ⟨h1, h2, -⟩ := hL.1 k' i' hm
  refine fb_cC_congr h2 (fun G q hG hq => ?_) h1
  unfold fb_up
  rw [if_neg]
  rintro ⟨rfl, rfl⟩
  exact hne ⟨hG.symm.trans hk, hq.symm.trans hi⟩
theorem fb_x2 (F i : Nat) {j : Nat} (hF : F = 17 ∨ F = 18) (hj : j < 2) : fb_ix F (2 * i + j) = i := by
  rcases hF with rfl | rfl
  · rw [ix_17]
    omega
  · rw [ix_18]
    omega
def fb_tF (i : Nat) : Int32 := ([8, 8, 9, 9, 10, 10, 11, 11, 0, 1, 12, 13, 2, 3, 12, 13, 4, 5, 12, 13, 6, 7, 12, 13, 8, 9, 10, 11, 8, 9, 10, 11] : List Int32).getD i 0
def fb_tT (i : Nat) : Int32 := ([0, 1, 2, 3, 4, 5, 6, 7, 8, 8, 8, 8, 9, 9, 9, 9, 10, 10, 10, 10, 11, 11, 11, 11, 12, 12, 12, 12, 13, 13, 13, 13] : List Int32).getD i 0
def fb_rC (fl fr F i : Nat) (v : Int32) : Prop := match F with
  | 0 => 1 ≤ v ∧ v ≤ 8
  | 1 => 4 ≤ v ∧ v ≤ 40
  | 2 => 0 ≤ v ∧ v ≤ 40
  | 3 => 1 ≤ v ∧ v ≤ 40
  | 4 => i = 0 → v = nI fl
  | 5 => i = 0 → v = nI fr
  | 7 => i < 2 → 1 ≤ v ∧ v ≤ 8
  | 8 => v = if i < fl then nI i else -1
  | 9 => v = if i < fr then nI i else -1
  | 10 => i < 32 → v = fb_tF i
  | 11 => i < 32 → v = fb_tT i
  | 12 => v = 0 ∨ v = 1
  | 13 => fb_rg fr v
  | 14 => v = 0 ∨ v = 1
  | 16 => v = 0 ∨ v = 1
  | 19 => fb_rg fr v
  | 20 => fb_rg fr v
  | 22 => v = 0 ∨ v = 1
  | 23 => i < fl → 1 ≤ v ∧ v ≤ 64
  | 24 => i < fl → 1 ≤ v ∧ v ≤ 64
  | 25 => i < fl → 0 ≤ v ∧ v ≤ 64
  | 28 => v = 0 ∨ v = 1
  | 33 => fb_rg 32 v
  | 34 => i < fl → v = 2 ∨ v = 4
  | 36 => i < fr → vp_in v fl
  | 37 => i < fr → 1 ≤ v ∧ v ≤ 4
  | 40 => v = 0 ∨ v = 1
  | 42 => fb_rg 32 v
  | 44 => fb_rg fr v
  | _ => True
def fb_okC (fl fr : Nat) (st : fb_S) : Prop := ∀ F i, fb_rC fl fr F i (st F i)
theorem fb_okC_up {fl fr : Nat} {st : fb_S} {F i : Nat} {v : Int32} (h : fb_okC fl fr st) (hv : fb_rC fl fr F i v) : fb_okC fl fr (fb_up st F i v) := by
  intro G j
  unfold fb_up
  by_cases hG : G = F ∧ j = i
  · rw [if_pos hG]
    obtain ⟨rfl, rfl⟩ := hG
    exact hv
  · rw [if_neg hG]
    exact h G j
/-! the reference's -/
def fb_cM (cA : Nat → ClassId) : fb_C := fun ad st k _ => match k with
  | 0 => .inr (5, [.int (st 0 0), .int (st 1 0), .int (st 2 0), .int (st 3 0), .int (st 4 0), .int (st 5 0), .int (st 6 0), .ref (ad 7 0), .ref (ad 8 0), .ref (ad 9 0), .ref (ad 10 0), .ref (ad 11 0), .ref (ad 12 0), .ref (ad 13 0), .ref (ad 14 0), .int (st 15 0), .ref (ad 16 0), .ref (ad 17 0), .ref (ad 18 0), .ref (ad 19 0), .ref (ad 20 0), .ref (ad 21 0), .ref (ad 22 0), .ref (ad 23 0), .ref (ad 24 0), .ref (ad 25 0), .ref (ad 26 0), .ref (ad 27 0)])
  | 7 => .inl (cA 0, 12, .inl (st 7))
  | 8 => .inl (cA 0, 12, .inl (st 8))
  | 9 => .inl (cA 0, 12, .inl (st 9))
  | 10 => .inl (cA 0, 12, .inl (st 10))
  | 11 => .inl (cA 0, 12, .inl (st 11))
  | 12 => .inl (cA 0, 12, .inl (st 12))
  | 13 => .inl (cA 0, 12, .inl (st 13))
  | 14 => .inl (cA 0, 12, .inl (st 14))
  | 16 => .inl (cA 0, 100, .inl (st 16))
  | 17 => .inl (cA 0, 100, .inl (st 17))
  | 18 => .inl (cA 0, 100, .inl (st 18))
  | 19 => .inl (cA 0, 100, .inl (st 19))
  | 20 => .inl (cA 0, 100, .inl (st 20))
  | 21 => .inl (cA 0, 100, .inl (st 21))
  | 22 => .inl (cA 5, 100, .inl (st 22))
  | 23 => .inl (cA 0, 196, .inl (st 23))
  | 24 => .inl (cA 0, 392, .inl (st 24))
  | 25 => .inl (cA 0, 2, .inl (st 25))
  | 26 => .inl (cA 5, 196, .inl (st 26))
  | 27 => .inl (cA 5, 1764, .inl (st 27))
  | _ => .inr (0, [])
def fb_owM (F : Nat) : Nat := if F < 7 then 0 else if F = 15 then 0 else F
theorem owM_0 : fb_owM 0 = 0 := by simp [fb_owM]
theorem owM_1 : fb_owM 1 = 0 := by simp [fb_owM]
theorem owM_2 : fb_owM 2 = 0 := by simp [fb_owM]
theorem owM_3 : fb_owM 3 = 0 := by simp [fb_owM]
theorem owM_4 : fb_owM 4 = 0 := by simp [fb_owM]
theorem owM_5 : fb_owM 5 = 0 := by simp [fb_owM]
theorem owM_6 : fb_owM 6 = 0 := by simp [fb_owM]
theorem owM_7 : fb_owM 7 = 7 := by simp [fb_owM]
theorem owM_8 : fb_owM 8 = 8 := by simp [fb_owM]
theorem owM_9 : fb_owM 9 = 9 := by simp [fb_owM]
theorem owM_10 : fb_owM 10 = 10 := by simp [fb_owM]
theorem owM_11 : fb_owM 11 = 11 := by simp [fb_owM]
theorem owM_12 : fb_owM 12 = 12 := by simp [fb_owM]
theorem owM_13 : fb_owM 13 = 13 := by simp [fb_owM]
theorem owM_14 : fb_owM 14 = 14 := by simp [fb_owM]
theorem owM_15 : fb_owM 15 = 0 := by simp [fb_owM]
theorem owM_16 : fb_owM 16 = 16 := by simp [fb_owM]
theorem owM_17 : fb_owM 17 = 17 := by simp [fb_owM]
theorem owM_18 : fb_owM 18 = 18 := by simp [fb_owM]
theorem owM_19 : fb_owM 19 = 19 := by simp [fb_owM]
theorem owM_20 : fb_owM 20 = 20 := by simp [fb_owM]
theorem owM_21 : fb_owM 21 = 21 := by simp [fb_owM]
theorem owM_22 : fb_owM 22 = 22 := by simp [fb_owM]
theorem owM_23 : fb_owM 23 = 23 := by simp [fb_owM]
theorem owM_24 : fb_owM 24 = 24 := by simp [fb_owM]
theorem owM_25 : fb_owM 25 = 25 := by simp [fb_owM]
theorem owM_26 : fb_owM 26 = 26 := by simp [fb_owM]
theorem owM_27 : fb_owM 27 = 27 := by simp [fb_owM]
def fb_LM : fb_L := [(0, 0), (7, 0), (8, 0), (9, 0), (10, 0), (11, 0), (12, 0), (13, 0), (14, 0), (16, 0), (17, 0), (18, 0), (19, 0), (20, 0), (21, 0), (22, 0), (23, 0), (24, 0), (25, 0), (26, 0), (27, 0)]
theorem fb_memM {k : Nat} (h : fb_LM.contains (k, 0) = true) : (k, 0) ∈ fb_LM := List.contains_iff_mem.mp h
theorem fb_cM_congr {cA : Nat → ClassId} {ad : Nat → Nat → Nat} {st st' : fb_S} {k i : Nat} (h0 : k = 0 → ∀ F, fb_owM F = 0 → st' F 0 = st F 0) (h : k ≠ 0 → st' k = st k) : fb_cM cA ad st' k i = fb_cM cA ad st k i := by
  by_cases hk : k = 0
  · subst hk
    have h0 := h0 rfl
    simp only [fb_cM]
    rw [h0 0 owM_0, h0 1 owM_1, h0 2 owM_2, h0 3 owM_3, h0 4 owM_4, h0 5 owM_5, h0 6 owM_6, h0 15 owM_15]
  · have h := h hk
    unfold fb_cM
    split <;> first | (exact absurd rfl hk) | rfl | (rw [h])
theorem fb_hoM {cA : Nat → ClassId} {ad : Nat → Nat → Nat} (st : fb_S) (F j : Nat) (v : Int32) {k : Nat} (hk : fb_owM F = k) : ∀ k' i' : Nat, (k', i') ∈ fb_LM → ¬ (k' = k ∧ i' = 0) → fb_cM cA ad (fb_up st F j v) k' i' = fb_cM cA ad st k' i' := by
  intro k' i' hm hne
  have hi : i' = 0 := by
    simp only [fb_LM, List.mem_cons, Prod.mk.injEq, List.not_mem_nil, or_false] at hm
    omega
  refine fb_cM_congr (fun hz G hG => ?_) (fun hz => ?_)
  · refine fb_up_F st j 0 v ?_
    rintro rfl
    exact hne ⟨by rw [hz, ← hk, hG], hi⟩
  · funext q
    refine fb_up_F st j q v ?_
    rintro rfl
    have : fb_owM k' = k' := by
      simp only [fb_LM, List.mem_cons, Prod.mk.injEq, List.not_mem_nil, or_false] at hm
      unfold fb_owM
      rw [if_neg (by omega), if_neg (by omega)]
    exact hne ⟨by rw [← hk, this], hi⟩
def fb_rM (fl fr T F i : Nat) (v : Int32) : Prop := match F with
  | 0 => 1 ≤ v ∧ v ≤ 8
  | 1 => 4 ≤ v ∧ v ≤ 40
  | 2 => 0 ≤ v ∧ v ≤ 40
  | 3 => 1 ≤ v ∧ v ≤ 40
  | 4 => i = 0 → v = nI T
  | 6 => i = 0 → v = nI fl
  | 15 => i = 0 → v = nI fr
  | 7 => 0 ≤ v ∧ v ≤ 7
  | 8 => 0 ≤ v ∧ v ≤ 7
  | 9 => v = 0 ∨ v = 1
  | 10 => i < fl → 1 ≤ v ∧ v ≤ 64
  | 11 => i < fl → 1 ≤ v ∧ v ≤ 64
  | 12 => i < fl → 0 ≤ v ∧ v ≤ 64
  | 16 => vp_in v 12 ∧ (i < fr → vp_in v fl)
  | 17 => i < fr → 1 ≤ v ∧ v ≤ 4
  | 22 => v = 0 ∨ v = 1
  | 23 => v = 0 ∨ v = 1
  | 25 => i < 2 → 1 ≤ v ∧ v ≤ 8
  | 26 => v = 0 ∨ v = 1
  | 27 => v = 0 ∨ v = 1
  | _ => True
def fb_okM (fl fr T : Nat) (st : fb_S) : Prop := ∀ F i, fb_rM fl fr T F i (st F i)
theorem fb_okM_up {fl fr T : Nat} {st : fb_S} {F i : Nat} {v : Int32} (h : fb_okM fl fr T st) (hv : fb_rM fl fr T F i v) : fb_okM fl fr T (fb_up st F i v) := by
  intro G j
  unfold fb_up
  by_cases hG : G = F ∧ j = i
  · rw [if_pos hG]
    obtain ⟨rfl, rfl⟩ := hG
    exact hv
  · rw [if_neg hG]
    exact h G j
end
section
/-! what a put does to a cell (by program) -/
theorem ps_C0 {cA : Nat → ClassId} {ad : Nat → Nat → Nat} (st : fb_S) (v : Int32) : fb_cC cA ad (fb_up st 0 0 v) 0 0 = .inr (0, [.int v, .int (st 1 0), .int (st 2 0), .int (st 3 0), .ref (ad 1 0), .ref (ad 2 0), .ref (ad 3 0), .ref (ad 4 0), .int (st 4 0), .int (st 5 0), .int (st 6 0)]) := by
  show (Sum.inr (0, [.int (fb_up st 0 0 v 0 0), .int (fb_up st 0 0 v 1 0), .int (fb_up st 0 0 v 2 0), .int (fb_up st 0 0 v 3 0), .ref (ad 1 0), .ref (ad 2 0), .ref (ad 3 0), .ref (ad 4 0), .int (fb_up st 0 0 v 4 0), .int (fb_up st 0 0 v 5 0), .int (fb_up st 0 0 v 6 0)]) : va_E) = _
  simp [fb_up]
theorem ps_C1 {cA : Nat → ClassId} {ad : Nat → Nat → Nat} (st : fb_S) (v : Int32) : fb_cC cA ad (fb_up st 1 0 v) 0 0 = .inr (0, [.int (st 0 0), .int v, .int (st 2 0), .int (st 3 0), .ref (ad 1 0), .ref (ad 2 0), .ref (ad 3 0), .ref (ad 4 0), .int (st 4 0), .int (st 5 0), .int (st 6 0)]) := by
  show (Sum.inr (0, [.int (fb_up st 1 0 v 0 0), .int (fb_up st 1 0 v 1 0), .int (fb_up st 1 0 v 2 0), .int (fb_up st 1 0 v 3 0), .ref (ad 1 0), .ref (ad 2 0), .ref (ad 3 0), .ref (ad 4 0), .int (fb_up st 1 0 v 4 0), .int (fb_up st 1 0 v 5 0), .int (fb_up st 1 0 v 6 0)]) : va_E) = _
  simp [fb_up]
theorem ps_C2 {cA : Nat → ClassId} {ad : Nat → Nat → Nat} (st : fb_S) (v : Int32) : fb_cC cA ad (fb_up st 2 0 v) 0 0 = .inr (0, [.int (st 0 0), .int (st 1 0), .int v, .int (st 3 0), .ref (ad 1 0), .ref (ad 2 0), .ref (ad 3 0), .ref (ad 4 0), .int (st 4 0), .int (st 5 0), .int (st 6 0)]) := by
  show (Sum.inr (0, [.int (fb_up st 2 0 v 0 0), .int (fb_up st 2 0 v 1 0), .int (fb_up st 2 0 v 2 0), .int (fb_up st 2 0 v 3 0), .ref (ad 1 0), .ref (ad 2 0), .ref (ad 3 0), .ref (ad 4 0), .int (fb_up st 2 0 v 4 0), .int (fb_up st 2 0 v 5 0), .int (fb_up st 2 0 v 6 0)]) : va_E) = _
  simp [fb_up]
theorem ps_C3 {cA : Nat → ClassId} {ad : Nat → Nat → Nat} (st : fb_S) (v : Int32) : fb_cC cA ad (fb_up st 3 0 v) 0 0 = .inr (0, [.int (st 0 0), .int (st 1 0), .int (st 2 0), .int v, .ref (ad 1 0), .ref (ad 2 0), .ref (ad 3 0), .ref (ad 4 0), .int (st 4 0), .int (st 5 0), .int (st 6 0)]) := by
  show (Sum.inr (0, [.int (fb_up st 3 0 v 0 0), .int (fb_up st 3 0 v 1 0), .int (fb_up st 3 0 v 2 0), .int (fb_up st 3 0 v 3 0), .ref (ad 1 0), .ref (ad 2 0), .ref (ad 3 0), .ref (ad 4 0), .int (fb_up st 3 0 v 4 0), .int (fb_up st 3 0 v 5 0), .int (fb_up st 3 0 v 6 0)]) : va_E) = _
  simp [fb_up]
theorem ps_C4 {cA : Nat → ClassId} {ad : Nat → Nat → Nat} (st : fb_S) (v : Int32) : fb_cC cA ad (fb_up st 4 0 v) 0 0 = .inr (0, [.int (st 0 0), .int (st 1 0), .int (st 2 0), .int (st 3 0), .ref (ad 1 0), .ref (ad 2 0), .ref (ad 3 0), .ref (ad 4 0), .int v, .int (st 5 0), .int (st 6 0)]) := by
  show (Sum.inr (0, [.int (fb_up st 4 0 v 0 0), .int (fb_up st 4 0 v 1 0), .int (fb_up st 4 0 v 2 0), .int (fb_up st 4 0 v 3 0), .ref (ad 1 0), .ref (ad 2 0), .ref (ad 3 0), .ref (ad 4 0), .int (fb_up st 4 0 v 4 0), .int (fb_up st 4 0 v 5 0), .int (fb_up st 4 0 v 6 0)]) : va_E) = _
  simp [fb_up]
theorem ps_C5 {cA : Nat → ClassId} {ad : Nat → Nat → Nat} (st : fb_S) (v : Int32) : fb_cC cA ad (fb_up st 5 0 v) 0 0 = .inr (0, [.int (st 0 0), .int (st 1 0), .int (st 2 0), .int (st 3 0), .ref (ad 1 0), .ref (ad 2 0), .ref (ad 3 0), .ref (ad 4 0), .int (st 4 0), .int v, .int (st 6 0)]) := by
  show (Sum.inr (0, [.int (fb_up st 5 0 v 0 0), .int (fb_up st 5 0 v 1 0), .int (fb_up st 5 0 v 2 0), .int (fb_up st 5 0 v 3 0), .ref (ad 1 0), .ref (ad 2 0), .ref (ad 3 0), .ref (ad 4 0), .int (fb_up st 5 0 v 4 0), .int (fb_up st 5 0 v 5 0), .int (fb_up st 5 0 v 6 0)]) : va_E) = _
  simp [fb_up]
theorem ps_C6 {cA : Nat → ClassId} {ad : Nat → Nat → Nat} (st : fb_S) (v : Int32) : fb_cC cA ad (fb_up st 6 0 v) 0 0 = .inr (0, [.int (st 0 0), .int (st 1 0), .int (st 2 0), .int (st 3 0), .ref (ad 1 0), .ref (ad 2 0), .ref (ad 3 0), .ref (ad 4 0), .int (st 4 0), .int (st 5 0), .int v]) := by
  show (Sum.inr (0, [.int (fb_up st 6 0 v 0 0), .int (fb_up st 6 0 v 1 0), .int (fb_up st 6 0 v 2 0), .int (fb_up st 6 0 v 3 0), .ref (ad 1 0), .ref (ad 2 0), .ref (ad 3 0), .ref (ad 4 0), .int (fb_up st 6 0 v 4 0), .int (fb_up st 6 0 v 5 0), .int (fb_up st 6 0 v 6 0)]) : va_E) = _
  simp [fb_up]
theorem ps_C10 {cA : Nat → ClassId} {ad : Nat → Nat → Nat} (st : fb_S) (i : Nat) (v : Int32) : fb_cC cA ad (fb_up st 10 i v) 5 i = .inr (1, [.int v, .int (st 11 i), .ref (ad 8 i), .ref (ad 9 i), .int (st 12 i), va_rf (fb_ro (ad 7) (st 13 i)), .ref (ad 11 (3 * i + 2)), .ref (ad 10 i), .int (st 14 i), .int (st 15 i), .int (st 16 i)]) := by
  show (Sum.inr (1, [.int (fb_up st 10 i v 10 i), .int (fb_up st 10 i v 11 i), .ref (ad 8 i), .ref (ad 9 i), .int (fb_up st 10 i v 12 i), va_rf (fb_ro (ad 7) (fb_up st 10 i v 13 i)), .ref (ad 11 (3 * i + 2)), .ref (ad 10 i), .int (fb_up st 10 i v 14 i), .int (fb_up st 10 i v 15 i), .int (fb_up st 10 i v 16 i)]) : va_E) = _
  simp [fb_up]
theorem ps_C11 {cA : Nat → ClassId} {ad : Nat → Nat → Nat} (st : fb_S) (i : Nat) (v : Int32) : fb_cC cA ad (fb_up st 11 i v) 5 i = .inr (1, [.int (st 10 i), .int v, .ref (ad 8 i), .ref (ad 9 i), .int (st 12 i), va_rf (fb_ro (ad 7) (st 13 i)), .ref (ad 11 (3 * i + 2)), .ref (ad 10 i), .int (st 14 i), .int (st 15 i), .int (st 16 i)]) := by
  show (Sum.inr (1, [.int (fb_up st 11 i v 10 i), .int (fb_up st 11 i v 11 i), .ref (ad 8 i), .ref (ad 9 i), .int (fb_up st 11 i v 12 i), va_rf (fb_ro (ad 7) (fb_up st 11 i v 13 i)), .ref (ad 11 (3 * i + 2)), .ref (ad 10 i), .int (fb_up st 11 i v 14 i), .int (fb_up st 11 i v 15 i), .int (fb_up st 11 i v 16 i)]) : va_E) = _
  simp [fb_up]
theorem ps_C12 {cA : Nat → ClassId} {ad : Nat → Nat → Nat} (st : fb_S) (i : Nat) (v : Int32) : fb_cC cA ad (fb_up st 12 i v) 5 i = .inr (1, [.int (st 10 i), .int (st 11 i), .ref (ad 8 i), .ref (ad 9 i), .int v, va_rf (fb_ro (ad 7) (st 13 i)), .ref (ad 11 (3 * i + 2)), .ref (ad 10 i), .int (st 14 i), .int (st 15 i), .int (st 16 i)]) := by
  show (Sum.inr (1, [.int (fb_up st 12 i v 10 i), .int (fb_up st 12 i v 11 i), .ref (ad 8 i), .ref (ad 9 i), .int (fb_up st 12 i v 12 i), va_rf (fb_ro (ad 7) (fb_up st 12 i v 13 i)), .ref (ad 11 (3 * i + 2)), .ref (ad 10 i), .int (fb_up st 12 i v 14 i), .int (fb_up st 12 i v 15 i), .int (fb_up st 12 i v 16 i)]) : va_E) = _
  simp [fb_up]
theorem psn_C13 {cA : Nat → ClassId} {ad : Nat → Nat → Nat} (st : fb_S) (i : Nat) {v : Int32} (h : v < 0) : fb_cC cA ad (fb_up st 13 i v) 5 i = .inr (1, [.int (st 10 i), .int (st 11 i), .ref (ad 8 i), .ref (ad 9 i), .int (st 12 i), .null, .ref (ad 11 (3 * i + 2)), .ref (ad 10 i), .int (st 14 i), .int (st 15 i), .int (st 16 i)]) := by
  show (Sum.inr (1, [.int (fb_up st 13 i v 10 i), .int (fb_up st 13 i v 11 i), .ref (ad 8 i), .ref (ad 9 i), .int (fb_up st 13 i v 12 i), va_rf (fb_ro (ad 7) (fb_up st 13 i v 13 i)), .ref (ad 11 (3 * i + 2)), .ref (ad 10 i), .int (fb_up st 13 i v 14 i), .int (fb_up st 13 i v 15 i), .int (fb_up st 13 i v 16 i)]) : va_E) = _
  simp [fb_up, fb_ro_n h, va_rf]
theorem psr_C13 {cA : Nat → ClassId} {ad : Nat → Nat → Nat} (st : fb_S) (i : Nat) {v : Int32} (h : ¬ v < 0) : fb_cC cA ad (fb_up st 13 i v) 5 i = .inr (1, [.int (st 10 i), .int (st 11 i), .ref (ad 8 i), .ref (ad 9 i), .int (st 12 i), .ref (ad 7 (fb_n v)), .ref (ad 11 (3 * i + 2)), .ref (ad 10 i), .int (st 14 i), .int (st 15 i), .int (st 16 i)]) := by
  show (Sum.inr (1, [.int (fb_up st 13 i v 10 i), .int (fb_up st 13 i v 11 i), .ref (ad 8 i), .ref (ad 9 i), .int (fb_up st 13 i v 12 i), va_rf (fb_ro (ad 7) (fb_up st 13 i v 13 i)), .ref (ad 11 (3 * i + 2)), .ref (ad 10 i), .int (fb_up st 13 i v 14 i), .int (fb_up st 13 i v 15 i), .int (fb_up st 13 i v 16 i)]) : va_E) = _
  simp [fb_up, fb_ro_s h, va_rf]
theorem psk_C13 {cA : Nat → ClassId} {ad : Nat → Nat → Nat} (st : fb_S) (i : Nat) {q : Nat} (h : q < 2 ^ 31) : fb_cC cA ad (fb_up st 13 i (nI q)) 5 i = .inr (1, [.int (st 10 i), .int (st 11 i), .ref (ad 8 i), .ref (ad 9 i), .int (st 12 i), .ref (ad 7 q), .ref (ad 11 (3 * i + 2)), .ref (ad 10 i), .int (st 14 i), .int (st 15 i), .int (st 16 i)]) := by
  rw [psr_C13 st i (nI_pos h), fb_nI h]
theorem ps_C14 {cA : Nat → ClassId} {ad : Nat → Nat → Nat} (st : fb_S) (i : Nat) (v : Int32) : fb_cC cA ad (fb_up st 14 i v) 5 i = .inr (1, [.int (st 10 i), .int (st 11 i), .ref (ad 8 i), .ref (ad 9 i), .int (st 12 i), va_rf (fb_ro (ad 7) (st 13 i)), .ref (ad 11 (3 * i + 2)), .ref (ad 10 i), .int v, .int (st 15 i), .int (st 16 i)]) := by
  show (Sum.inr (1, [.int (fb_up st 14 i v 10 i), .int (fb_up st 14 i v 11 i), .ref (ad 8 i), .ref (ad 9 i), .int (fb_up st 14 i v 12 i), va_rf (fb_ro (ad 7) (fb_up st 14 i v 13 i)), .ref (ad 11 (3 * i + 2)), .ref (ad 10 i), .int (fb_up st 14 i v 14 i), .int (fb_up st 14 i v 15 i), .int (fb_up st 14 i v 16 i)]) : va_E) = _
  simp [fb_up]
theorem ps_C15 {cA : Nat → ClassId} {ad : Nat → Nat → Nat} (st : fb_S) (i : Nat) (v : Int32) : fb_cC cA ad (fb_up st 15 i v) 5 i = .inr (1, [.int (st 10 i), .int (st 11 i), .ref (ad 8 i), .ref (ad 9 i), .int (st 12 i), va_rf (fb_ro (ad 7) (st 13 i)), .ref (ad 11 (3 * i + 2)), .ref (ad 10 i), .int (st 14 i), .int v, .int (st 16 i)]) := by
  show (Sum.inr (1, [.int (fb_up st 15 i v 10 i), .int (fb_up st 15 i v 11 i), .ref (ad 8 i), .ref (ad 9 i), .int (fb_up st 15 i v 12 i), va_rf (fb_ro (ad 7) (fb_up st 15 i v 13 i)), .ref (ad 11 (3 * i + 2)), .ref (ad 10 i), .int (fb_up st 15 i v 14 i), .int (fb_up st 15 i v 15 i), .int (fb_up st 15 i v 16 i)]) : va_E) = _
  simp [fb_up]
theorem ps_C16 {cA : Nat → ClassId} {ad : Nat → Nat → Nat} (st : fb_S) (i : Nat) (v : Int32) : fb_cC cA ad (fb_up st 16 i v) 5 i = .inr (1, [.int (st 10 i), .int (st 11 i), .ref (ad 8 i), .ref (ad 9 i), .int (st 12 i), va_rf (fb_ro (ad 7) (st 13 i)), .ref (ad 11 (3 * i + 2)), .ref (ad 10 i), .int (st 14 i), .int (st 15 i), .int v]) := by
  show (Sum.inr (1, [.int (fb_up st 16 i v 10 i), .int (fb_up st 16 i v 11 i), .ref (ad 8 i), .ref (ad 9 i), .int (fb_up st 16 i v 12 i), va_rf (fb_ro (ad 7) (fb_up st 16 i v 13 i)), .ref (ad 11 (3 * i + 2)), .ref (ad 10 i), .int (fb_up st 16 i v 14 i), .int (fb_up st 16 i v 15 i), .int (fb_up st 16 i v 16 i)]) : va_E) = _
  simp [fb_up]
theorem ps_C22 {cA : Nat → ClassId} {ad : Nat → Nat → Nat} (st : fb_S) (i : Nat) (v : Int32) : fb_cC cA ad (fb_up st 22 i v) 6 i = .inr (2, [.int v, .ref (ad 12 i), .int (st 23 i), .int (st 24 i), .int (st 25 i), .int (st 26 i), .int (st 27 i), .int (st 28 i), .int (st 29 i), .int (st 30 i), .int (st 31 i), .int (st 32 i)]) := by
  show (Sum.inr (2, [.int (fb_up st 22 i v 22 i), .ref (ad 12 i), .int (fb_up st 22 i v 23 i), .int (fb_up st 22 i v 24 i), .int (fb_up st 22 i v 25 i), .int (fb_up st 22 i v 26 i), .int (fb_up st 22 i v 27 i), .int (fb_up st 22 i v 28 i), .int (fb_up st 22 i v 29 i), .int (fb_up st 22 i v 30 i), .int (fb_up st 22 i v 31 i), .int (fb_up st 22 i v 32 i)]) : va_E) = _
  simp [fb_up]
theorem ps_C23 {cA : Nat → ClassId} {ad : Nat → Nat → Nat} (st : fb_S) (i : Nat) (v : Int32) : fb_cC cA ad (fb_up st 23 i v) 6 i = .inr (2, [.int (st 22 i), .ref (ad 12 i), .int v, .int (st 24 i), .int (st 25 i), .int (st 26 i), .int (st 27 i), .int (st 28 i), .int (st 29 i), .int (st 30 i), .int (st 31 i), .int (st 32 i)]) := by
  show (Sum.inr (2, [.int (fb_up st 23 i v 22 i), .ref (ad 12 i), .int (fb_up st 23 i v 23 i), .int (fb_up st 23 i v 24 i), .int (fb_up st 23 i v 25 i), .int (fb_up st 23 i v 26 i), .int (fb_up st 23 i v 27 i), .int (fb_up st 23 i v 28 i), .int (fb_up st 23 i v 29 i), .int (fb_up st 23 i v 30 i), .int (fb_up st 23 i v 31 i), .int (fb_up st 23 i v 32 i)]) : va_E) = _
  simp [fb_up]
theorem ps_C24 {cA : Nat → ClassId} {ad : Nat → Nat → Nat} (st : fb_S) (i : Nat) (v : Int32) : fb_cC cA ad (fb_up st 24 i v) 6 i = .inr (2, [.int (st 22 i), .ref (ad 12 i), .int (st 23 i), .int v, .int (st 25 i), .int (st 26 i), .int (st 27 i), .int (st 28 i), .int (st 29 i), .int (st 30 i), .int (st 31 i), .int (st 32 i)]) := by
  show (Sum.inr (2, [.int (fb_up st 24 i v 22 i), .ref (ad 12 i), .int (fb_up st 24 i v 23 i), .int (fb_up st 24 i v 24 i), .int (fb_up st 24 i v 25 i), .int (fb_up st 24 i v 26 i), .int (fb_up st 24 i v 27 i), .int (fb_up st 24 i v 28 i), .int (fb_up st 24 i v 29 i), .int (fb_up st 24 i v 30 i), .int (fb_up st 24 i v 31 i), .int (fb_up st 24 i v 32 i)]) : va_E) = _
  simp [fb_up]
theorem ps_C25 {cA : Nat → ClassId} {ad : Nat → Nat → Nat} (st : fb_S) (i : Nat) (v : Int32) : fb_cC cA ad (fb_up st 25 i v) 6 i = .inr (2, [.int (st 22 i), .ref (ad 12 i), .int (st 23 i), .int (st 24 i), .int v, .int (st 26 i), .int (st 27 i), .int (st 28 i), .int (st 29 i), .int (st 30 i), .int (st 31 i), .int (st 32 i)]) := by
  show (Sum.inr (2, [.int (fb_up st 25 i v 22 i), .ref (ad 12 i), .int (fb_up st 25 i v 23 i), .int (fb_up st 25 i v 24 i), .int (fb_up st 25 i v 25 i), .int (fb_up st 25 i v 26 i), .int (fb_up st 25 i v 27 i), .int (fb_up st 25 i v 28 i), .int (fb_up st 25 i v 29 i), .int (fb_up st 25 i v 30 i), .int (fb_up st 25 i v 31 i), .int (fb_up st 25 i v 32 i)]) : va_E) = _
  simp [fb_up]
theorem ps_C26 {cA : Nat → ClassId} {ad : Nat → Nat → Nat} (st : fb_S) (i : Nat) (v : Int32) : fb_cC cA ad (fb_up st 26 i v) 6 i = .inr (2, [.int (st 22 i), .ref (ad 12 i), .int (st 23 i), .int (st 24 i), .int (st 25 i), .int v, .int (st 27 i), .int (st 28 i), .int (st 29 i), .int (st 30 i), .int (st 31 i), .int (st 32 i)]) := by
  show (Sum.inr (2, [.int (fb_up st 26 i v 22 i), .ref (ad 12 i), .int (fb_up st 26 i v 23 i), .int (fb_up st 26 i v 24 i), .int (fb_up st 26 i v 25 i), .int (fb_up st 26 i v 26 i), .int (fb_up st 26 i v 27 i), .int (fb_up st 26 i v 28 i), .int (fb_up st 26 i v 29 i), .int (fb_up st 26 i v 30 i), .int (fb_up st 26 i v 31 i), .int (fb_up st 26 i v 32 i)]) : va_E) = _
  simp [fb_up]
theorem ps_C27 {cA : Nat → ClassId} {ad : Nat → Nat → Nat} (st : fb_S) (i : Nat) (v : Int32) : fb_cC cA ad (fb_up st 27 i v) 6 i = .inr (2, [.int (st 22 i), .ref (ad 12 i), .int (st 23 i), .int (st 24 i), .int (st 25 i), .int (st 26 i), .int v, .int (st 28 i), .int (st 29 i), .int (st 30 i), .int (st 31 i), .int (st 32 i)]) := by
  show (Sum.inr (2, [.int (fb_up st 27 i v 22 i), .ref (ad 12 i), .int (fb_up st 27 i v 23 i), .int (fb_up st 27 i v 24 i), .int (fb_up st 27 i v 25 i), .int (fb_up st 27 i v 26 i), .int (fb_up st 27 i v 27 i), .int (fb_up st 27 i v 28 i), .int (fb_up st 27 i v 29 i), .int (fb_up st 27 i v 30 i), .int (fb_up st 27 i v 31 i), .int (fb_up st 27 i v 32 i)]) : va_E) = _
  simp [fb_up]
theorem ps_C28 {cA : Nat → ClassId} {ad : Nat → Nat → Nat} (st : fb_S) (i : Nat) (v : Int32) : fb_cC cA ad (fb_up st 28 i v) 6 i = .inr (2, [.int (st 22 i), .ref (ad 12 i), .int (st 23 i), .int (st 24 i), .int (st 25 i), .int (st 26 i), .int (st 27 i), .int v, .int (st 29 i), .int (st 30 i), .int (st 31 i), .int (st 32 i)]) := by
  show (Sum.inr (2, [.int (fb_up st 28 i v 22 i), .ref (ad 12 i), .int (fb_up st 28 i v 23 i), .int (fb_up st 28 i v 24 i), .int (fb_up st 28 i v 25 i), .int (fb_up st 28 i v 26 i), .int (fb_up st 28 i v 27 i), .int (fb_up st 28 i v 28 i), .int (fb_up st 28 i v 29 i), .int (fb_up st 28 i v 30 i), .int (fb_up st 28 i v 31 i), .int (fb_up st 28 i v 32 i)]) : va_E) = _
  simp [fb_up]
theorem ps_C29 {cA : Nat → ClassId} {ad : Nat → Nat → Nat} (st : fb_S) (i : Nat) (v : Int32) : fb_cC cA ad (fb_up st 29 i v) 6 i = .inr (2, [.int (st 22 i), .ref (ad 12 i), .int (st 23 i), .int (st 24 i), .int (st 25 i), .int (st 26 i), .int (st 27 i), .int (st 28 i), .int v, .int (st 30 i), .int (st 31 i), .int (st 32 i)]) := by
  show (Sum.inr (2, [.int (fb_up st 29 i v 22 i), .ref (ad 12 i), .int (fb_up st 29 i v 23 i), .int (fb_up st 29 i v 24 i), .int (fb_up st 29 i v 25 i), .int (fb_up st 29 i v 26 i), .int (fb_up st 29 i v 27 i), .int (fb_up st 29 i v 28 i), .int (fb_up st 29 i v 29 i), .int (fb_up st 29 i v 30 i), .int (fb_up st 29 i v 31 i), .int (fb_up st 29 i v 32 i)]) : va_E) = _
  simp [fb_up]
theorem ps_C30 {cA : Nat → ClassId} {ad : Nat → Nat → Nat} (st : fb_S) (i : Nat) (v : Int32) : fb_cC cA ad (fb_up st 30 i v) 6 i = .inr (2, [.int (st 22 i), .ref (ad 12 i), .int (st 23 i), .int (st 24 i), .int (st 25 i), .int (st 26 i), .int (st 27 i), .int (st 28 i), .int (st 29 i), .int v, .int (st 31 i), .int (st 32 i)]) := by
  show (Sum.inr (2, [.int (fb_up st 30 i v 22 i), .ref (ad 12 i), .int (fb_up st 30 i v 23 i), .int (fb_up st 30 i v 24 i), .int (fb_up st 30 i v 25 i), .int (fb_up st 30 i v 26 i), .int (fb_up st 30 i v 27 i), .int (fb_up st 30 i v 28 i), .int (fb_up st 30 i v 29 i), .int (fb_up st 30 i v 30 i), .int (fb_up st 30 i v 31 i), .int (fb_up st 30 i v 32 i)]) : va_E) = _
  simp [fb_up]
theorem ps_C31 {cA : Nat → ClassId} {ad : Nat → Nat → Nat} (st : fb_S) (i : Nat) (v : Int32) : fb_cC cA ad (fb_up st 31 i v) 6 i = .inr (2, [.int (st 22 i), .ref (ad 12 i), .int (st 23 i), .int (st 24 i), .int (st 25 i), .int (st 26 i), .int (st 27 i), .int (st 28 i), .int (st 29 i), .int (st 30 i), .int v, .int (st 32 i)]) := by
  show (Sum.inr (2, [.int (fb_up st 31 i v 22 i), .ref (ad 12 i), .int (fb_up st 31 i v 23 i), .int (fb_up st 31 i v 24 i), .int (fb_up st 31 i v 25 i), .int (fb_up st 31 i v 26 i), .int (fb_up st 31 i v 27 i), .int (fb_up st 31 i v 28 i), .int (fb_up st 31 i v 29 i), .int (fb_up st 31 i v 30 i), .int (fb_up st 31 i v 31 i), .int (fb_up st 31 i v 32 i)]) : va_E) = _
  simp [fb_up]
theorem ps_C32 {cA : Nat → ClassId} {ad : Nat → Nat → Nat} (st : fb_S) (i : Nat) (v : Int32) : fb_cC cA ad (fb_up st 32 i v) 6 i = .inr (2, [.int (st 22 i), .ref (ad 12 i), .int (st 23 i), .int (st 24 i), .int (st 25 i), .int (st 26 i), .int (st 27 i), .int (st 28 i), .int (st 29 i), .int (st 30 i), .int (st 31 i), .int v]) := by
  show (Sum.inr (2, [.int (fb_up st 32 i v 22 i), .ref (ad 12 i), .int (fb_up st 32 i v 23 i), .int (fb_up st 32 i v 24 i), .int (fb_up st 32 i v 25 i), .int (fb_up st 32 i v 26 i), .int (fb_up st 32 i v 27 i), .int (fb_up st 32 i v 28 i), .int (fb_up st 32 i v 29 i), .int (fb_up st 32 i v 30 i), .int (fb_up st 32 i v 31 i), .int (fb_up st 32 i v 32 i)]) : va_E) = _
  simp [fb_up]
theorem ps_C35 {cA : Nat → ClassId} {ad : Nat → Nat → Nat} (st : fb_S) (i : Nat) (v : Int32) : fb_cC cA ad (fb_up st 35 i v) 7 i = .inr (3, [.int v, .ref (ad 6 (fb_n (st 36 i))), .int (st 37 i), .int (st 38 i), .int (st 39 i), .int (st 40 i), .int (st 41 i), va_rf (fb_ro (ad 5) (st 42 i)), .int (st 43 i), va_rf (fb_ro (ad 7) (st 44 i))]) := by
  show (Sum.inr (3, [.int (fb_up st 35 i v 35 i), .ref (ad 6 (fb_n (fb_up st 35 i v 36 i))), .int (fb_up st 35 i v 37 i), .int (fb_up st 35 i v 38 i), .int (fb_up st 35 i v 39 i), .int (fb_up st 35 i v 40 i), .int (fb_up st 35 i v 41 i), va_rf (fb_ro (ad 5) (fb_up st 35 i v 42 i)), .int (fb_up st 35 i v 43 i), va_rf (fb_ro (ad 7) (fb_up st 35 i v 44 i))]) : va_E) = _
  simp [fb_up]
theorem ps_C37 {cA : Nat → ClassId} {ad : Nat → Nat → Nat} (st : fb_S) (i : Nat) (v : Int32) : fb_cC cA ad (fb_up st 37 i v) 7 i = .inr (3, [.int (st 35 i), .ref (ad 6 (fb_n (st 36 i))), .int v, .int (st 38 i), .int (st 39 i), .int (st 40 i), .int (st 41 i), va_rf (fb_ro (ad 5) (st 42 i)), .int (st 43 i), va_rf (fb_ro (ad 7) (st 44 i))]) := by
  show (Sum.inr (3, [.int (fb_up st 37 i v 35 i), .ref (ad 6 (fb_n (fb_up st 37 i v 36 i))), .int (fb_up st 37 i v 37 i), .int (fb_up st 37 i v 38 i), .int (fb_up st 37 i v 39 i), .int (fb_up st 37 i v 40 i), .int (fb_up st 37 i v 41 i), va_rf (fb_ro (ad 5) (fb_up st 37 i v 42 i)), .int (fb_up st 37 i v 43 i), va_rf (fb_ro (ad 7) (fb_up st 37 i v 44 i))]) : va_E) = _
  simp [fb_up]
theorem ps_C38 {cA : Nat → ClassId} {ad : Nat → Nat → Nat} (st : fb_S) (i : Nat) (v : Int32) : fb_cC cA ad (fb_up st 38 i v) 7 i = .inr (3, [.int (st 35 i), .ref (ad 6 (fb_n (st 36 i))), .int (st 37 i), .int v, .int (st 39 i), .int (st 40 i), .int (st 41 i), va_rf (fb_ro (ad 5) (st 42 i)), .int (st 43 i), va_rf (fb_ro (ad 7) (st 44 i))]) := by
  show (Sum.inr (3, [.int (fb_up st 38 i v 35 i), .ref (ad 6 (fb_n (fb_up st 38 i v 36 i))), .int (fb_up st 38 i v 37 i), .int (fb_up st 38 i v 38 i), .int (fb_up st 38 i v 39 i), .int (fb_up st 38 i v 40 i), .int (fb_up st 38 i v 41 i), va_rf (fb_ro (ad 5) (fb_up st 38 i v 42 i)), .int (fb_up st 38 i v 43 i), va_rf (fb_ro (ad 7) (fb_up st 38 i v 44 i))]) : va_E) = _
  simp [fb_up]
theorem ps_C39 {cA : Nat → ClassId} {ad : Nat → Nat → Nat} (st : fb_S) (i : Nat) (v : Int32) : fb_cC cA ad (fb_up st 39 i v) 7 i = .inr (3, [.int (st 35 i), .ref (ad 6 (fb_n (st 36 i))), .int (st 37 i), .int (st 38 i), .int v, .int (st 40 i), .int (st 41 i), va_rf (fb_ro (ad 5) (st 42 i)), .int (st 43 i), va_rf (fb_ro (ad 7) (st 44 i))]) := by
  show (Sum.inr (3, [.int (fb_up st 39 i v 35 i), .ref (ad 6 (fb_n (fb_up st 39 i v 36 i))), .int (fb_up st 39 i v 37 i), .int (fb_up st 39 i v 38 i), .int (fb_up st 39 i v 39 i), .int (fb_up st 39 i v 40 i), .int (fb_up st 39 i v 41 i), va_rf (fb_ro (ad 5) (fb_up st 39 i v 42 i)), .int (fb_up st 39 i v 43 i), va_rf (fb_ro (ad 7) (fb_up st 39 i v 44 i))]) : va_E) = _
  simp [fb_up]
theorem ps_C40 {cA : Nat → ClassId} {ad : Nat → Nat → Nat} (st : fb_S) (i : Nat) (v : Int32) : fb_cC cA ad (fb_up st 40 i v) 7 i = .inr (3, [.int (st 35 i), .ref (ad 6 (fb_n (st 36 i))), .int (st 37 i), .int (st 38 i), .int (st 39 i), .int v, .int (st 41 i), va_rf (fb_ro (ad 5) (st 42 i)), .int (st 43 i), va_rf (fb_ro (ad 7) (st 44 i))]) := by
  show (Sum.inr (3, [.int (fb_up st 40 i v 35 i), .ref (ad 6 (fb_n (fb_up st 40 i v 36 i))), .int (fb_up st 40 i v 37 i), .int (fb_up st 40 i v 38 i), .int (fb_up st 40 i v 39 i), .int (fb_up st 40 i v 40 i), .int (fb_up st 40 i v 41 i), va_rf (fb_ro (ad 5) (fb_up st 40 i v 42 i)), .int (fb_up st 40 i v 43 i), va_rf (fb_ro (ad 7) (fb_up st 40 i v 44 i))]) : va_E) = _
  simp [fb_up]
theorem ps_C41 {cA : Nat → ClassId} {ad : Nat → Nat → Nat} (st : fb_S) (i : Nat) (v : Int32) : fb_cC cA ad (fb_up st 41 i v) 7 i = .inr (3, [.int (st 35 i), .ref (ad 6 (fb_n (st 36 i))), .int (st 37 i), .int (st 38 i), .int (st 39 i), .int (st 40 i), .int v, va_rf (fb_ro (ad 5) (st 42 i)), .int (st 43 i), va_rf (fb_ro (ad 7) (st 44 i))]) := by
  show (Sum.inr (3, [.int (fb_up st 41 i v 35 i), .ref (ad 6 (fb_n (fb_up st 41 i v 36 i))), .int (fb_up st 41 i v 37 i), .int (fb_up st 41 i v 38 i), .int (fb_up st 41 i v 39 i), .int (fb_up st 41 i v 40 i), .int (fb_up st 41 i v 41 i), va_rf (fb_ro (ad 5) (fb_up st 41 i v 42 i)), .int (fb_up st 41 i v 43 i), va_rf (fb_ro (ad 7) (fb_up st 41 i v 44 i))]) : va_E) = _
  simp [fb_up]
theorem psn_C42 {cA : Nat → ClassId} {ad : Nat → Nat → Nat} (st : fb_S) (i : Nat) {v : Int32} (h : v < 0) : fb_cC cA ad (fb_up st 42 i v) 7 i = .inr (3, [.int (st 35 i), .ref (ad 6 (fb_n (st 36 i))), .int (st 37 i), .int (st 38 i), .int (st 39 i), .int (st 40 i), .int (st 41 i), .null, .int (st 43 i), va_rf (fb_ro (ad 7) (st 44 i))]) := by
  show (Sum.inr (3, [.int (fb_up st 42 i v 35 i), .ref (ad 6 (fb_n (fb_up st 42 i v 36 i))), .int (fb_up st 42 i v 37 i), .int (fb_up st 42 i v 38 i), .int (fb_up st 42 i v 39 i), .int (fb_up st 42 i v 40 i), .int (fb_up st 42 i v 41 i), va_rf (fb_ro (ad 5) (fb_up st 42 i v 42 i)), .int (fb_up st 42 i v 43 i), va_rf (fb_ro (ad 7) (fb_up st 42 i v 44 i))]) : va_E) = _
  simp [fb_up, fb_ro_n h, va_rf]
theorem psr_C42 {cA : Nat → ClassId} {ad : Nat → Nat → Nat} (st : fb_S) (i : Nat) {v : Int32} (h : ¬ v < 0) : fb_cC cA ad (fb_up st 42 i v) 7 i = .inr (3, [.int (st 35 i), .ref (ad 6 (fb_n (st 36 i))), .int (st 37 i), .int (st 38 i), .int (st 39 i), .int (st 40 i), .int (st 41 i), .ref (ad 5 (fb_n v)), .int (st 43 i), va_rf (fb_ro (ad 7) (st 44 i))]) := by
  show (Sum.inr (3, [.int (fb_up st 42 i v 35 i), .ref (ad 6 (fb_n (fb_up st 42 i v 36 i))), .int (fb_up st 42 i v 37 i), .int (fb_up st 42 i v 38 i), .int (fb_up st 42 i v 39 i), .int (fb_up st 42 i v 40 i), .int (fb_up st 42 i v 41 i), va_rf (fb_ro (ad 5) (fb_up st 42 i v 42 i)), .int (fb_up st 42 i v 43 i), va_rf (fb_ro (ad 7) (fb_up st 42 i v 44 i))]) : va_E) = _
  simp [fb_up, fb_ro_s h, va_rf]
theorem psk_C42 {cA : Nat → ClassId} {ad : Nat → Nat → Nat} (st : fb_S) (i : Nat) {q : Nat} (h : q < 2 ^ 31) : fb_cC cA ad (fb_up st 42 i (nI q)) 7 i = .inr (3, [.int (st 35 i), .ref (ad 6 (fb_n (st 36 i))), .int (st 37 i), .int (st 38 i), .int (st 39 i), .int (st 40 i), .int (st 41 i), .ref (ad 5 q), .int (st 43 i), va_rf (fb_ro (ad 7) (st 44 i))]) := by
  rw [psr_C42 st i (nI_pos h), fb_nI h]
theorem ps_C43 {cA : Nat → ClassId} {ad : Nat → Nat → Nat} (st : fb_S) (i : Nat) (v : Int32) : fb_cC cA ad (fb_up st 43 i v) 7 i = .inr (3, [.int (st 35 i), .ref (ad 6 (fb_n (st 36 i))), .int (st 37 i), .int (st 38 i), .int (st 39 i), .int (st 40 i), .int (st 41 i), va_rf (fb_ro (ad 5) (st 42 i)), .int v, va_rf (fb_ro (ad 7) (st 44 i))]) := by
  show (Sum.inr (3, [.int (fb_up st 43 i v 35 i), .ref (ad 6 (fb_n (fb_up st 43 i v 36 i))), .int (fb_up st 43 i v 37 i), .int (fb_up st 43 i v 38 i), .int (fb_up st 43 i v 39 i), .int (fb_up st 43 i v 40 i), .int (fb_up st 43 i v 41 i), va_rf (fb_ro (ad 5) (fb_up st 43 i v 42 i)), .int (fb_up st 43 i v 43 i), va_rf (fb_ro (ad 7) (fb_up st 43 i v 44 i))]) : va_E) = _
  simp [fb_up]
theorem psn_C44 {cA : Nat → ClassId} {ad : Nat → Nat → Nat} (st : fb_S) (i : Nat) {v : Int32} (h : v < 0) : fb_cC cA ad (fb_up st 44 i v) 7 i = .inr (3, [.int (st 35 i), .ref (ad 6 (fb_n (st 36 i))), .int (st 37 i), .int (st 38 i), .int (st 39 i), .int (st 40 i), .int (st 41 i), va_rf (fb_ro (ad 5) (st 42 i)), .int (st 43 i), .null]) := by
  show (Sum.inr (3, [.int (fb_up st 44 i v 35 i), .ref (ad 6 (fb_n (fb_up st 44 i v 36 i))), .int (fb_up st 44 i v 37 i), .int (fb_up st 44 i v 38 i), .int (fb_up st 44 i v 39 i), .int (fb_up st 44 i v 40 i), .int (fb_up st 44 i v 41 i), va_rf (fb_ro (ad 5) (fb_up st 44 i v 42 i)), .int (fb_up st 44 i v 43 i), va_rf (fb_ro (ad 7) (fb_up st 44 i v 44 i))]) : va_E) = _
  simp [fb_up, fb_ro_n h, va_rf]
theorem psr_C44 {cA : Nat → ClassId} {ad : Nat → Nat → Nat} (st : fb_S) (i : Nat) {v : Int32} (h : ¬ v < 0) : fb_cC cA ad (fb_up st 44 i v) 7 i = .inr (3, [.int (st 35 i), .ref (ad 6 (fb_n (st 36 i))), .int (st 37 i), .int (st 38 i), .int (st 39 i), .int (st 40 i), .int (st 41 i), va_rf (fb_ro (ad 5) (st 42 i)), .int (st 43 i), .ref (ad 7 (fb_n v))]) := by
  show (Sum.inr (3, [.int (fb_up st 44 i v 35 i), .ref (ad 6 (fb_n (fb_up st 44 i v 36 i))), .int (fb_up st 44 i v 37 i), .int (fb_up st 44 i v 38 i), .int (fb_up st 44 i v 39 i), .int (fb_up st 44 i v 40 i), .int (fb_up st 44 i v 41 i), va_rf (fb_ro (ad 5) (fb_up st 44 i v 42 i)), .int (fb_up st 44 i v 43 i), va_rf (fb_ro (ad 7) (fb_up st 44 i v 44 i))]) : va_E) = _
  simp [fb_up, fb_ro_s h, va_rf]
theorem psk_C44 {cA : Nat → ClassId} {ad : Nat → Nat → Nat} (st : fb_S) (i : Nat) {q : Nat} (h : q < 2 ^ 31) : fb_cC cA ad (fb_up st 44 i (nI q)) 7 i = .inr (3, [.int (st 35 i), .ref (ad 6 (fb_n (st 36 i))), .int (st 37 i), .int (st 38 i), .int (st 39 i), .int (st 40 i), .int (st 41 i), va_rf (fb_ro (ad 5) (st 42 i)), .int (st 43 i), .ref (ad 7 q)]) := by
  rw [psr_C44 st i (nI_pos h), fb_nI h]
theorem psn_C19 {cA : Nat → ClassId} {ad : Nat → Nat → Nat} (st : fb_S) (i : Nat) {v : Int32} (h : v < 0) : fb_cC cA ad (fb_up st 19 i v) 11 i = .inr (4, [.null, va_rf (fb_ro (ad 7) (st 20 i)), .int (st 21 i)]) := by
  show (Sum.inr (4, [va_rf (fb_ro (ad 7) (fb_up st 19 i v 19 i)), va_rf (fb_ro (ad 7) (fb_up st 19 i v 20 i)), .int (fb_up st 19 i v 21 i)]) : va_E) = _
  simp [fb_up, fb_ro_n h, va_rf]
theorem psr_C19 {cA : Nat → ClassId} {ad : Nat → Nat → Nat} (st : fb_S) (i : Nat) {v : Int32} (h : ¬ v < 0) : fb_cC cA ad (fb_up st 19 i v) 11 i = .inr (4, [.ref (ad 7 (fb_n v)), va_rf (fb_ro (ad 7) (st 20 i)), .int (st 21 i)]) := by
  show (Sum.inr (4, [va_rf (fb_ro (ad 7) (fb_up st 19 i v 19 i)), va_rf (fb_ro (ad 7) (fb_up st 19 i v 20 i)), .int (fb_up st 19 i v 21 i)]) : va_E) = _
  simp [fb_up, fb_ro_s h, va_rf]
theorem psk_C19 {cA : Nat → ClassId} {ad : Nat → Nat → Nat} (st : fb_S) (i : Nat) {q : Nat} (h : q < 2 ^ 31) : fb_cC cA ad (fb_up st 19 i (nI q)) 11 i = .inr (4, [.ref (ad 7 q), va_rf (fb_ro (ad 7) (st 20 i)), .int (st 21 i)]) := by
  rw [psr_C19 st i (nI_pos h), fb_nI h]
theorem psn_C20 {cA : Nat → ClassId} {ad : Nat → Nat → Nat} (st : fb_S) (i : Nat) {v : Int32} (h : v < 0) : fb_cC cA ad (fb_up st 20 i v) 11 i = .inr (4, [va_rf (fb_ro (ad 7) (st 19 i)), .null, .int (st 21 i)]) := by
  show (Sum.inr (4, [va_rf (fb_ro (ad 7) (fb_up st 20 i v 19 i)), va_rf (fb_ro (ad 7) (fb_up st 20 i v 20 i)), .int (fb_up st 20 i v 21 i)]) : va_E) = _
  simp [fb_up, fb_ro_n h, va_rf]
theorem psr_C20 {cA : Nat → ClassId} {ad : Nat → Nat → Nat} (st : fb_S) (i : Nat) {v : Int32} (h : ¬ v < 0) : fb_cC cA ad (fb_up st 20 i v) 11 i = .inr (4, [va_rf (fb_ro (ad 7) (st 19 i)), .ref (ad 7 (fb_n v)), .int (st 21 i)]) := by
  show (Sum.inr (4, [va_rf (fb_ro (ad 7) (fb_up st 20 i v 19 i)), va_rf (fb_ro (ad 7) (fb_up st 20 i v 20 i)), .int (fb_up st 20 i v 21 i)]) : va_E) = _
  simp [fb_up, fb_ro_s h, va_rf]
theorem psk_C20 {cA : Nat → ClassId} {ad : Nat → Nat → Nat} (st : fb_S) (i : Nat) {q : Nat} (h : q < 2 ^ 31) : fb_cC cA ad (fb_up st 20 i (nI q)) 11 i = .inr (4, [va_rf (fb_ro (ad 7) (st 19 i)), .ref (ad 7 q), .int (st 21 i)]) := by
  rw [psr_C20 st i (nI_pos h), fb_nI h]
theorem ps_C21 {cA : Nat → ClassId} {ad : Nat → Nat → Nat} (st : fb_S) (i : Nat) (v : Int32) : fb_cC cA ad (fb_up st 21 i v) 11 i = .inr (4, [va_rf (fb_ro (ad 7) (st 19 i)), va_rf (fb_ro (ad 7) (st 20 i)), .int v]) := by
  show (Sum.inr (4, [va_rf (fb_ro (ad 7) (fb_up st 21 i v 19 i)), va_rf (fb_ro (ad 7) (fb_up st 21 i v 20 i)), .int (fb_up st 21 i v 21 i)]) : va_E) = _
  simp [fb_up]
theorem pa_C7 {cA : Nat → ClassId} {ad : Nat → Nat → Nat} (st : fb_S) (j : Nat) (v : Int32) : fb_cC cA ad (fb_up st 7 j v) 1 0 = .inl (cA 0, 2, .inl (upd (st 7) j v)) := by
  show (Sum.inl (cA 0, 2, Sum.inl (fb_up st 7 j v 7)) : va_E) = _
  rw [fb_up_row]
theorem pa_C17 {cA : Nat → ClassId} {ad : Nat → Nat → Nat} (st : fb_S) (i j : Nat) (v : Int32) (hj : j < 2) : fb_cC cA ad (fb_up st 17 (2 * i + j) v) 9 i = .inl (cA 0, 2, .inl (upd (fun q => if q < 2 then st 17 (2 * i + q) else 0) j v)) := by
  show (Sum.inl (cA 0, 2, Sum.inl (fun q => if q < 2 then fb_up st 17 (2 * i + j) v 17 (2 * i + q) else 0)) : va_E) = _
  rw [show (fun q => if q < 2 then fb_up st 17 (2 * i + j) v 17 (2 * i + q) else 0) = upd (fun q => if q < 2 then st 17 (2 * i + q) else 0) j v from funext (fun q => by
    unfold upd fb_up
    by_cases hq : q = j
    · subst hq
      simp [hj]
    · by_cases h2 : q < 2
      · simp [h2, hq]
      · simp [h2, hq])]
theorem pa_C18 {cA : Nat → ClassId} {ad : Nat → Nat → Nat} (st : fb_S) (i j : Nat) (v : Int32) (hj : j < 2) : fb_cC cA ad (fb_up st 18 (2 * i + j) v) 10 i = .inl (cA 0, 2, .inl (upd (fun q => if q < 2 then st 18 (2 * i + q) else 0) j v)) := by
  show (Sum.inl (cA 0, 2, Sum.inl (fun q => if q < 2 then fb_up st 18 (2 * i + j) v 18 (2 * i + q) else 0)) : va_E) = _
  rw [show (fun q => if q < 2 then fb_up st 18 (2 * i + j) v 18 (2 * i + q) else 0) = upd (fun q => if q < 2 then st 18 (2 * i + q) else 0) j v from funext (fun q => by
    unfold upd fb_up
    by_cases hq : q = j
    · subst hq
      simp [hj]
    · by_cases h2 : q < 2
      · simp [h2, hq]
      · simp [h2, hq])]
theorem pa_M7 {cA : Nat → ClassId} {ad : Nat → Nat → Nat} (st : fb_S) (j : Nat) (v : Int32) : fb_cM cA ad (fb_up st 7 j v) 7 0 = .inl (cA 0, 12, .inl (upd (st 7) j v)) := by
  show (Sum.inl (cA 0, 12, Sum.inl (fb_up st 7 j v 7)) : va_E) = _
  rw [fb_up_row]
theorem pa_M8 {cA : Nat → ClassId} {ad : Nat → Nat → Nat} (st : fb_S) (j : Nat) (v : Int32) : fb_cM cA ad (fb_up st 8 j v) 8 0 = .inl (cA 0, 12, .inl (upd (st 8) j v)) := by
  show (Sum.inl (cA 0, 12, Sum.inl (fb_up st 8 j v 8)) : va_E) = _
  rw [fb_up_row]
theorem pa_M9 {cA : Nat → ClassId} {ad : Nat → Nat → Nat} (st : fb_S) (j : Nat) (v : Int32) : fb_cM cA ad (fb_up st 9 j v) 9 0 = .inl (cA 0, 12, .inl (upd (st 9) j v)) := by
  show (Sum.inl (cA 0, 12, Sum.inl (fb_up st 9 j v 9)) : va_E) = _
  rw [fb_up_row]
theorem pa_M10 {cA : Nat → ClassId} {ad : Nat → Nat → Nat} (st : fb_S) (j : Nat) (v : Int32) : fb_cM cA ad (fb_up st 10 j v) 10 0 = .inl (cA 0, 12, .inl (upd (st 10) j v)) := by
  show (Sum.inl (cA 0, 12, Sum.inl (fb_up st 10 j v 10)) : va_E) = _
  rw [fb_up_row]
theorem pa_M11 {cA : Nat → ClassId} {ad : Nat → Nat → Nat} (st : fb_S) (j : Nat) (v : Int32) : fb_cM cA ad (fb_up st 11 j v) 11 0 = .inl (cA 0, 12, .inl (upd (st 11) j v)) := by
  show (Sum.inl (cA 0, 12, Sum.inl (fb_up st 11 j v 11)) : va_E) = _
  rw [fb_up_row]
theorem pa_M12 {cA : Nat → ClassId} {ad : Nat → Nat → Nat} (st : fb_S) (j : Nat) (v : Int32) : fb_cM cA ad (fb_up st 12 j v) 12 0 = .inl (cA 0, 12, .inl (upd (st 12) j v)) := by
  show (Sum.inl (cA 0, 12, Sum.inl (fb_up st 12 j v 12)) : va_E) = _
  rw [fb_up_row]
theorem pa_M13 {cA : Nat → ClassId} {ad : Nat → Nat → Nat} (st : fb_S) (j : Nat) (v : Int32) : fb_cM cA ad (fb_up st 13 j v) 13 0 = .inl (cA 0, 12, .inl (upd (st 13) j v)) := by
  show (Sum.inl (cA 0, 12, Sum.inl (fb_up st 13 j v 13)) : va_E) = _
  rw [fb_up_row]
theorem pa_M14 {cA : Nat → ClassId} {ad : Nat → Nat → Nat} (st : fb_S) (j : Nat) (v : Int32) : fb_cM cA ad (fb_up st 14 j v) 14 0 = .inl (cA 0, 12, .inl (upd (st 14) j v)) := by
  show (Sum.inl (cA 0, 12, Sum.inl (fb_up st 14 j v 14)) : va_E) = _
  rw [fb_up_row]
theorem pa_M16 {cA : Nat → ClassId} {ad : Nat → Nat → Nat} (st : fb_S) (j : Nat) (v : Int32) : fb_cM cA ad (fb_up st 16 j v) 16 0 = .inl (cA 0, 100, .inl (upd (st 16) j v)) := by
  show (Sum.inl (cA 0, 100, Sum.inl (fb_up st 16 j v 16)) : va_E) = _
  rw [fb_up_row]
theorem pa_M17 {cA : Nat → ClassId} {ad : Nat → Nat → Nat} (st : fb_S) (j : Nat) (v : Int32) : fb_cM cA ad (fb_up st 17 j v) 17 0 = .inl (cA 0, 100, .inl (upd (st 17) j v)) := by
  show (Sum.inl (cA 0, 100, Sum.inl (fb_up st 17 j v 17)) : va_E) = _
  rw [fb_up_row]
theorem pa_M18 {cA : Nat → ClassId} {ad : Nat → Nat → Nat} (st : fb_S) (j : Nat) (v : Int32) : fb_cM cA ad (fb_up st 18 j v) 18 0 = .inl (cA 0, 100, .inl (upd (st 18) j v)) := by
  show (Sum.inl (cA 0, 100, Sum.inl (fb_up st 18 j v 18)) : va_E) = _
  rw [fb_up_row]
theorem pa_M19 {cA : Nat → ClassId} {ad : Nat → Nat → Nat} (st : fb_S) (j : Nat) (v : Int32) : fb_cM cA ad (fb_up st 19 j v) 19 0 = .inl (cA 0, 100, .inl (upd (st 19) j v)) := by
  show (Sum.inl (cA 0, 100, Sum.inl (fb_up st 19 j v 19)) : va_E) = _
  rw [fb_up_row]
theorem pa_M20 {cA : Nat → ClassId} {ad : Nat → Nat → Nat} (st : fb_S) (j : Nat) (v : Int32) : fb_cM cA ad (fb_up st 20 j v) 20 0 = .inl (cA 0, 100, .inl (upd (st 20) j v)) := by
  show (Sum.inl (cA 0, 100, Sum.inl (fb_up st 20 j v 20)) : va_E) = _
  rw [fb_up_row]
theorem pa_M21 {cA : Nat → ClassId} {ad : Nat → Nat → Nat} (st : fb_S) (j : Nat) (v : Int32) : fb_cM cA ad (fb_up st 21 j v) 21 0 = .inl (cA 0, 100, .inl (upd (st 21) j v)) := by
  show (Sum.inl (cA 0, 100, Sum.inl (fb_up st 21 j v 21)) : va_E) = _
  rw [fb_up_row]
theorem pa_M23 {cA : Nat → ClassId} {ad : Nat → Nat → Nat} (st : fb_S) (j : Nat) (v : Int32) : fb_cM cA ad (fb_up st 23 j v) 23 0 = .inl (cA 0, 196, .inl (upd (st 23) j v)) := by
  show (Sum.inl (cA 0, 196, Sum.inl (fb_up st 23 j v 23)) : va_E) = _
  rw [fb_up_row]
theorem pa_M24 {cA : Nat → ClassId} {ad : Nat → Nat → Nat} (st : fb_S) (j : Nat) (v : Int32) : fb_cM cA ad (fb_up st 24 j v) 24 0 = .inl (cA 0, 392, .inl (upd (st 24) j v)) := by
  show (Sum.inl (cA 0, 392, Sum.inl (fb_up st 24 j v 24)) : va_E) = _
  rw [fb_up_row]
theorem pa_M25 {cA : Nat → ClassId} {ad : Nat → Nat → Nat} (st : fb_S) (j : Nat) (v : Int32) : fb_cM cA ad (fb_up st 25 j v) 25 0 = .inl (cA 0, 2, .inl (upd (st 25) j v)) := by
  show (Sum.inl (cA 0, 2, Sum.inl (fb_up st 25 j v 25)) : va_E) = _
  rw [fb_up_row]
theorem pz_M22 {cA : Nat → ClassId} {ad : Nat → Nat → Nat} (st : fb_S) (j : Nat) {v : Int32} (h : v = 0 ∨ v = 1) : fb_cM cA ad (fb_up st 22 j v) 22 0 = .inl (cA 5, 100, .inl (upd (st 22) j (vp_nar .boolean v))) := by
  show (Sum.inl (cA 5, 100, Sum.inl (fb_up st 22 j v 22)) : va_E) = _
  rw [fb_up_row, fb_vz h]
theorem pz_M26 {cA : Nat → ClassId} {ad : Nat → Nat → Nat} (st : fb_S) (j : Nat) {v : Int32} (h : v = 0 ∨ v = 1) : fb_cM cA ad (fb_up st 26 j v) 26 0 = .inl (cA 5, 196, .inl (upd (st 26) j (vp_nar .boolean v))) := by
  show (Sum.inl (cA 5, 196, Sum.inl (fb_up st 26 j v 26)) : va_E) = _
  rw [fb_up_row, fb_vz h]
theorem pz_M27 {cA : Nat → ClassId} {ad : Nat → Nat → Nat} (st : fb_S) (j : Nat) {v : Int32} (h : v = 0 ∨ v = 1) : fb_cM cA ad (fb_up st 27 j v) 27 0 = .inl (cA 5, 1764, .inl (upd (st 27) j (vp_nar .boolean v))) := by
  show (Sum.inl (cA 5, 1764, Sum.inl (fb_up st 27 j v 27)) : va_E) = _
  rw [fb_up_row, fb_vz h]
theorem ps_M4 {cA : Nat → ClassId} {ad : Nat → Nat → Nat} (st : fb_S) (v : Int32) : fb_cM cA ad (fb_up st 4 0 v) 0 0 = .inr (5, [.int (st 0 0), .int (st 1 0), .int (st 2 0), .int (st 3 0), .int v, .int (st 5 0), .int (st 6 0), .ref (ad 7 0), .ref (ad 8 0), .ref (ad 9 0), .ref (ad 10 0), .ref (ad 11 0), .ref (ad 12 0), .ref (ad 13 0), .ref (ad 14 0), .int (st 15 0), .ref (ad 16 0), .ref (ad 17 0), .ref (ad 18 0), .ref (ad 19 0), .ref (ad 20 0), .ref (ad 21 0), .ref (ad 22 0), .ref (ad 23 0), .ref (ad 24 0), .ref (ad 25 0), .ref (ad 26 0), .ref (ad 27 0)]) := by
  show (Sum.inr (5, [.int (fb_up st 4 0 v 0 0), .int (fb_up st 4 0 v 1 0), .int (fb_up st 4 0 v 2 0), .int (fb_up st 4 0 v 3 0), .int (fb_up st 4 0 v 4 0), .int (fb_up st 4 0 v 5 0), .int (fb_up st 4 0 v 6 0), .ref (ad 7 0), .ref (ad 8 0), .ref (ad 9 0), .ref (ad 10 0), .ref (ad 11 0), .ref (ad 12 0), .ref (ad 13 0), .ref (ad 14 0), .int (fb_up st 4 0 v 15 0), .ref (ad 16 0), .ref (ad 17 0), .ref (ad 18 0), .ref (ad 19 0), .ref (ad 20 0), .ref (ad 21 0), .ref (ad 22 0), .ref (ad 23 0), .ref (ad 24 0), .ref (ad 25 0), .ref (ad 26 0), .ref (ad 27 0)]) : va_E) = _
  simp [fb_up]
theorem ps_M5 {cA : Nat → ClassId} {ad : Nat → Nat → Nat} (st : fb_S) (v : Int32) : fb_cM cA ad (fb_up st 5 0 v) 0 0 = .inr (5, [.int (st 0 0), .int (st 1 0), .int (st 2 0), .int (st 3 0), .int (st 4 0), .int v, .int (st 6 0), .ref (ad 7 0), .ref (ad 8 0), .ref (ad 9 0), .ref (ad 10 0), .ref (ad 11 0), .ref (ad 12 0), .ref (ad 13 0), .ref (ad 14 0), .int (st 15 0), .ref (ad 16 0), .ref (ad 17 0), .ref (ad 18 0), .ref (ad 19 0), .ref (ad 20 0), .ref (ad 21 0), .ref (ad 22 0), .ref (ad 23 0), .ref (ad 24 0), .ref (ad 25 0), .ref (ad 26 0), .ref (ad 27 0)]) := by
  show (Sum.inr (5, [.int (fb_up st 5 0 v 0 0), .int (fb_up st 5 0 v 1 0), .int (fb_up st 5 0 v 2 0), .int (fb_up st 5 0 v 3 0), .int (fb_up st 5 0 v 4 0), .int (fb_up st 5 0 v 5 0), .int (fb_up st 5 0 v 6 0), .ref (ad 7 0), .ref (ad 8 0), .ref (ad 9 0), .ref (ad 10 0), .ref (ad 11 0), .ref (ad 12 0), .ref (ad 13 0), .ref (ad 14 0), .int (fb_up st 5 0 v 15 0), .ref (ad 16 0), .ref (ad 17 0), .ref (ad 18 0), .ref (ad 19 0), .ref (ad 20 0), .ref (ad 21 0), .ref (ad 22 0), .ref (ad 23 0), .ref (ad 24 0), .ref (ad 25 0), .ref (ad 26 0), .ref (ad 27 0)]) : va_E) = _
  simp [fb_up]
theorem ps_M6 {cA : Nat → ClassId} {ad : Nat → Nat → Nat} (st : fb_S) (v : Int32) : fb_cM cA ad (fb_up st 6 0 v) 0 0 = .inr (5, [.int (st 0 0), .int (st 1 0), .int (st 2 0), .int (st 3 0), .int (st 4 0), .int (st 5 0), .int v, .ref (ad 7 0), .ref (ad 8 0), .ref (ad 9 0), .ref (ad 10 0), .ref (ad 11 0), .ref (ad 12 0), .ref (ad 13 0), .ref (ad 14 0), .int (st 15 0), .ref (ad 16 0), .ref (ad 17 0), .ref (ad 18 0), .ref (ad 19 0), .ref (ad 20 0), .ref (ad 21 0), .ref (ad 22 0), .ref (ad 23 0), .ref (ad 24 0), .ref (ad 25 0), .ref (ad 26 0), .ref (ad 27 0)]) := by
  show (Sum.inr (5, [.int (fb_up st 6 0 v 0 0), .int (fb_up st 6 0 v 1 0), .int (fb_up st 6 0 v 2 0), .int (fb_up st 6 0 v 3 0), .int (fb_up st 6 0 v 4 0), .int (fb_up st 6 0 v 5 0), .int (fb_up st 6 0 v 6 0), .ref (ad 7 0), .ref (ad 8 0), .ref (ad 9 0), .ref (ad 10 0), .ref (ad 11 0), .ref (ad 12 0), .ref (ad 13 0), .ref (ad 14 0), .int (fb_up st 6 0 v 15 0), .ref (ad 16 0), .ref (ad 17 0), .ref (ad 18 0), .ref (ad 19 0), .ref (ad 20 0), .ref (ad 21 0), .ref (ad 22 0), .ref (ad 23 0), .ref (ad 24 0), .ref (ad 25 0), .ref (ad 26 0), .ref (ad 27 0)]) : va_E) = _
  simp [fb_up]
theorem ps_M15 {cA : Nat → ClassId} {ad : Nat → Nat → Nat} (st : fb_S) (v : Int32) : fb_cM cA ad (fb_up st 15 0 v) 0 0 = .inr (5, [.int (st 0 0), .int (st 1 0), .int (st 2 0), .int (st 3 0), .int (st 4 0), .int (st 5 0), .int (st 6 0), .ref (ad 7 0), .ref (ad 8 0), .ref (ad 9 0), .ref (ad 10 0), .ref (ad 11 0), .ref (ad 12 0), .ref (ad 13 0), .ref (ad 14 0), .int v, .ref (ad 16 0), .ref (ad 17 0), .ref (ad 18 0), .ref (ad 19 0), .ref (ad 20 0), .ref (ad 21 0), .ref (ad 22 0), .ref (ad 23 0), .ref (ad 24 0), .ref (ad 25 0), .ref (ad 26 0), .ref (ad 27 0)]) := by
  show (Sum.inr (5, [.int (fb_up st 15 0 v 0 0), .int (fb_up st 15 0 v 1 0), .int (fb_up st 15 0 v 2 0), .int (fb_up st 15 0 v 3 0), .int (fb_up st 15 0 v 4 0), .int (fb_up st 15 0 v 5 0), .int (fb_up st 15 0 v 6 0), .ref (ad 7 0), .ref (ad 8 0), .ref (ad 9 0), .ref (ad 10 0), .ref (ad 11 0), .ref (ad 12 0), .ref (ad 13 0), .ref (ad 14 0), .int (fb_up st 15 0 v 15 0), .ref (ad 16 0), .ref (ad 17 0), .ref (ad 18 0), .ref (ad 19 0), .ref (ad 20 0), .ref (ad 21 0), .ref (ad 22 0), .ref (ad 23 0), .ref (ad 24 0), .ref (ad 25 0), .ref (ad 26 0), .ref (ad 27 0)]) : va_E) = _
  simp [fb_up]
end
section
/-! exact functions of the class, along its bytecode. The class's store: fields
   object (index 0): 0 delay 1 xoff 2 room 3 mark 4 flowCount 5 frameCount 6 time ; 7 quantum[p] ; 8 flows[f] (-1 null) ; 9 frames[k] (-1 null)
   port i: 10 from 11 to 12 turn 13 sending 14 asked 15 askedBefore 16 paused ; 17 credit[p] at 2i+p ; 18 held[p] at 2i+p
   queue j (3i+p, wire 3i+2): 19 first 20 end 21 length
   flow f: 22 priority 23 rate 24 target 25 alpha 26 calm 27 waitsUntil 28 markedNow 29 markedBefore 30 received 31 dropped 32 last ; 33 route[h] at 4f+h 34 route.length
   frame k: 35 number 36 flow 37 length 38 state 39 node 40 marked 41 hop 42 cameBy 43 due 44 next -/
def cf_near (v lo hi : Int32) : Int32 := if lo < (if v < hi then v else hi) then (if v < hi then v else hi) else lo
def cf_host (n : Int32) : Bool := if n < 0 then false else if 8 ≤ n then false else true
def cf_prio (n : Int32) : Bool := if n < 0 then false else if 2 ≤ n then false else true
def cf_leaf (n : Int32) : Int32 := 8 + n / 2
def cf_linked (u v : Int32) : Bool :=
  if cf_host (if v < u then v else u) = true then (if (if u < v then v else u) = cf_leaf (if v < u then v else u) then true else false)
  else if 12 ≤ (if v < u then v else u) then false else if (if u < v then v else u) < 12 then false else true
def cf_was (s : fb_S) (h : Int32) : Bool := if ((h >>> ((s 0 0 - 1) &&& 31)) &&& 1) = 1 then true else false
def cf_latest (h b : Int32) : Int32 := if b = 0 then ((h <<< ((1 : Int32) &&& 31)) ||| 0) &&& 255 else ((h <<< ((1 : Int32) &&& 31)) ||| 1) &&& 255
/-- portBetween: the ports from i on, d of them -/
def cf_pb (s : fb_S) (u v : Int32) : Nat → Nat → Int32
  | 0, _ => -1
  | d + 1, i => if s 10 i = u then (if s 11 i = v then nI i else cf_pb s u v d (i + 1)) else cf_pb s u v d (i + 1)
def cf_flowAt (s : fb_S) (f : Int32) : Int32 := if f < 0 then -1 else if s 4 0 ≤ f then -1 else s 8 (fb_n f)
def cf_frameAt (s : fb_S) (k : Int32) : Int32 := if k < 0 then -1 else if s 5 0 ≤ k then -1 else s 9 (fb_n k)
def cf_add (j k : Nat) (s : fb_S) : fb_S :=
  let s1 := fb_up s 44 k (-1)
  let s2 := if s1 20 j < 0 then fb_up s1 19 j (nI k) else fb_up s1 44 (fb_n (s1 20 j)) (nI k)
  let s3 := fb_up s2 20 j (nI k)
  fb_up s3 21 j (s3 21 j + s3 37 k)
def cf_rem (j : Nat) (s : fb_S) : fb_S :=
  if s 19 j < 0 then s else
  let k := fb_n (s 19 j)
  let s1 := fb_up s 19 j (s 44 k)
  let s2 := if s1 19 j < 0 then fb_up s1 20 j (-1) else s1
  let s3 := fb_up s2 44 k (-1)
  fb_up s3 21 j (s3 21 j - s3 37 k)
/-- portAt: -1 is null -/
def cf_portAt (s : fb_S) (f : Nat) (hop : Int32) : Int32 := if hop < 0 then -1 else if s 34 f ≤ hop then -1 else s 33 (4 * f + fb_n hop)
/-- enqueue: where to, store and answer -/
abbrev cf_enqQ (k : Nat) (s : fb_S) : Int32 := cf_portAt s (fb_n (s 36 k)) (s 41 k)
abbrev cf_enqJ (k : Nat) (s : fb_S) : Nat := 3 * fb_n (cf_enqQ k s) + fb_n (s 22 (fb_n (s 36 k)))
def cf_enq (k : Nat) (s : fb_S) : fb_S :=
  if cf_enqQ k s < 0 then s else
  let s1 := fb_up s 38 k 1
  let s2 := fb_up s1 39 k (s1 10 (fb_n (cf_enqQ k s)))
  cf_add (cf_enqJ k s) k s2
def cf_enqA (k : Nat) (s : fb_S) : Int32 := if cf_enqQ k s < 0 then 0 else cf_enq k s 21 (cf_enqJ k s)
def cf_release (k i : Nat) (s : fb_S) : fb_S :=
  let p := s 22 (fb_n (s 36 k))
  let s1 := fb_up s 18 (2 * i + fb_n p) (s 18 (2 * i + fb_n p) - s 37 k)
  if p = 0 then (if s1 1 0 / 2 < s1 18 (2 * i + fb_n 0) then s1 else fb_up s1 14 i 0) else s1
def cf_endSending (i : Nat) (s : fb_S) : fb_S :=
  if s 13 i < 0 then s else if s 43 (fb_n (s 13 i)) = s 6 0 then
    let k := fb_n (s 13 i)
    let s1 := fb_up s 13 i (-1)
    let s2 := fb_up s1 38 k 3
    let s3 := fb_up s2 43 k (s2 6 0 + s2 0 0)
    let s4 := cf_add (3 * i + 2) k s3
    if s4 42 k < 0 then s4 else cf_release k (fb_n (s4 42 k)) s4
  else s
def cf_place (s : fb_S) (i k : Nat) : Bool :=
  let p := s 22 (fb_n (s 36 k))
  if p = 0 then (if s 1 0 + s 2 0 < s 18 (2 * i + fb_n p) + s 37 k then false else true) else (if s 1 0 < s 18 (2 * i + fb_n p) + s 37 k then false else true)
def cf_hold (i k : Nat) (s : fb_S) : fb_S :=
  let p := s 22 (fb_n (s 36 k))
  let s1 := fb_up s 18 (2 * i + fb_n p) (s 18 (2 * i + fb_n p) + s 37 k)
  let s2 := if p = 0 then (if s1 18 (2 * i + fb_n 0) < s1 1 0 then s1 else fb_up s1 14 i 1) else s1
  let s3 := fb_up s2 42 k (nI i)
  let s4 := fb_up s3 41 k (s3 41 k + 1)
  let s5 := cf_enq k s4
  if cf_enqA k s4 ≤ s5 3 0 then s5 else fb_up s5 40 k 1
def cf_drop (k : Nat) (s : fb_S) : fb_S :=
  let s1 := fb_up s 38 k 5
  fb_up s1 31 (fb_n (s1 36 k)) (s1 31 (fb_n (s1 36 k)) + 1)
def cf_receive (k : Nat) (s : fb_S) : fb_S :=
  let f := fb_n (s 36 k)
  let s1 := fb_up s 38 k 4
  let s2 := fb_up s1 30 f (s1 30 f + 1)
  let s3 := fb_up s2 32 f (s2 35 k)
  if s3 40 k = 0 then s3 else fb_up s3 28 f 1
def cf_deliver (i : Nat) (s : fb_S) : fb_S :=
  if s 19 (3 * i + 2) < 0 then s else if s 43 (fb_n (s 19 (3 * i + 2))) = s 6 0 then
    let k := fb_n (s 19 (3 * i + 2))
    let s1 := cf_rem (3 * i + 2) s
    let s2 := fb_up s1 39 k (s1 11 i)
    if cf_host (s2 11 i) = true then cf_receive k s2 else if cf_place s2 i k = true then cf_hold i k s2 else cf_drop k s2
  else s
def cf_deliverA (i : Nat) (s : fb_S) : Int32 :=
  if s 19 (3 * i + 2) < 0 then 0 else if s 43 (fb_n (s 19 (3 * i + 2))) = s 6 0 then
    let s1 := cf_rem (3 * i + 2) s
    let s2 := fb_up s1 39 (fb_n (s 19 (3 * i + 2))) (s1 11 i)
    if cf_host (s2 11 i) = true then 1 else 0
  else 0
/-- readyFrame: the frame's number or -1 -/
def cf_ready (s : fb_S) (i : Nat) (p : Int32) : Int32 :=
  let z := s 19 (3 * i + fb_n p)
  let r := if cf_host (s 10 i) = true then (if s 27 (fb_n (s 36 (fb_n z))) ≤ s 6 0 then z else -1) else z
  if z < 0 then -1 else if p = 0 then (if s 16 i = 0 then r else -1) else r
def cf_waitFrom (f : Nat) (t n : Int32) (s : fb_S) : fb_S := fb_up s 27 f (t + ((64 * n + s 23 f) - 1) / s 23 f)
def cf_begin (i k : Nat) (s : fb_S) : fb_S :=
  let f := fb_n (s 36 k)
  let s1 := cf_rem (3 * i + fb_n (s 22 f)) s
  let s2 := fb_up s1 17 (2 * i + fb_n (s1 22 f)) (s1 17 (2 * i + fb_n (s1 22 f)) - s1 37 k)
  let s3 := fb_up s2 13 i (nI k)
  let s4 := fb_up s3 38 k 2
  let s5 := fb_up s4 43 k (s4 6 0 + s4 37 k)
  if cf_host (s5 10 i) = true then cf_waitFrom f (s5 6 0) (s5 37 k) s5 else s5
/-- what a step of choose leaves if it goes on -/
def cf_step (i : Nat) (s : fb_S) : fb_S :=
  let t := s 12 i
  let o := 1 - t
  let s1 := if cf_ready s i t < 0 then fb_up s 17 (2 * i + fb_n t) 0 else s
  let s2 := fb_up s1 12 i o
  if cf_ready s i o < 0 then s2 else fb_up s2 17 (2 * i + fb_n o) (s2 17 (2 * i + fb_n o) + s2 7 (fb_n o))
/-- the steps of choose, with how many are left -/
def cf_steps (i : Nat) : Nat → fb_S → fb_S
  | 0, s => s
  | n + 1, s =>
    if cf_ready s i (s 12 i) < 0 then (if cf_ready s i (1 - s 12 i) < 0 then s else cf_steps i n (cf_step i s))
    else if s 17 (2 * i + fb_n (s 12 i)) < s 37 (fb_n (cf_ready s i (s 12 i))) then cf_steps i n (cf_step i s)
    else cf_begin i (fb_n (cf_ready s i (s 12 i))) s
def cf_choose (i : Nat) (s : fb_S) : fb_S := if s 13 i < 0 then cf_steps i 64 s else s
def cf_slow (f : Nat) (s : fb_S) : fb_S :=
  let s1 := fb_up s 24 f (s 23 f)
  let s2 := fb_up s1 23 f (if 1 < s1 23 f - s1 23 f * s1 25 f / 128 then s1 23 f - s1 23 f * s1 25 f / 128 else 1)
  let s3 := fb_up s2 25 f ((15 * s2 25 f + 64) / 16)
  fb_up s3 26 f 0
def cf_recover (f : Nat) (s : fb_S) : fb_S :=
  let s1 := fb_up s 26 f 0
  let s2 := fb_up s1 25 f (15 * s1 25 f / 16)
  fb_up s2 23 f ((s2 23 f + s2 24 f + 1) / 2)
def cf_adjust (f : Nat) (told : Int32) (s : fb_S) : fb_S :=
  if told = 0 then
    let s1 := fb_up s 26 f (s 26 f + 1)
    if s1 26 f = 16 then cf_recover f s1 else s1
  else cf_slow f s
def cf_pause1 (i : Nat) (s : fb_S) : fb_S := fb_up s 16 i (fb_b (cf_was s (s 15 i)))
def cf_rate1 (f : Nat) (s : fb_S) : fb_S := cf_adjust f (fb_b (cf_was s (s 29 f))) s
def cf_memP (i : Nat) (s : fb_S) : fb_S := fb_up s 15 i (cf_latest (s 15 i) (s 14 i))
def cf_memF (f : Nat) (s : fb_S) : fb_S := let s1 := fb_up s 29 f (cf_latest (s 29 f) (s 28 f)); fb_up s1 28 f 0
def cf_remember (fl : Nat) (s : fb_S) : fb_S := fb_it cf_memF fl (fb_it cf_memP 32 s)
/-- deliver over the ports: the sum of the answers -/
def cf_arr (s : fb_S) : Nat → Int32
  | 0 => 0
  | i + 1 => cf_arr s i + cf_deliverA i (fb_it cf_deliver i s)
def cf_before (fl : Nat) (s : fb_S) : fb_S := fb_it cf_rate1 fl (fb_it cf_endSending 32 (fb_it cf_pause1 32 (fb_up s 6 0 (s 6 0 + 1))))
def cf_tick1 (fl : Nat) (s : fb_S) : fb_S := cf_remember fl (fb_it cf_choose 32 (fb_it cf_deliver 32 (cf_before fl s)))
def cf_tick1A (fl : Nat) (s : fb_S) : Int32 := cf_arr (cf_before fl s) 32
def cf_ticks (fl : Nat) : Nat → fb_S → fb_S
  | 0, s => s
  | n + 1, s => cf_tick1 fl (cf_ticks fl n s)
def cf_ticksA (fl : Nat) (s : fb_S) : Nat → Int32
  | 0 => 0
  | n + 1 => cf_ticksA fl s n + cf_tick1A fl (cf_ticks fl n s)
def cf_tickS (fl : Nat) (n : Int32) (s : fb_S) : fb_S := if n < 1 then s else if n ≤ 20 then cf_ticks fl (fb_n n) s else s
def cf_tickA (fl : Nat) (n : Int32) (s : fb_S) : Int32 := if n < 1 then -1 else if n ≤ 20 then cf_ticksA fl s (fb_n n) else -1
def cf_qK (s : fb_S) (F : Nat) (k : Int32) : Int32 := if cf_frameAt s k < 0 then -1 else s F (fb_n (cf_frameAt s k))
def cf_qM (s : fb_S) (k : Int32) : Int32 := if cf_frameAt s k < 0 then 0 else if s 40 (fb_n (cf_frameAt s k)) = 0 then 0 else 1
def cf_qF (s : fb_S) (F : Nat) (f d : Int32) : Int32 := if cf_flowAt s f < 0 then d else s F (fb_n (cf_flowAt s f))
def cf_queued (s : fb_S) (u v q : Int32) : Int32 := if cf_pb s u v 32 0 < 0 then -1 else if cf_prio q = true then s 21 (3 * fb_n (cf_pb s u v 32 0) + fb_n q) else -1
def cf_held (s : fb_S) (u v q : Int32) : Int32 := if cf_pb s u v 32 0 < 0 then -1 else if cf_prio q = true then s 18 (2 * fb_n (cf_pb s u v 32 0) + fb_n q) else -1
def cf_qP (s : fb_S) (F : Nat) (u v : Int32) : Int32 := if cf_pb s u v 32 0 < 0 then 0 else if s F (fb_n (cf_pb s u v 32 0)) = 0 then 0 else 1
def cf_shareA (q x : Int32) : Int32 := if cf_prio q = true then (if x < 1 then 0 else if x ≤ 8 then 1 else 0) else 0
def cf_share (q x : Int32) (s : fb_S) : fb_S := if cf_prio q = true then (if x < 1 then s else if x ≤ 8 then fb_up s 7 (fb_n q) x else s) else s
/-- Integer.bitCount, as the JDK has it -/
def cf_b1 (n : Int32) : Int32 := n - (((n.toUInt32 >>> ((1 : Int32).toUInt32 &&& Int32.toUInt32 31)).toInt32) &&& 1431655765)
def cf_b2 (n : Int32) : Int32 := (cf_b1 n &&& 858993459) + ((((cf_b1 n).toUInt32 >>> ((2 : Int32).toUInt32 &&& Int32.toUInt32 31)).toInt32) &&& 858993459)
def cf_b3 (n : Int32) : Int32 := (cf_b2 n + (((cf_b2 n).toUInt32 >>> ((4 : Int32).toUInt32 &&& Int32.toUInt32 31)).toInt32)) &&& 252645135
def cf_b4 (n : Int32) : Int32 := cf_b3 n + (((cf_b3 n).toUInt32 >>> ((8 : Int32).toUInt32 &&& Int32.toUInt32 31)).toInt32)
def cf_b5 (n : Int32) : Int32 := cf_b4 n + (((cf_b4 n).toUInt32 >>> ((16 : Int32).toUInt32 &&& Int32.toUInt32 31)).toInt32)
def cf_bits (n : Int32) : Int32 := cf_b5 n &&& 63
abbrev cf_spine (num : Int32) : Int32 := 12 + (cf_bits num - cf_bits num / 2 * 2)
def cf_rtN (u v : Int32) : Nat := if cf_leaf u = cf_leaf v then 2 else 4
def cf_rt (s : fb_S) (num u v : Int32) (j : Nat) : Int32 :=
  if cf_leaf u = cf_leaf v then (if j = 0 then cf_pb s u (cf_leaf u) 32 0 else if j = 1 then cf_pb s (cf_leaf u) v 32 0 else -1)
  else (if j = 0 then cf_pb s u (cf_leaf u) 32 0 else if j = 1 then cf_pb s (cf_leaf u) (cf_spine num) 32 0 else if j = 2 then cf_pb s (cf_spine num) (cf_leaf v) 32 0 else if j = 3 then cf_pb s (cf_leaf v) v 32 0 else -1)
end
section
/-! exact functions of the reference, along its bytecode. Its store: fields in the order of its text
   0 delay 1 xoff 2 room 3 mark 4 time 5 order 6 flows 15 frames (index 0) ; 7 start 8 goal 9 priorityOf 10 rates 11 target 12 alphas 13 calm 14 wait (12 each) ;
   16 flowOf 17 lengths 18 states 19 place 20 came 21 when 22 marks (100 each) ; 23 turn (196) 24 credit (392) 25 quantum (2) 26 asking (196) 27 asked (1764) -/
def mf_near (v lo hi : Int32) : Int32 := if lo ≤ v then (if v ≤ hi then v else hi) else lo
def mf_link (low high : Int32) : Bool := if 8 ≤ low then (if 12 ≤ low then false else if high ≤ 11 then false else true) else (if high = 8 + low / 2 then true else false)
def mf_port (u v : Int32) : Bool := if u < 0 then false else if v < 0 then false else if 13 < u then false else if v ≤ 13 then (if v ≤ u then mf_link v u else mf_link u v) else false
def mf_isF (m : fb_S) (f : Int32) : Bool := if f < 0 then false else if m 6 0 ≤ f then false else true
def mf_isK (m : fb_S) (k : Int32) : Bool := if k < 0 then false else if m 15 0 ≤ k then false else true
def mf_end (m : fb_S) (f : Int32) : Int32 := if m 7 (fb_n f) / 2 = m 8 (fb_n f) / 2 then 2 else 4
def mf_ones (f : Int32) : Int32 := (f &&& 1) + ((f >>> ((1 : Int32) &&& 31)) &&& 1) + ((f >>> ((2 : Int32) &&& 31)) &&& 1) + ((f >>> ((3 : Int32) &&& 31)) &&& 1)
def mf_node (m : fb_S) (f i : Int32) : Int32 :=
  if i = 0 then m 7 (fb_n f) else if i = mf_end m f then m 8 (fb_n f) else
  if i = 2 then 12 + (mf_ones f - mf_ones f / 2 * 2)
  else if i = 1 then 8 + m 7 (fb_n f) / 2 else 8 + m 8 (fb_n f) / 2
def mf_btw (m : fb_S) (k : Nat) (u v : Int32) : Bool :=
  if 4 ≤ m 18 k then false else if mf_node m (m 16 k) (m 19 k) = u then (if mf_node m (m 16 k) (m 19 k + 1) = v then true else false) else false
def mf_here (m : fb_S) (u v q : Int32) (k : Nat) : Bool := if m 18 k = 1 then (if m 9 (fb_n (m 16 k)) = q then (if mf_btw m k u v = true then true else false) else false) else false
def mf_first (m : fb_S) (u v q : Int32) : Nat → Int32
  | 0 => -1
  | k + 1 => if mf_here m u v q k = true then (if mf_first m u v q k < 0 then nI k else if m 20 (fb_n (mf_first m u v q k)) ≤ m 20 k then mf_first m u v q k else nI k) else mf_first m u v q k
def mf_qlen (m : fb_S) (u v q : Int32) : Nat → Int32
  | 0 => 0
  | k + 1 => if mf_here m u v q k = true then mf_qlen m u v q k + m 17 k else mf_qlen m u v q k
def mf_sends (m : fb_S) (u v : Int32) : Nat → Bool
  | 0 => false
  | k + 1 => if mf_sends m u v k = true then true else if m 18 k = 2 then (if mf_btw m k u v = true then true else false) else false
def mf_isin (m : fb_S) (q : Int32) (k : Nat) : Bool :=
  let r := if m 19 k ≤ 0 then false else if m 9 (fb_n (m 16 k)) = q then true else false
  if m 18 k = 1 then r else if m 18 k = 2 then r else false
def mf_holds (m : fb_S) (u v q : Int32) : Nat → Int32
  | 0 => 0
  | k + 1 => if mf_isin m q k = true then (if mf_node m (m 16 k) (m 19 k) = v then (if mf_node m (m 16 k) (m 19 k - 1) = u then mf_holds m u v q k + m 17 k else mf_holds m u v q k) else mf_holds m u v q k) else mf_holds m u v q k
abbrev mf_pidx (m : fb_S) (u v : Int32) : Int32 := ((m 4 0 - m 0 0) - (m 4 0 - m 0 0) / 9 * 9) * 196 + 14 * u + v
def mf_paused (m : fb_S) (u v : Int32) : Bool := if m 4 0 ≤ m 0 0 then false else if m 27 (fb_n (mf_pidx m u v)) = 0 then false else true
def mf_enq (k : Nat) (m : fb_S) : fb_S :=
  let m1 := fb_up m 18 k 1
  let m2 := fb_up m1 20 k (m1 5 0)
  fb_up m2 5 0 (m2 5 0 + 1)
def mf_endOne (fr k : Nat) (m : fb_S) : fb_S :=
  if m 18 k = 2 then (if m 21 k = m 4 0 then
    let m1 := fb_up m 18 k 3
    if m1 19 k ≤ 0 then m1 else if m1 9 (fb_n (m1 16 k)) = 0 then
      let g := 14 * mf_node m1 (m1 16 k) (m1 19 k - 1) + mf_node m1 (m1 16 k) (m1 19 k)
      fb_up m1 26 (fb_n g) (if m1 26 (fb_n g) = 0 then 0 else if mf_holds m1 (mf_node m1 (m1 16 k) (m1 19 k - 1)) (mf_node m1 (m1 16 k) (m1 19 k)) 0 fr ≤ m1 1 0 / 2 then 0 else 1)
    else m1 else m) else m
def mf_told (m : fb_S) (f : Int32) : Nat → Bool
  | 0 => false
  | k + 1 => if mf_told m f k = true then true else if m 16 k = f then (if m 18 k = 4 then (if m 22 k = 0 then false else if m 21 k = m 4 0 - m 0 0 then true else false) else false) else false
def mf_slow (fr f : Nat) (m : fb_S) : fb_S :=
  if mf_told m (nI f) fr = true then
    let m1 := fb_up m 11 f (m 10 f)
    let less := m1 10 f - m1 10 f * m1 12 f / 128
    let m2 := fb_up m1 10 f (if 1 ≤ less then less else 1)
    let m3 := fb_up m2 12 f ((15 * m2 12 f + 64) / 16)
    fb_up m3 13 f 0
  else
    let m1 := fb_up m 13 f (m 13 f + 1)
    if m1 13 f = 16 then
      let m2 := fb_up m1 13 f 0
      let m3 := fb_up m2 12 f (15 * m2 12 f / 16)
      fb_up m3 10 f ((m3 10 f + m3 11 f + 1) / 2)
    else m1
def mf_much (m : fb_S) (fr k : Nat) (u v : Int32) : Bool :=
  let q := m 9 (fb_n (m 16 k))
  if mf_holds m u v q fr + m 17 k ≤ (if q = 1 then m 1 0 else m 1 0 + m 2 0) then false else true
def mf_mark (m : fb_S) (fr k : Nat) (v w q : Int32) : Bool := if m 22 k = 0 then (if mf_qlen m v w q fr ≤ m 3 0 then false else true) else true
def mf_ask (m : fb_S) (fr : Nat) (u v q : Int32) : Bool := if m 26 (fb_n (14 * u + v)) = 0 then (if q = 0 then (if mf_holds m u v 0 fr < m 1 0 then false else true) else false) else true
def mf_arrive (fr k : Nat) (u v : Int32) (m : fb_S) : fb_S :=
  if m 19 k + 1 = mf_end m (m 16 k) then
    let m1 := fb_up m 19 k (m 19 k + 1)
    let m2 := fb_up m1 18 k 4
    fb_up m2 21 k (m2 4 0)
  else
    let m1 := fb_up m 19 k (m 19 k + 1)
    if mf_much m fr k u v = true then fb_up m1 18 k 5 else
    let m2 := mf_enq k m1
    let m3 := fb_up m2 22 k (fb_b (mf_mark m2 fr k v (mf_node m2 (m 16 k) (m2 19 k + 1)) (m 9 (fb_n (m 16 k)))))
    fb_up m3 26 (fb_n (14 * u + v)) (fb_b (mf_ask m3 fr u v (m 9 (fb_n (m 16 k)))))
def mf_arrK (fr : Nat) (u v : Int32) (k : Nat) (m : fb_S) : fb_S :=
  if mf_port u v = true then (if m 18 k = 3 then (if m 21 k + m 0 0 = m 4 0 then (if mf_btw m k u v = true then mf_arrive fr k u v m else m) else m) else m) else m
def mf_arrU (fr v u : Nat) (m : fb_S) : fb_S := fb_it (mf_arrK fr (nI u) (nI v)) fr m
def mf_arrV (fr v : Nat) (m : fb_S) : fb_S := fb_it (mf_arrU fr v) 14 m
def mf_arrivals (fr : Nat) (m : fb_S) : fb_S := fb_it (mf_arrV fr) 14 m
def mf_ready (m : fb_S) (fr : Nat) (u v q : Int32) : Bool :=
  let r := if 7 < u then true else if m 4 0 < m 14 (fb_n (m 16 (fb_n (mf_first m u v q fr)))) then false else true
  if mf_first m u v q fr < 0 then false else if q = 0 then (if mf_paused m u v = true then false else r) else r
def mf_begin (k u : Int32) (m : fb_S) : fb_S :=
  let m1 := fb_up m 18 (fb_n k) 2
  let m2 := fb_up m1 21 (fb_n k) (m1 4 0 + m1 17 (fb_n k))
  if 8 ≤ u then m2 else fb_up m2 14 (fb_n (m 16 (fb_n k))) (m2 4 0 + ((64 * m2 17 (fb_n k) + m2 10 (fb_n (m 16 (fb_n k)))) - 1) / m2 10 (fb_n (m 16 (fb_n k))))
abbrev mf_can (m : fb_S) (u v : Int32) (zero one : Bool) : Bool := if m 23 (fb_n (14 * u + v)) = 0 then zero else one
/-- what a step of choose leaves if it goes on -/
def mf_step (u v : Int32) (zero one : Bool) (m : fb_S) : fb_S :=
  let g := 14 * u + v
  let q := m 23 (fb_n g)
  let m1 := fb_up m 24 (fb_n (2 * g + q)) (if mf_can m u v zero one = true then m 24 (fb_n (2 * g + q)) else 0)
  let m2 := fb_up m1 23 (fb_n g) (1 - q)
  fb_up m2 24 (fb_n (2 * g + (1 - q))) (if (if 1 - q = 0 then zero else one) = true then m2 24 (fb_n (2 * g + (1 - q))) + m2 25 (fb_n (1 - q)) else m2 24 (fb_n (2 * g + (1 - q))))
def mf_last1 (fr : Nat) (u v : Int32) (m : fb_S) : fb_S :=
  let g := 14 * u + v
  let q := m 23 (fb_n g)
  let m1 := mf_begin (mf_first m u v q fr) u m
  fb_up m1 24 (fb_n (2 * g + q)) (m1 24 (fb_n (2 * g + q)) - m1 17 (fb_n (mf_first m u v q fr)))
def mf_steps (fr : Nat) (u v : Int32) (zero one : Bool) : Nat → fb_S → fb_S
  | 0, m => m
  | n + 1, m =>
    if mf_can m u v zero one = true then
      (if m 24 (fb_n (2 * (14 * u + v) + m 23 (fb_n (14 * u + v)))) < m 17 (fb_n (mf_first m u v (m 23 (fb_n (14 * u + v))) fr)) then mf_steps fr u v zero one n (mf_step u v zero one m) else mf_last1 fr u v m)
    else mf_steps fr u v zero one n (mf_step u v zero one m)
/-- with the loop's 'more' -/
def mf_go (fr : Nat) (u v : Int32) (zero one : Bool) (x : Int32) (n : Nat) (m : fb_S) : fb_S := if x = 0 then m else mf_steps fr u v zero one n m
def mf_more (zero one : Bool) : Bool := if zero = true then true else if one = true then true else false
def mf_choose (fr : Nat) (u v : Int32) (m : fb_S) : fb_S := mf_go fr u v (mf_ready m fr u v 0) (mf_ready m fr u v 1) (fb_b (mf_more (mf_ready m fr u v 0) (mf_ready m fr u v 1))) 40 m
def mf_ch1 (fr q : Nat) (m : fb_S) : fb_S :=
  if mf_port (nI q / 14) (nI q - nI q / 14 * 14) = true then (if mf_sends m (nI q / 14) (nI q - nI q / 14 * 14) fr = true then m else mf_choose fr (nI q / 14) (nI q - nI q / 14 * 14) m) else m
def mf_rec1 (q : Nat) (m : fb_S) : fb_S := fb_up m 27 (fb_n ((m 4 0 - m 4 0 / 9 * 9) * 196 + nI q)) (m 26 q)
def mf_tick1 (fl fr : Nat) (m : fb_S) : fb_S :=
  fb_it mf_rec1 196 (fb_it (mf_ch1 fr) 196 (mf_arrivals fr (fb_it (mf_slow fr) fl (fb_it (mf_endOne fr) fr (fb_up m 4 0 (m 4 0 + 1))))))
def mf_ticks (fl fr : Nat) : Nat → fb_S → fb_S
  | 0, m => m
  | n + 1, m => mf_tick1 fl fr (mf_ticks fl fr n m)
def mf_arrived (m : fb_S) : Nat → Int32
  | 0 => 0
  | k + 1 => if m 18 k = 4 then mf_arrived m k + 1 else mf_arrived m k
def mf_tickS (fl fr : Nat) (n : Int32) (m : fb_S) : fb_S := if n < 1 then m else if n ≤ 20 then mf_ticks fl fr (fb_n n) m else m
def mf_tickA (fl fr : Nat) (n : Int32) (m : fb_S) : Int32 := if n < 1 then -1 else if n ≤ 20 then mf_arrived (mf_ticks fl fr (fb_n n) m) fr - mf_arrived m fr else -1
def mf_count (m : fb_S) (f x : Int32) : Nat → Int32
  | 0 => 0
  | k + 1 => if m 16 k = f then (if m 18 k = x then mf_count m f x k + 1 else mf_count m f x k) else mf_count m f x k
def mf_rcv (m : fb_S) (f : Int32) (k : Nat) : Bool := if m 16 k = f then (if m 18 k = 4 then true else false) else false
def mf_last (m : fb_S) (f : Int32) : Nat → Int32
  | 0 => -1
  | k + 1 => if mf_isF m f = true then (if mf_rcv m f k = true then (if mf_last m f k < 0 then nI k else if m 21 k ≤ m 21 (fb_n (mf_last m f k)) then mf_last m f k else nI k) else mf_last m f k) else mf_last m f k
def mf_state (m : fb_S) (k : Int32) : Int32 := if mf_isK m k = true then m 18 (fb_n k) else -1
def mf_nodeQ (m : fb_S) (k : Int32) : Int32 := if mf_isK m k = true then mf_node m (m 16 (fb_n k)) (m 19 (fb_n k)) else -1
def mf_marked (m : fb_S) (k : Int32) : Int32 := if mf_isK m k = true then (if m 22 (fb_n k) = 0 then 0 else 1) else 0
def mf_queued (m : fb_S) (fr : Nat) (u v q : Int32) : Int32 := if mf_port u v = true then (if q = 0 then mf_qlen m u v q fr else if q = 1 then mf_qlen m u v q fr else -1) else -1
def mf_held (m : fb_S) (fr : Nat) (u v q : Int32) : Int32 := if mf_port u v = true then (if q < 0 then -1 else if q ≤ 1 then (if 8 ≤ v then mf_holds m u v q fr else 0) else -1) else -1
def mf_asks (m : fb_S) (u v : Int32) : Int32 := if mf_port u v = true then (if m 26 (fb_n (14 * u + v)) = 0 then 0 else 1) else 0
def mf_pausedQ (m : fb_S) (u v : Int32) : Int32 := if mf_port u v = true then (if mf_paused m u v = true then 1 else 0) else 0
def mf_rate (m : fb_S) (F : Nat) (f : Int32) : Int32 := if mf_isF m f = true then m F (fb_n f) else 0
def mf_cnt (m : fb_S) (fr : Nat) (f x : Int32) : Int32 := if mf_isF m f = true then mf_count m f x fr else 0
def mf_shareA (q x : Int32) : Int32 := if q < 0 then 0 else if 1 < q then 0 else if x < 1 then 0 else if x ≤ 8 then 1 else 0
def mf_share (q x : Int32) (m : fb_S) : fb_S := if q < 0 then m else if 1 < q then m else if x < 1 then m else if x ≤ 8 then fb_up m 25 (fb_n q) x else m
def mf_T (T : Nat) (n : Int32) : Nat := if n < 1 then T else if n ≤ 20 then T + fb_n n else T
/-- flow: is it taken? -/
def mf_flok (z u v q : Int32) : Bool := if u < 0 then false else if 7 < u then false else if v < 0 then false else if 7 < v then false else if u = v then false else if q < 0 then false else if 1 < q then false else if z < 12 then true else false
def mf_flC (m : fb_S) (fl : Nat) (u v q : Int32) : Nat := if u < 0 then fl else if 7 < u then fl else if v < 0 then fl else if 7 < v then fl else if u = v then fl else if q < 0 then fl else if 1 < q then fl else if m 6 0 < 12 then fl + 1 else fl
def mf_flowA (m : fb_S) (u v q : Int32) : Int32 := if u < 0 then -1 else if 7 < u then -1 else if v < 0 then -1 else if 7 < v then -1 else if u = v then -1 else if q < 0 then -1 else if 1 < q then -1 else if m 6 0 < 12 then m 6 0 else -1
def mf_flowU (fl : Nat) (u v q : Int32) (m : fb_S) : fb_S :=
  let m6 := fb_up (fb_up (fb_up (fb_up (fb_up (fb_up m 7 fl u) 8 fl v) 9 fl q) 10 fl 64) 11 fl 64) 12 fl 64
  fb_up m6 6 0 (m6 6 0 + 1)
def mf_flow (fl : Nat) (u v q : Int32) (m : fb_S) : fb_S := if u < 0 then m else if 7 < u then m else if v < 0 then m else if 7 < v then m else if u = v then m else if q < 0 then m else if 1 < q then m else if m 6 0 < 12 then mf_flowU fl u v q m else m
def mf_injA (m : fb_S) (f n : Int32) : Int32 := if mf_isF m f = true then (if n < 1 then -1 else if 4 < n then -1 else if m 15 0 < 100 then m 15 0 else -1) else -1
def mf_frC (m : fb_S) (fr : Nat) (f n : Int32) : Nat := if mf_isF m f = true then (if n < 1 then fr else if 4 < n then fr else if m 15 0 < 100 then fr + 1 else fr) else fr
def mf_injU (fr : Nat) (f n : Int32) (m : fb_S) : fb_S :=
  let m4 := mf_enq fr (fb_up (fb_up (fb_up m 16 fr f) 17 fr n) 19 fr 0)
  fb_up m4 15 0 (m4 15 0 + 1)
def mf_inj (fr : Nat) (f n : Int32) (m : fb_S) : fb_S := if mf_isF m f = true then (if n < 1 then m else if 4 < n then m else if m 15 0 < 100 then mf_injU fr f n m else m) else m
end
section
/-! small helps for the walks -/
theorem fb_l31 {k n : Nat} (h : k < n) (hn : n ≤ 100) : k < 2 ^ 31 := by omega
theorem fb_w96 {i : Nat} (h : i < 32) : 3 * i + 2 < 96 := by omega
theorem fb_w96p {i j : Nat} (h : i < 32) (hj : j < 2) : 3 * i + j < 96 := by omega
theorem fb_len24 {v : Int32} (h : v = 2 ∨ v = 4) : Int32.ofNat (fb_n v) = v := by
  rcases h with rfl | rfl <;> decide
theorem fb_in24 {v z : Int32} (h : v = 2 ∨ v = 4) (h0 : ¬ z < 0) (h1 : ¬ v ≤ z) : vp_in z (fb_n v) := by
  rcases h with rfl | rfl
  · exact fb_inI (n := 2) h0 h1 (by decide) (by decide) (by decide)
  · exact fb_inI (n := 4) h0 h1 (by decide) (by decide) (by decide)
theorem fb_lt4 {v z : Int32} (h : v = 2 ∨ v = 4) (h0 : ¬ z < 0) (h1 : ¬ v ≤ z) : fb_n z < 4 := by
  rcases h with rfl | rfl
  · exact Nat.lt_trans (fb_inI' (n := 2) h0 h1 (by decide) (by decide)) (by decide)
  · exact fb_inI' (n := 4) h0 h1 (by decide) (by decide)
theorem fb_liv8 {fl fr : Nat} {st : fb_S} {a : Nat → Nat} (h : fb_okC fl fr st) {f : Nat} (hf : f < fl) (h31 : f < 2 ^ 31) : fb_ro a (st 8 (nI f).toNatClampNeg) = some (a f) := by
  have e : st 8 f = nI f := (h 8 f).trans (if_pos hf)
  rw [nI_clamp h31, e, fb_ro_k h31]
theorem fb_liv9 {fl fr : Nat} {st : fb_S} {a : Nat → Nat} (h : fb_okC fl fr st) {f : Nat} (hf : f < fr) (h31 : f < 2 ^ 31) : fb_ro a (st 9 (nI f).toNatClampNeg) = some (a f) := by
  have e : st 9 f = nI f := (h 9 f).trans (if_pos hf)
  rw [nI_clamp h31, e, fb_ro_k h31]
theorem fb_rgi {n i : Nat} {v : Int32} (h : v = if i < n then nI i else -1) (hn : n < 2 ^ 31) : fb_rg n v := by
  by_cases hi : i < n
  · rw [if_pos hi] at h
    exact Or.inr (h ▸ vp_in_nI hi hn)
  · rw [if_neg hi] at h
    exact Or.inl h
theorem rg_pb {s : fb_S} (u v : Int32) : ∀ (d i : Nat), i + d = 32 → fb_rg 32 (cf_pb s u v d i) := by
  intro d
  induction d with
  | zero => exact fun _ _ => Or.inl rfl
  | succ d ih =>
    intro i hi
    simp only [cf_pb]
    split
    · split
      · exact fb_rk (by omega) (by decide)
      · exact ih (i + 1) (by omega)
    · exact ih (i + 1) (by omega)
theorem rg_flowAt {fl fr : Nat} {s : fb_S} (h : fb_okC fl fr s) (hfl : fl ≤ 12) (f : Int32) : fb_rg fl (cf_flowAt s f) := by
  simp only [cf_flowAt]
  split
  · exact Or.inl rfl
  · split
    · exact Or.inl rfl
    · exact fb_rgi (h 8 _) (by omega)
theorem rg_frameAt {fl fr : Nat} {s : fb_S} (h : fb_okC fl fr s) (hfr : fr ≤ 100) (f : Int32) : fb_rg fr (cf_frameAt s f) := by
  simp only [cf_frameAt]
  split
  · exact Or.inl rfl
  · split
    · exact Or.inl rfl
    · exact fb_rgi (h 9 _) (by omega)
theorem rg_portAt {fl fr : Nat} {s : fb_S} (h : fb_okC fl fr s) (f : Nat) (hop : Int32) : fb_rg 32 (cf_portAt s f hop) := by
  simp only [cf_portAt]
  split
  · exact Or.inl rfl
  · split
    · exact Or.inl rfl
    · exact h 33 _
theorem rg_ready {fl fr : Nat} {s : fb_S} (h : fb_okC fl fr s) (i : Nat) (q : Int32) : fb_rg fr (cf_ready s i q) := by
  have h1 := h 19 (3 * i + fb_n q)
  simp only [cf_ready]
  repeat' split
  all_goals first | exact Or.inl rfl | exact h1
theorem fb_prio {q : Int32} (h : cf_prio q = true) : vp_in q 2 := by
  unfold cf_prio at h
  by_cases h0 : q < 0
  · rw [if_pos h0] at h; cases h
  · by_cases h1 : (2 : Int32) ≤ q
    · rw [if_neg h0, if_pos h1] at h; cases h
    · exact fb_inI (n := 2) h0 h1 (by decide) (by decide) (by decide)
theorem fb_ne1 {v : Int32} (h : 1 ≤ v ∧ v ≤ 64) : ¬ v = 0 := by
  rintro rfl
  exact absurd h.1 (by decide)
/-- rates: 1 .. 64, alpha: 0 .. 64 (by trying all) -/
theorem fb_to64 {v : Int32} (h0 : ¬ v < 0) (h : v ≤ 64) : ∃ j : Nat, j ≤ 64 ∧ v = nI j := nI_of2 (M := 64) (n := 64) (by decide) h0 h
theorem fb_pos1 {v : Int32} (h : 1 ≤ v) : ¬ v < 0 := by
  intro q
  have h1 := Int32.le_iff_toInt_le.mp h
  have h2 := Int32.lt_iff_toInt_lt.mp q
  have e1 : (1 : Int32).toInt = 1 := by decide
  have e0 : (0 : Int32).toInt = 0 := by decide
  omega
theorem fb_pos0 {v : Int32} (h : 0 ≤ v) : ¬ v < 0 := by
  intro q
  have h1 := Int32.le_iff_toInt_le.mp h
  have h2 := Int32.lt_iff_toInt_lt.mp q
  have e0 : (0 : Int32).toInt = 0 := by decide
  omega
theorem fb_slowT : ∀ r, r < 65 → ∀ a, a < 65 → 1 ≤ r → (1 ≤ (if 1 < nI r - nI r * nI a / 128 then nI r - nI r * nI a / 128 else 1) ∧ (if 1 < nI r - nI r * nI a / 128 then nI r - nI r * nI a / 128 else 1) ≤ 64) := by decide +kernel
theorem fb_slow1 {r a : Int32} (hr : 1 ≤ r ∧ r ≤ 64) (ha : 0 ≤ a ∧ a ≤ 64) : 1 ≤ (if 1 < r - r * a / 128 then r - r * a / 128 else 1) ∧ (if 1 < r - r * a / 128 then r - r * a / 128 else 1) ≤ 64 := by
  obtain ⟨j, hj, rfl⟩ := fb_to64 (fb_pos1 hr.1) hr.2
  obtain ⟨b, hb, rfl⟩ := fb_to64 (fb_pos0 ha.1) ha.2
  refine fb_slowT j (by omega) b (by omega) ?_
  rcases Nat.eq_zero_or_pos j with rfl | h
  · exact absurd hr.1 (by decide)
  · exact h
theorem fb_slow2 {a : Int32} (ha : 0 ≤ a ∧ a ≤ 64) : 0 ≤ (15 * a + 64) / 16 ∧ (15 * a + 64) / 16 ≤ 64 := by
  obtain ⟨b, hb, rfl⟩ := fb_to64 (fb_pos0 ha.1) ha.2
  exact (show ∀ b, b < 65 → (0 ≤ (15 * nI b + 64) / 16 ∧ (15 * nI b + 64) / 16 ≤ 64) by decide +kernel) b (by omega)
theorem fb_rec1 {a : Int32} (ha : 0 ≤ a ∧ a ≤ 64) : 0 ≤ 15 * a / 16 ∧ 15 * a / 16 ≤ 64 := by
  obtain ⟨b, hb, rfl⟩ := fb_to64 (fb_pos0 ha.1) ha.2
  exact (show ∀ b, b < 65 → (0 ≤ 15 * nI b / 16 ∧ 15 * nI b / 16 ≤ 64) by decide +kernel) b (by omega)
theorem fb_recT : ∀ r, r < 65 → ∀ a, a < 65 → 1 ≤ r → 1 ≤ a → (1 ≤ (nI r + nI a + 1) / 2 ∧ (nI r + nI a + 1) / 2 ≤ 64) := by decide +kernel
theorem fb_rec2 {r a : Int32} (hr : 1 ≤ r ∧ r ≤ 64) (ha : 1 ≤ a ∧ a ≤ 64) : 1 ≤ (r + a + 1) / 2 ∧ (r + a + 1) / 2 ≤ 64 := by
  obtain ⟨j, hj, rfl⟩ := fb_to64 (fb_pos1 hr.1) hr.2
  obtain ⟨b, hb, rfl⟩ := fb_to64 (fb_pos1 ha.1) ha.2
  refine fb_recT j (by omega) b (by omega) ?_ ?_
  · rcases Nat.eq_zero_or_pos j with rfl | h
    · exact absurd hr.1 (by decide)
    · exact h
  · rcases Nat.eq_zero_or_pos b with rfl | h
    · exact absurd ha.1 (by decide)
    · exact h
/-- an int from 1 to 20 -/
theorem fb_to20 {n : Int32} (h1 : ¬ n < 1) (h2 : n ≤ 20) : ∃ t : Nat, t ≤ 20 ∧ n = nI t := by
  refine nI_of2 (M := 20) (n := 20) (by decide) (fun q => h1 ?_) h2
  have h2 := Int32.lt_iff_toInt_lt.mp q
  refine Int32.lt_iff_toInt_lt.mpr ?_
  have e1 : (1 : Int32).toInt = 1 := by decide
  have e0 : (0 : Int32).toInt = 0 := by decide
  omega
end
section
/-! small helps for the reference's walks -/
theorem fb_nlt {a b : Int32} (h : ¬ a < b) : b ≤ a := Int32.not_lt.mp h
theorem fb_mul (a b : Nat) : nI a * nI b = nI (a * b) := (Int32.ofNat_mul a b).symm
theorem fb_div {a b : Nat} (ha : a < 2 ^ 31) (hb : b < 2 ^ 31) : nI a / nI b = nI (a / b) := by
  refine Int32.toInt_inj.mp ?_
  have hne : nI a ≠ Int32.minValue := by
    intro h
    have h1 := congrArg Int32.toInt h
    rw [nI_toInt ha, Int32.toInt_minValue] at h1
    omega
  rw [Int32.toInt_div_of_ne_left _ _ hne, nI_toInt ha, nI_toInt hb, nI_toInt (Nat.lt_of_le_of_lt (Nat.div_le_self a b) ha)]
  exact (Int.ofNat_tdiv a b).symm
theorem fb_sub {a b : Nat} (h : b ≤ a) : nI a - nI b = nI (a - b) := by
  have h1 : nI a = nI (a - b) + nI b := by
    rw [nI_add]
    congr 1
    omega
  rw [h1]
  exact Int32.add_sub_cancel _ _
theorem fb_vof {x : Int32} {n : Nat} (h : vp_in x n) (hn : n < 2 ^ 31) : ∃ j : Nat, j < n ∧ x = nI j := vp_in_of h hn
theorem fb_in14 {u v : Int32} (hu : vp_in u 14) (hv : vp_in v 14) : vp_in (14 * u + v) 196 := by
  obtain ⟨a, ha, rfl⟩ := vp_in_of hu (by decide)
  obtain ⟨b, hb, rfl⟩ := vp_in_of hv (by decide)
  rw [show (14 : Int32) = nI 14 from by decide, fb_mul, nI_add]
  exact vp_in_nI (by omega) (by decide)
theorem fb_in28 {u v q : Int32} (hu : vp_in u 14) (hv : vp_in v 14) (hq : q = 0 ∨ q = 1) : vp_in (2 * (14 * u + v) + q) 392 := by
  obtain ⟨a, ha, rfl⟩ := vp_in_of hu (by decide)
  obtain ⟨b, hb, rfl⟩ := vp_in_of hv (by decide)
  obtain ⟨d, hd, rfl⟩ := vp_in_of (fb_v01 hq) (by decide)
  rw [show (14 : Int32) = nI 14 from by decide, fb_mul, nI_add, show (2 : Int32) = nI 2 from by decide, fb_mul, nI_add]
  exact vp_in_nI (by omega) (by decide)
theorem fb_in2 {q : Int32} (h0 : ¬ q < 0) (h1 : ¬ 1 < q) : vp_in q 2 := by
  obtain ⟨j, hj, rfl⟩ := nI_of h0
  have : ¬ 1 < j := fun h => h1 (nI_lt (a := 1) h hj)
  exact vp_in_nI (by omega) (by decide)
theorem fb_01 {q : Int32} (h0 : ¬ q < 0) (h1 : ¬ 1 < q) : q = 0 ∨ q = 1 := by
  obtain ⟨j, hj, rfl⟩ := nI_of h0
  have : ¬ 1 < j := fun h => h1 (nI_lt (a := 1) h hj)
  rcases (by omega : j = 0 ∨ j = 1) with rfl | rfl
  · exact Or.inl rfl
  · exact Or.inr rfl
theorem fb_not0 {q : Int32} (h : q = 0 ∨ q = 1) (h0 : ¬ q = 0) : q = 1 := h.resolve_left h0
theorem fb_inr {n N : Nat} {v : Int32} (h : fb_rg n v) (hv : ¬ v < 0) (hN : n ≤ N) : vp_in v N := by
  rcases h with rfl | h
  · exact absurd fb_m1 hv
  · exact fun q => q.elim hv (fun q => h (Or.inr (Nat.le_trans hN q)))
theorem fb_vle {n N : Nat} {v : Int32} (h : vp_in v n) (hN : n ≤ N) : vp_in v N := fun q => q.elim (fb_vp h) (fun q => h (Or.inr (Nat.le_trans hN q)))
theorem fb_eqin {z : Int32} {n N : Nat} (h : z = nI n) (hn : n < N) (hN : N < 2 ^ 31) : vp_in z N := h ▸ vp_in_nI hn hN
theorem fb_eqn {z : Int32} {n : Nat} (h : z = nI n) (hn : n < 2 ^ 31) : z.toNatClampNeg = n := h ▸ nI_clamp hn
theorem fb_lt12 {z : Int32} {n : Nat} (h : z = nI n) (hn : n ≤ 12) (hz : z < 12) : n < 12 := by
  rcases Nat.lt_or_ge n 12 with q | q
  · exact q
  · rw [h] at hz
    exact absurd hz (nI_nlt (a := n) (b := 12) q (by omega))
theorem fb_lt100 {z : Int32} {n : Nat} (h : z = nI n) (hn : n ≤ 100) (hz : z < 100) : n < 100 := by
  rcases Nat.lt_or_ge n 100 with q | q
  · exact q
  · rw [h] at hz
    exact absurd hz (nI_nlt (a := n) (b := 100) q (by omega))
theorem rg_first (m : fb_S) (u v q : Int32) (n : Nat) (hn : n < 2 ^ 31) : fb_rg n (mf_first m u v q n) := by
  induction n with
  | zero => exact Or.inl rfl
  | succ n ih =>
    have ih := ih (by omega)
    have up : ∀ z, fb_rg n z → fb_rg (n + 1) z := fun z h => h.imp id (fun h => fb_vle h (by omega))
    simp only [mf_first]
    repeat' split
    all_goals first | exact up _ ih | exact fb_rk (by omega) hn
theorem rg_last (m : fb_S) (f : Int32) (n : Nat) (hn : n < 2 ^ 31) : fb_rg n (mf_last m f n) := by
  induction n with
  | zero => exact Or.inl rfl
  | succ n ih =>
    have ih := ih (by omega)
    have up : ∀ z, fb_rg n z → fb_rg (n + 1) z := fun z h => h.imp id (fun h => fb_vle h (by omega))
    simp only [mf_last]
    repeat' split
    all_goals first | exact up _ ih | exact fb_rk (by omega) hn
theorem fb_last0 {m : fb_S} {f : Int32} (h : ¬ mf_isF m f = true) (n : Nat) : mf_last m f n = -1 := by
  induction n with
  | zero => rfl
  | succ n ih => simp only [mf_last, if_neg h]; exact ih
theorem fb_noport {fr : Nat} {u v : Int32} (h : ¬ mf_port u v = true) (a b : Nat) (s : fb_S) : fb_it (mf_arrK fr u v) a s = fb_it (mf_arrK fr u v) b s := by
  have key : ∀ n, fb_it (mf_arrK fr u v) n s = s := by
    intro n
    induction n with
    | zero => rfl
    | succ n ih =>
      show mf_arrK fr u v n (fb_it (mf_arrK fr u v) n s) = s
      rw [ih]
      exact if_neg h
  rw [key, key]
def fb_agree (s t : fb_S) : Prop := ∀ F j, F ≠ 23 → F ≠ 24 → s F j = t F j
theorem mf_end_congr {s t : fb_S} (h : fb_agree s t) (f : Int32) : mf_end s f = mf_end t f := by
  simp only [mf_end, h 7 _ (by decide) (by decide), h 8 _ (by decide) (by decide)]
theorem mf_node_congr {s t : fb_S} (h : fb_agree s t) (f i : Int32) : mf_node s f i = mf_node t f i := by
  simp only [mf_node, mf_end_congr h, h 7 _ (by decide) (by decide), h 8 _ (by decide) (by decide)]
theorem mf_here_congr {s t : fb_S} (h : fb_agree s t) (u v q : Int32) (k : Nat) : mf_here s u v q k = mf_here t u v q k := by
  have hb : mf_btw s k u v = mf_btw t k u v := by
    simp only [mf_btw, mf_node_congr h, h 18 _ (by decide) (by decide), h 16 _ (by decide) (by decide), h 19 _ (by decide) (by decide)]
  simp only [mf_here, hb, h 18 _ (by decide) (by decide), h 9 _ (by decide) (by decide), h 16 _ (by decide) (by decide)]
theorem mf_first_congr {s t : fb_S} (h : fb_agree s t) (u v q : Int32) (n : Nat) : mf_first s u v q n = mf_first t u v q n := by
  induction n with
  | zero => rfl
  | succ n ih => simp only [mf_first, mf_here_congr h, h 20 _ (by decide) (by decide), ih]
theorem mf_ready_first {m : fb_S} {fr : Nat} {u v q : Int32} (h : mf_ready m fr u v q = true) : ¬ mf_first m u v q fr < 0 := by
  intro hn
  simp only [mf_ready, if_pos hn] at h
  cases h
theorem fb_chin0 {S st : fb_S} {fr : Nat} {u v : Int32} {g : Nat} (ha : fb_agree S st) (hfr : fr < 2 ^ 31) (hq : S 23 g = 0) (hr : mf_ready st fr u v 0 = true) : vp_in (mf_first S u v (S 23 g) fr) fr := by
  rw [hq, mf_first_congr ha]
  exact fb_inr (rg_first st u v 0 fr hfr) (mf_ready_first hr) (Nat.le_refl _)
theorem fb_chin1 {S st : fb_S} {fr : Nat} {u v : Int32} {g : Nat} (ha : fb_agree S st) (hfr : fr < 2 ^ 31) (hq : S 23 g = 1) (hr : mf_ready st fr u v 1 = true) : vp_in (mf_first S u v (S 23 g) fr) fr := by
  rw [hq, mf_first_congr ha]
  exact fb_inr (rg_first st u v 1 fr hfr) (mf_ready_first hr) (Nat.le_refl _)
theorem fb_isK {fl fr T : Nat} {m : fb_S} {k : Int32} (h : fb_okM fl fr T m) (hfr : fr ≤ 100) (hk : mf_isK m k = true) : vp_in k 100 := by
  unfold mf_isK at hk
  by_cases h0 : k < 0
  · rw [if_pos h0] at hk; cases hk
  · by_cases h1 : m 15 0 ≤ k
    · rw [if_neg h0, if_pos h1] at hk; cases hk
    · exact fb_inI h0 h1 (h 15 0 rfl) hfr (by decide)
theorem fb_isFl {fl fr T : Nat} {m : fb_S} {f : Int32} (h : fb_okM fl fr T m) (hfl : fl ≤ 12) (hk : mf_isF m f = true) : vp_in f fl := by
  unfold mf_isF at hk
  by_cases h0 : f < 0
  · rw [if_pos h0] at hk; cases hk
  · by_cases h1 : m 6 0 ≤ f
    · rw [if_neg h0, if_pos h1] at hk; cases hk
    · exact fb_inI h0 h1 (h 6 0 rfl) (Nat.le_refl _) (by omega)
theorem fb_isF {fl fr T : Nat} {m : fb_S} {f : Int32} (h : fb_okM fl fr T m) (hfl : fl ≤ 12) (hk : mf_isF m f = true) : vp_in f 12 := fb_vle (fb_isFl h hfl hk) hfl
theorem fb_prt {u v : Int32} (h : mf_port u v = true) : vp_in u 14 ∧ vp_in v 14 := by
  unfold mf_port at h
  by_cases h0 : u < 0
  · rw [if_pos h0] at h; cases h
  · by_cases h1 : v < 0
    · rw [if_neg h0, if_pos h1] at h; cases h
    · by_cases h2 : 13 < u
      · rw [if_neg h0, if_neg h1, if_pos h2] at h; cases h
      · by_cases h3 : v ≤ 13
        · constructor
          · refine fb_inI (z := 14) (n := 14) h0 ?_ (by decide) (by decide) (by decide)
            intro q
            have e := Int32.le_iff_toInt_le.mp q
            have e2 := Int32.le_iff_toInt_le.mp (Int32.not_lt.mp h2)
            have a1 : (14 : Int32).toInt = 14 := by decide
            have a2 : (13 : Int32).toInt = 13 := by decide
            omega
          · refine fb_inI (z := 14) (n := 14) h1 ?_ (by decide) (by decide) (by decide)
            intro q
            have e := Int32.le_iff_toInt_le.mp q
            have e2 := Int32.le_iff_toInt_le.mp h3
            have a1 : (14 : Int32).toInt = 14 := by decide
            have a2 : (13 : Int32).toInt = 13 := by decide
            omega
        · rw [if_neg h0, if_neg h1, if_neg h2, if_neg h3] at h; cases h
theorem fb_7 {v : Int32} (h : 0 ≤ v ∧ v ≤ 7) : ∃ j : Nat, j ≤ 7 ∧ v = nI j := nI_of2 (M := 7) (n := 7) (by decide) (fb_pos0 h.1) h.2
theorem fb_onesT : ∀ j, j < 12 → ((12 + (mf_ones (nI j) - mf_ones (nI j) / 2 * 2) = nI 12) ∨ (12 + (mf_ones (nI j) - mf_ones (nI j) / 2 * 2) = nI 13)) := by decide +kernel
theorem fb_8T : ∀ j, j < 8 → 8 + nI j / 2 = nI (8 + j / 2) := by decide +kernel
theorem rg_node {fl fr T : Nat} {m : fb_S} (h : fb_okM fl fr T m) {f : Int32} (hf : vp_in f 12) (i : Int32) : vp_in (mf_node m f i) 14 := by
  obtain ⟨a, ha, ea⟩ := fb_7 (h 7 (fb_n f))
  obtain ⟨b, hb, eb⟩ := fb_7 (h 8 (fb_n f))
  obtain ⟨j, hj, ej⟩ := vp_in_of hf (by decide)
  unfold mf_node
  rw [ea, eb]
  repeat' split
  · exact vp_in_nI (by omega) (by decide)
  · exact vp_in_nI (by omega) (by decide)
  · subst ej
    rcases fb_onesT j hj with e | e
    · rw [e]; exact vp_in_nI (by omega) (by decide)
    · rw [e]; exact vp_in_nI (by omega) (by decide)
  · rw [fb_8T a (by omega)]; exact vp_in_nI (by omega) (by decide)
  · rw [fb_8T b (by omega)]; exact vp_in_nI (by omega) (by decide)
theorem fb_mod9 {t : Nat} (h : t < 2 ^ 31) : nI t - nI t / 9 * 9 = nI (t % 9) := by
  rw [show (9 : Int32) = nI 9 from by decide, fb_div h (by decide), fb_mul, fb_sub (by omega)]
  congr 1
  omega
theorem fb_mod14 {t : Nat} (h : t < 2 ^ 31) : nI t - nI t / 14 * 14 = nI (t % 14) := by
  rw [show (14 : Int32) = nI 14 from by decide, fb_div h (by decide), fb_mul, fb_sub (by omega)]
  congr 1
  omega
theorem fb_div14 {t : Nat} (h : t < 2 ^ 31) : nI t / 14 = nI (t / 14) := by
  rw [show (14 : Int32) = nI 14 from by decide, fb_div h (by decide)]
theorem fb_d14 {t : Nat} (h : t < 196) : vp_in (nI t / 14) 14 := by
  rw [fb_div14 (by omega)]
  exact vp_in_nI (by omega) (by decide)
theorem fb_r14 {t : Nat} (h : t < 196) : vp_in (nI t - nI t / 14 * 14) 14 := by
  rw [fb_mod14 (by omega)]
  exact vp_in_nI (by omega) (by decide)
theorem fb_rin {z : Int32} {T q : Nat} (hz : z = nI T) (hT : T < 2 ^ 31) (hq : q < 196) : vp_in ((z - z / 9 * 9) * 196 + nI q) 1764 := by
  rw [hz, fb_mod9 hT, show (196 : Int32) = nI 196 from by decide, fb_mul, nI_add]
  exact vp_in_nI (by omega) (by decide)
theorem fb_pin {fl fr T : Nat} {m : fb_S} {u v : Int32} (_hfr : fr ≤ 100) (hT : T ≤ 30000) (h : fb_okM fl fr T m) (hd : ¬ m 4 0 ≤ m 0 0) (hu : vp_in u 14) (hv : vp_in v 14) : vp_in (((m 4 0 - m 0 0) - (m 4 0 - m 0 0) / 9 * 9) * 196 + 14 * u + v) 1764 := by
  obtain ⟨a, ha, rfl⟩ := vp_in_of hu (by decide)
  obtain ⟨b, hb, rfl⟩ := vp_in_of hv (by decide)
  have h4 : m 4 0 = nI T := h 4 0 rfl
  obtain ⟨d, hd8, ed⟩ := nI_of2 (x := m 0 0) (M := 8) (n := 8) (by decide) (fb_pos1 (h 0 0).1) (h 0 0).2
  rw [h4, ed] at hd ⊢
  have hdT : d ≤ T := by
    rcases Nat.lt_or_ge d T with q | q
    · omega
    · exact absurd (nI_le q (by omega)) hd
  rw [fb_sub hdT, fb_mod9 (by omega), show (196 : Int32) = nI 196 from by decide, show (14 : Int32) = nI 14 from by decide, fb_mul, fb_mul, nI_add, nI_add]
  exact vp_in_nI (by omega) (by decide)
theorem fb_less64T : ∀ r, r < 65 → ∀ a, a < 65 → nI r - nI r * nI a / 128 ≤ 64 := by decide +kernel
theorem fb_less64 {r a : Int32} (hr : 1 ≤ r ∧ r ≤ 64) (ha : 0 ≤ a ∧ a ≤ 64) : r - r * a / 128 ≤ 64 := by
  obtain ⟨j, hj, rfl⟩ := fb_to64 (fb_pos1 hr.1) hr.2
  obtain ⟨b, hb, rfl⟩ := fb_to64 (fb_pos0 ha.1) ha.2
  exact fb_less64T j (by omega) b (by omega)
theorem fb_okM_T {fl fr T : Nat} {m : fb_S} (h : fb_okM fl fr T m) : fb_okM fl fr (T + 1) (fb_up m 4 0 (m 4 0 + 1)) := by
  have h4 : m 4 0 = nI T := h 4 0 rfl
  intro F j
  by_cases hF : F = 4
  · subst hF
    intro hj
    subst hj
    rw [fb_up_same, h4, nI_1]
  · rw [fb_up_F m 0 j _ hF]
    have h1 := h F j
    unfold fb_rM at h1 ⊢
    split <;> first | exact absurd rfl hF | exact trivial | exact h1
theorem fb_okM_fl {fl fr T : Nat} {m : fb_S} (h : fb_okM fl fr T m) (hfl : fl < 12) (h10 : m 10 fl = 64) (h11 : m 11 fl = 64) (h12 : m 12 fl = 64) : fb_okM (fl + 1) fr T (fb_up m 6 0 (m 6 0 + 1)) := by
  have h6 : m 6 0 = nI fl := h 6 0 rfl
  have a64 : (1 : Int32) ≤ 64 ∧ (64 : Int32) ≤ 64 := ⟨by decide, by decide⟩
  have b64 : (0 : Int32) ≤ 64 ∧ (64 : Int32) ≤ 64 := ⟨by decide, by decide⟩
  intro F j
  by_cases hF : F = 6
  · subst hF
    intro hj
    subst hj
    rw [fb_up_same, h6, nI_1]
  · rw [fb_up_F m 0 j _ hF]
    have h1 := h F j
    unfold fb_rM at h1 ⊢
    split
    all_goals first
      | exact absurd rfl hF
      | exact trivial
      | exact h1
      | (intro hj
         rcases Nat.lt_or_ge j fl with q | q
         · exact h1 q
         · have e : j = fl := by omega
           subst e
           first | (rw [h10]; exact a64) | (rw [h11]; exact a64) | (rw [h12]; exact b64))
      | exact ⟨h1.1, fun q => fb_vle (h1.2 q) (by omega)⟩
theorem fb_okM_fr {fl fr T : Nat} {m : fb_S} (h : fb_okM fl fr T m) (_hfr : fr < 100) (h16 : vp_in (m 16 fr) fl) (h17 : 1 ≤ m 17 fr ∧ m 17 fr ≤ 4) : fb_okM fl (fr + 1) T (fb_up m 15 0 (m 15 0 + 1)) := by
  have h15 : m 15 0 = nI fr := h 15 0 rfl
  intro F j
  by_cases hF : F = 15
  · subst hF
    intro hj
    subst hj
    rw [fb_up_same, h15, nI_1]
  · rw [fb_up_F m 0 j _ hF]
    have h1 := h F j
    unfold fb_rM at h1 ⊢
    split
    all_goals first
      | exact absurd rfl hF
      | exact trivial
      | exact h1
      | (intro hj
         rcases Nat.lt_or_ge j fr with q | q
         · exact h1 q
         · have e : j = fr := by omega
           subst e
           exact h17)
      | (refine ⟨h1.1, fun hj => ?_⟩
         rcases Nat.lt_or_ge j fr with q | q
         · exact h1.2 q
         · have e : j = fr := by omega
           subst e
           exact h16)
end
section
/-! worlds side by side -/
theorem fb_Pl {D : va_G} {cl : List vw_C} {a b : va_W} {H : Heap} (h : va_P D cl (a ++ b) H) : va_P D cl a H := fun k q hk => h k q (by rw [List.getElem?_append_left (List.getElem?_eq_some_iff.mp hk).1]; exact hk)
theorem fb_Pr {D : va_G} {cl : List vw_C} {a b : va_W} {H : Heap} (h : va_P D cl (a ++ b) H) : va_P D cl b H := fun k q hk => h (a.length + k) q (by rw [List.getElem?_append_right (by omega), Nat.add_sub_cancel_left]; exact hk)
theorem fb_Dl {A : Nat → Prop} {a b : va_W} (h : va_D A (a ++ b)) : va_D A a := by
  have up : ∀ (k : Nat) (q : Nat × va_E), a[k]? = some q → (a ++ b)[k]? = some q := fun k q hk => by
    rw [List.getElem?_append_left (List.getElem?_eq_some_iff.mp hk).1]; exact hk
  exact ⟨fun i j p q hi hj e => h.1 i j p q (up i p hi) (up j q hj) e, fun k q hk => h.2 k q (up k q hk)⟩
theorem fb_Dr {A : Nat → Prop} {a b : va_W} (h : va_D A (a ++ b)) : va_D A b := by
  have up : ∀ (k : Nat) (q : Nat × va_E), b[k]? = some q → (a ++ b)[a.length + k]? = some q := fun k q hk => by
    rw [List.getElem?_append_right (by omega), Nat.add_sub_cancel_left]; exact hk
  exact ⟨fun i j p q hi hj e => by have := h.1 _ _ p q (up i p hi) (up j q hj) e; omega, fun k q hk => h.2 _ q (up k q hk)⟩
/-- no address of the one is an address of the other -/
theorem fb_Dn {A : Nat → Prop} {a b : va_W} (h : va_D A (a ++ b)) {i j : Nat} {p q : Nat × va_E} (hi : a[i]? = some p) (hj : b[j]? = some q) : p.1 ≠ q.1 := by
  intro e
  have hl := (List.getElem?_eq_some_iff.mp hi).1
  have h1 : (a ++ b)[i]? = some p := by rw [List.getElem?_append_left hl]; exact hi
  have h2 : (a ++ b)[a.length + j]? = some q := by rw [List.getElem?_append_right (by omega), Nat.add_sub_cancel_left]; exact hj
  have := h.1 _ _ p q h1 h2 e
  omega
theorem fb_Dapp {A : Nat → Prop} {a b : va_W} (ha : va_D A a) (hb : va_D A b) (hn : ∀ (i j : Nat) (p q : Nat × va_E), a[i]? = some p → b[j]? = some q → p.1 ≠ q.1) : va_D A (a ++ b) := by
  have cs : ∀ (k : Nat) (q : Nat × va_E), (a ++ b)[k]? = some q → (k < a.length ∧ a[k]? = some q) ∨ (a.length ≤ k ∧ b[k - a.length]? = some q) := fun k q hk => by
    by_cases hl : k < a.length
    · rw [List.getElem?_append_left hl] at hk; exact Or.inl ⟨hl, hk⟩
    · rw [List.getElem?_append_right (by omega)] at hk; exact Or.inr ⟨by omega, hk⟩
  refine ⟨fun i j p q hi hj e => ?_, fun k q hk => ?_⟩
  · rcases cs i p hi with ⟨i1, i2⟩ | ⟨i1, i2⟩ <;> rcases cs j q hj with ⟨j1, j2⟩ | ⟨j1, j2⟩
    · exact ha.1 i j p q i2 j2 e
    · exact absurd e (hn _ _ p q i2 j2)
    · exact absurd e.symm (hn _ _ q p j2 i2)
    · have := hb.1 _ _ p q i2 j2 e
      omega
  · rcases cs k q hk with ⟨_, k2⟩ | ⟨_, k2⟩
    · exact ha.2 _ q k2
    · exact hb.2 _ q k2
theorem fb_Papp {D : va_G} {cl : List vw_C} {a b : va_W} {H : Heap} (ha : va_P D cl a H) (hb : va_P D cl b H) : va_P D cl (a ++ b) H := fun k q hk => by
  by_cases hl : k < a.length
  · rw [List.getElem?_append_left hl] at hk; exact ha k q hk
  · rw [List.getElem?_append_right (by omega)] at hk; exact hb _ q hk
/-- behind a call that worked on wc: the rest is as it was -/
theorem fb_join {A B : Nat → Prop} {D : va_G} {cl : List vw_C} {wr wc w1 : va_W} {H H1 : Heap} (hP : va_P D cl (wr ++ wc) H) (hD : va_D A (wr ++ wc)) (hF : ∀ q, B q → A q) (hB : ∀ q, B q → (∃ (k : Nat) (x : va_E), wc[k]? = some (q, x)) ∨ H.size ≤ q)
    (hk : ∀ q : Nat, q < H.size → ¬ B q → H1[q]? = H[q]?) (hP1 : va_P D cl w1 H1) (hD1 : va_D B w1) : va_P D cl (wr ++ w1) H1 ∧ va_D A (wr ++ w1) := by
  have hPr := fb_Pl hP
  have hnB : ∀ (k : Nat) (x : Nat × va_E), wr[k]? = some x → ¬ B x.1 := fun k x hx hb => by
    rcases hB x.1 hb with ⟨k', e', h'⟩ | h'
    · exact fb_Dn hD hx h' rfl
    · have := (hPr k x hx).lt
      omega
  have hPr1 : va_P D cl wr H1 := hPr.kept (fun k x hx => hk x.1 ((hPr k x hx).lt) (hnB k x hx))
  refine ⟨fb_Papp hPr1 hP1, fb_Dapp (fb_Dl hD) (hD1.weaken (fun _ _ _ h => hF _ h)) (fun i j p q hi hj e => ?_)⟩
  exact hnB i p hi (e ▸ hD1.2 j q hj)
theorem fb_Bof {ad : Nat → Nat → Nat} {LL : fb_L} {cn : fb_C} {st : fb_S} {sz : Nat} : ∀ q, fb_A ad LL sz q → (∃ (k : Nat) (x : va_E), (fb_wl cn ad st LL)[k]? = some (q, x)) ∨ sz ≤ q := by
  rintro q (⟨x, hx, rfl⟩ | h)
  · obtain ⟨q0, -, h0⟩ := fb_get (cn := cn) (ad := ad) (st := st) (LL := LL) (k := x.1) (i := x.2) hx
    exact Or.inl ⟨q0, _, h0⟩
  · exact Or.inr h
end
section
/-! calls from a world that holds more than the callee's side; refs into arrays -/
theorem fb_Psw {D : va_G} {cl : List vw_C} {a b : va_W} {H : Heap} (h : va_P D cl (a ++ b) H) : va_P D cl (b ++ a) H := fb_Papp (fb_Pr h) (fb_Pl h)
theorem fb_Dsw {A : Nat → Prop} {a b : va_W} (h : va_D A (a ++ b)) : va_D A (b ++ a) := fb_Dapp (fb_Dr h) (fb_Dl h) (fun _ _ _ _ hi hj e => fb_Dn h hj hi e.symm)
section FBV
variable {p : Program} {l : Launch} {e : Env} {R : Room} {s : State} {m : MethodId} {args : Array Value} {below : List Frame} {meth : Method} {c : Code} {H : Heap} {locs : List Loc} {cells slots : Nat} {Q : State → Prop}
variable {cc bytes : ByteArray} {pc nL maxL n index b : Nat} {ls : Array Slot} {rest st0 As : List Value} {D : va_G} {cl : List vw_C} {tys : List (ClassId × FieldType)} {H0 : Heap} {cn : fb_C} {ad : Nat → Nat → Nat} {st : fb_S} {LL : fb_L} {A : Nat → Prop} {wr : va_W}
variable {Ts ws : List Cond} {own C : String} {y : MethodName} {rm : Room} {ret : Option FieldType}
theorem pw_ViX {post : Int32 → fb_S → Prop} (S : CallFix p m c cc nL s args Ts own) (hM : fb_Mi l y ws rm cn D cl tys ad LL st (.ref b :: As) post) (cw : CallW R s args own C index y bytes maxL ret ws rm 0 0 n) (hK : va_K D cl tys s) (hP : va_P D cl (wr ++ fb_wl cn ad st LL) H) (hD : va_D A (wr ++ fb_wl cn ad st LL)) (hS : va_S A H0 H locs) (hAA : ∀ q, fb_A ad LL H.size q → A q)
    (hrecv : ∃ cellB : Cell, H[b]? = some cellB ∧ cellB.vm.isStatics = false ∧ s.vm.findClass C = some cellB.cls) (hn : As.length = n) (hsz : ls.size = nL) (hst : st0 = As.reverse ++ .ref b :: rest) (hW : 2 * (F0 m pc ls st0).monitorRoom + (rest.map fun v => v.category).sum ≤ 8) (hdg : decode cc pc = .ok (.invokevirtual index, 3)) (hf : cells ≤ R.cells ∧ slots ≤ R.slots)
    (kk : ∀ (r : Int32) (st1 : fb_S) (H1 : Heap) (locs1 : List Loc), post r st1 → va_P D cl (wr ++ fb_wl cn ad st1 LL) H1 → va_D A (wr ++ fb_wl cn ad st1 LL) → va_S A H0 H1 locs1 → H.size ≤ H1.size → W p l e R s m args below meth c H1 locs1 cells slots Q (F0 m (pc + 3) ls (.int r :: rest))) : W p l e R s m args below meth c H locs cells slots Q (F0 m pc ls st0) := by
  refine va_calli (va_runV S (hM H.size) cw ⟨fb_blind, hrecv, fun U hU hW => ⟨rfl, by rw [hU], by rw [hU]; exact fb_Pr hP, va_K.moved hW.alike hK, (fb_Dr hD).weaken (fun _ _ _ _ => trivial)⟩⟩ rfl hn hsz hst hW hdg hf) hS (fun q _ h => hAA q h) hAA (fun r u t H1 locs1 ht hvm hp hB hz hk hS1 => ?_)
  obtain ⟨hP1, -, hD1⟩ := hB
  rw [ht] at hP1
  obtain ⟨h1, h2⟩ := fb_join hP hD hAA fb_Bof hk hP1 hD1
  exact kk r u H1 locs1 hp h1 h2 hS1 hz
theorem pw_VqX {post : Option Nat → fb_S → Prop} (S : CallFix p m c cc nL s args Ts own) (hM : fb_Mq l y ws rm cn D cl tys ad LL st (.ref b :: As) post) (cw : CallW R s args own C index y bytes maxL ret ws rm 0 0 n) (hK : va_K D cl tys s) (hP : va_P D cl (wr ++ fb_wl cn ad st LL) H) (hD : va_D A (wr ++ fb_wl cn ad st LL)) (hS : va_S A H0 H locs) (hAA : ∀ q, fb_A ad LL H.size q → A q)
    (hrecv : ∃ cellB : Cell, H[b]? = some cellB ∧ cellB.vm.isStatics = false ∧ s.vm.findClass C = some cellB.cls) (hn : As.length = n) (hsz : ls.size = nL) (hst : st0 = As.reverse ++ .ref b :: rest) (hW : 2 * (F0 m pc ls st0).monitorRoom + (rest.map fun v => v.category).sum ≤ 8) (hdg : decode cc pc = .ok (.invokevirtual index, 3)) (hf : cells ≤ R.cells ∧ slots ≤ R.slots)
    (kk : ∀ (r : Option Nat) (st1 : fb_S) (H1 : Heap) (locs1 : List Loc), post r st1 → va_P D cl (wr ++ fb_wl cn ad st1 LL) H1 → va_D A (wr ++ fb_wl cn ad st1 LL) → va_S A H0 H1 locs1 → H.size ≤ H1.size → W p l e R s m args below meth c H1 locs1 cells slots Q (F0 m (pc + 3) ls (va_rf r :: rest))) : W p l e R s m args below meth c H locs cells slots Q (F0 m pc ls st0) := by
  refine va_callq (va_runV S (hM H.size) cw ⟨fb_blind, hrecv, fun U hU hW => ⟨rfl, by rw [hU], by rw [hU]; exact fb_Pr hP, va_K.moved hW.alike hK, (fb_Dr hD).weaken (fun _ _ _ _ => trivial)⟩⟩ rfl hn hsz hst hW hdg hf) hS (fun q _ h => hAA q h) hAA (fun r u t H1 locs1 ht hvm hp hB hz hk hS1 => ?_)
  obtain ⟨hP1, -, hD1⟩ := hB
  rw [ht] at hP1
  obtain ⟨h1, h2⟩ := fb_join hP hD hAA fb_Bof hk hP1 hD1
  exact kk r u H1 locs1 hp h1 h2 hS1 hz
theorem pw_SiX2 {post : Int32 → fb_S → Prop} (S : CallFix p m c cc nL s args Ts own) (hM : fb_Mi l y ws rm cn D cl tys ad LL st As post) (cw : CallB R s args own index y bytes maxL ret ws rm 0 0 n ∧ (Cond.static y).before args s = true) (hK : va_K D cl tys s) (hP : va_P D cl (wr ++ fb_wl cn ad st LL) H) (hD : va_D A (wr ++ fb_wl cn ad st LL)) (hS : va_S A H0 H locs) (hAA : ∀ q, fb_A ad LL H.size q → A q)
    (hn : As.length = n) (hsz : ls.size = nL) (hst : st0 = As.reverse ++ rest) (hW : 2 * (F0 m pc ls st0).monitorRoom + (rest.map fun v => v.category).sum ≤ 8) (hdg : decode cc pc = .ok (.invokestatic index, 3)) (hf : cells ≤ R.cells ∧ slots ≤ R.slots)
    (kk : ∀ (r : Int32) (st1 : fb_S) (H1 : Heap) (locs1 : List Loc), post r st1 → va_P D cl (wr ++ fb_wl cn ad st1 LL) H1 → va_D A (wr ++ fb_wl cn ad st1 LL) → va_S A H0 H1 locs1 → H.size ≤ H1.size → W p l e R s m args below meth c H1 locs1 cells slots Q (F0 m (pc + 3) ls (.int r :: rest))) : W p l e R s m args below meth c H locs cells slots Q (F0 m pc ls st0) := by
  refine va_calli (va_runS S (hM H.size) cw ⟨fb_blind, fun U hU hW => ⟨rfl, by rw [hU], by rw [hU]; exact fb_Pr hP, va_K.moved hW.alike hK, (fb_Dr hD).weaken (fun _ _ _ _ => trivial)⟩⟩ rfl hn hsz hst hW hdg hf) hS (fun q _ h => hAA q h) hAA (fun r u t H1 locs1 ht hvm hp hB hz hk hS1 => ?_)
  obtain ⟨hP1, -, hD1⟩ := hB
  rw [ht] at hP1
  obtain ⟨h1, h2⟩ := fb_join hP hD hAA fb_Bof hk hP1 hD1
  exact kk r u H1 locs1 hp h1 h2 hS1 hz
/-- a port, or null, into an array of ports that stands ahead of the side's world -/
theorem pw_astO {cA : Nat → ClassId} {fl fr a N : Nat} {f : Nat → Option Nat} {z : Int32} (hexec : p.tables.exec = Jvm.exec) (hb : c.code = cc) (hK : va_K D fb_cl (fb_tys cA) s) (hL : fb_lvC LL fl fr) (hP : va_P D fb_cl ((a, .inl (cA 1, N, .inr (.inr (.inr (.inr f))))) :: fb_wl (fb_cC cA) ad st LL) H) (hD : va_D A ((a, .inl (cA 1, N, .inr (.inr (.inr (.inr f))))) :: fb_wl (fb_cC cA) ad st LL)) (hS : va_S A H0 H locs) (hz : fb_rg 32 z) {i : Int32} (hin : vp_in i N) (hdg : decode cc pc = .ok (.aastore, 1))
    (kk : ∀ (H1 : Heap) (locs1 : List Loc), va_P D fb_cl ((a, .inl (cA 1, N, .inr (.inr (.inr (.inr (va_up f i.toNatClampNeg (fb_ro (ad 5) z))))))) :: fb_wl (fb_cC cA) ad st LL) H1 → va_D A ((a, .inl (cA 1, N, .inr (.inr (.inr (.inr (va_up f i.toNatClampNeg (fb_ro (ad 5) z))))))) :: fb_wl (fb_cC cA) ad st LL) → va_S A H0 H1 locs1 → W p l e R s m args below meth c H1 locs1 cells slots Q (F0 m (pc + 1) ls rest)) : W p l e R s m args below meth c H locs cells slots Q (F0 m pc ls (va_rf (fb_ro (ad 5) z) :: .int i :: .ref a :: rest)) := by
  by_cases h : z < 0
  · rw [fb_ro_n h] at kk ⊢
    exact va_astqN hexec hb hK hP hD hS 0 1 rfl rfl hin hdg kk
  · rw [fb_ro_s h] at kk ⊢
    obtain ⟨q0, -, hq⟩ := fb_get (cn := fb_cC cA) (ad := ad) (st := st) ((hL.2.2.1 _ (fb_rl hz h)).1)
    exact va_astq hexec hb hK hP hD hS 0 1 (q0 + 1) 1 rfl rfl (show ((a, _) :: fb_wl (fb_cC cA) ad st LL)[q0 + 1]? = _ from by rw [List.getElem?_cons_succ]; exact hq) rfl hin hdg kk
end FBV
end
section
theorem zd_X_init_0 : decode zb_X_init 0 = .ok (.aload_n 0, 1) := by decide +kernel
theorem zd_X_init_1 : decode zb_X_init 1 = .ok (.invokespecial 1, 3) := by decide +kernel
theorem zd_X_init_4 : decode zb_X_init 4 = .ok (.aload_n 0, 1) := by decide +kernel
theorem zd_X_init_5 : decode zb_X_init 5 = .ok (.iconst 2, 1) := by decide +kernel
theorem zd_X_init_6 : decode zb_X_init 6 = .ok (.newarray .int, 2) := by decide +kernel
theorem zd_X_init_8 : decode zb_X_init 8 = .ok (.dup, 1) := by decide +kernel
theorem zd_X_init_9 : decode zb_X_init 9 = .ok (.iconst 0, 1) := by decide +kernel
theorem zd_X_init_10 : decode zb_X_init 10 = .ok (.iconst 1, 1) := by decide +kernel
theorem zd_X_init_11 : decode zb_X_init 11 = .ok (.iastore, 1) := by decide +kernel
theorem zd_X_init_12 : decode zb_X_init 12 = .ok (.dup, 1) := by decide +kernel
theorem zd_X_init_13 : decode zb_X_init 13 = .ok (.iconst 1, 1) := by decide +kernel
theorem zd_X_init_14 : decode zb_X_init 14 = .ok (.iconst 1, 1) := by decide +kernel
theorem zd_X_init_15 : decode zb_X_init 15 = .ok (.iastore, 1) := by decide +kernel
theorem zd_X_init_16 : decode zb_X_init 16 = .ok (.putfield 7, 3) := by decide +kernel
theorem zd_X_init_19 : decode zb_X_init 19 = .ok (.aload_n 0, 1) := by decide +kernel
theorem zd_X_init_20 : decode zb_X_init 20 = .ok (.invokestatic 13, 3) := by decide +kernel
theorem zd_X_init_23 : decode zb_X_init 23 = .ok (.putfield 17, 3) := by decide +kernel
theorem zd_X_init_26 : decode zb_X_init 26 = .ok (.aload_n 0, 1) := by decide +kernel
theorem zd_X_init_27 : decode zb_X_init 27 = .ok (.bipush 12, 2) := by decide +kernel
theorem zd_X_init_29 : decode zb_X_init 29 = .ok (.anewarray 21, 3) := by decide +kernel
theorem zd_X_init_32 : decode zb_X_init 32 = .ok (.putfield 23, 3) := by decide +kernel
theorem zd_X_init_35 : decode zb_X_init 35 = .ok (.aload_n 0, 1) := by decide +kernel
theorem zd_X_init_36 : decode zb_X_init 36 = .ok (.bipush 100, 2) := by decide +kernel
theorem zd_X_init_38 : decode zb_X_init 38 = .ok (.anewarray 27, 3) := by decide +kernel
theorem zd_X_init_41 : decode zb_X_init 41 = .ok (.putfield 29, 3) := by decide +kernel
theorem zd_X_init_44 : decode zb_X_init 44 = .ok (.aload_n 0, 1) := by decide +kernel
theorem zd_X_init_45 : decode zb_X_init 45 = .ok (.iconst 0, 1) := by decide +kernel
theorem zd_X_init_46 : decode zb_X_init 46 = .ok (.putfield 33, 3) := by decide +kernel
theorem zd_X_init_49 : decode zb_X_init 49 = .ok (.aload_n 0, 1) := by decide +kernel
theorem zd_X_init_50 : decode zb_X_init 50 = .ok (.iconst 0, 1) := by decide +kernel
theorem zd_X_init_51 : decode zb_X_init 51 = .ok (.putfield 37, 3) := by decide +kernel
theorem zd_X_init_54 : decode zb_X_init 54 = .ok (.aload_n 0, 1) := by decide +kernel
theorem zd_X_init_55 : decode zb_X_init 55 = .ok (.iconst 0, 1) := by decide +kernel
theorem zd_X_init_56 : decode zb_X_init 56 = .ok (.putfield 40, 3) := by decide +kernel
theorem zd_X_init_59 : decode zb_X_init 59 = .ok (.aload_n 0, 1) := by decide +kernel
theorem zd_X_init_60 : decode zb_X_init 60 = .ok (.iload_n 1, 1) := by decide +kernel
theorem zd_X_init_61 : decode zb_X_init 61 = .ok (.iconst 1, 1) := by decide +kernel
theorem zd_X_init_62 : decode zb_X_init 62 = .ok (.bipush 8, 2) := by decide +kernel
theorem zd_X_init_64 : decode zb_X_init 64 = .ok (.invokestatic 43, 3) := by decide +kernel
theorem zd_X_init_67 : decode zb_X_init 67 = .ok (.putfield 47, 3) := by decide +kernel
theorem zd_X_init_70 : decode zb_X_init 70 = .ok (.aload_n 0, 1) := by decide +kernel
theorem zd_X_init_71 : decode zb_X_init 71 = .ok (.iload_n 2, 1) := by decide +kernel
theorem zd_X_init_72 : decode zb_X_init 72 = .ok (.iconst 4, 1) := by decide +kernel
theorem zd_X_init_73 : decode zb_X_init 73 = .ok (.bipush 40, 2) := by decide +kernel
theorem zd_X_init_75 : decode zb_X_init 75 = .ok (.invokestatic 43, 3) := by decide +kernel
theorem zd_X_init_78 : decode zb_X_init 78 = .ok (.putfield 50, 3) := by decide +kernel
theorem zd_X_init_81 : decode zb_X_init 81 = .ok (.aload_n 0, 1) := by decide +kernel
theorem zd_X_init_82 : decode zb_X_init 82 = .ok (.iload_n 3, 1) := by decide +kernel
theorem zd_X_init_83 : decode zb_X_init 83 = .ok (.iconst 0, 1) := by decide +kernel
theorem zd_X_init_84 : decode zb_X_init 84 = .ok (.bipush 40, 2) := by decide +kernel
theorem zd_X_init_86 : decode zb_X_init 86 = .ok (.invokestatic 43, 3) := by decide +kernel
theorem zd_X_init_89 : decode zb_X_init 89 = .ok (.putfield 53, 3) := by decide +kernel
theorem zd_X_init_92 : decode zb_X_init 92 = .ok (.aload_n 0, 1) := by decide +kernel
theorem zd_X_init_93 : decode zb_X_init 93 = .ok (.iload 4, 2) := by decide +kernel
theorem zd_X_init_95 : decode zb_X_init 95 = .ok (.iconst 1, 1) := by decide +kernel
theorem zd_X_init_96 : decode zb_X_init 96 = .ok (.bipush 40, 2) := by decide +kernel
theorem zd_X_init_98 : decode zb_X_init 98 = .ok (.invokestatic 43, 3) := by decide +kernel
theorem zd_X_init_101 : decode zb_X_init 101 = .ok (.putfield 56, 3) := by decide +kernel
theorem zd_X_init_104 : decode zb_X_init 104 = .ok (.return_, 1) := by decide +kernel
theorem zd_X_makePorts_0 : decode zb_X_makePorts 0 = .ok (.bipush 32, 2) := by decide +kernel
theorem zd_X_makePorts_2 : decode zb_X_makePorts 2 = .ok (.anewarray 107, 3) := by decide +kernel
theorem zd_X_makePorts_5 : decode zb_X_makePorts 5 = .ok (.astore_n 0, 1) := by decide +kernel
theorem zd_X_makePorts_6 : decode zb_X_makePorts 6 = .ok (.iconst 0, 1) := by decide +kernel
theorem zd_X_makePorts_7 : decode zb_X_makePorts 7 = .ok (.istore_n 1, 1) := by decide +kernel
theorem zd_X_makePorts_8 : decode zb_X_makePorts 8 = .ok (.iconst 0, 1) := by decide +kernel
theorem zd_X_makePorts_9 : decode zb_X_makePorts 9 = .ok (.istore_n 2, 1) := by decide +kernel
theorem zd_X_makePorts_10 : decode zb_X_makePorts 10 = .ok (.iload_n 2, 1) := by decide +kernel
theorem zd_X_makePorts_11 : decode zb_X_makePorts 11 = .ok (.bipush 14, 2) := by decide +kernel
theorem zd_X_makePorts_13 : decode zb_X_makePorts 13 = .ok (.if_icmp .ge 52, 3) := by decide +kernel
theorem zd_X_makePorts_16 : decode zb_X_makePorts 16 = .ok (.iconst 0, 1) := by decide +kernel
theorem zd_X_makePorts_17 : decode zb_X_makePorts 17 = .ok (.istore_n 3, 1) := by decide +kernel
theorem zd_X_makePorts_18 : decode zb_X_makePorts 18 = .ok (.iload_n 3, 1) := by decide +kernel
theorem zd_X_makePorts_19 : decode zb_X_makePorts 19 = .ok (.bipush 14, 2) := by decide +kernel
theorem zd_X_makePorts_21 : decode zb_X_makePorts 21 = .ok (.if_icmp .ge 38, 3) := by decide +kernel
theorem zd_X_makePorts_24 : decode zb_X_makePorts 24 = .ok (.iload_n 3, 1) := by decide +kernel
theorem zd_X_makePorts_25 : decode zb_X_makePorts 25 = .ok (.iload_n 2, 1) := by decide +kernel
theorem zd_X_makePorts_26 : decode zb_X_makePorts 26 = .ok (.invokestatic 154, 3) := by decide +kernel
theorem zd_X_makePorts_29 : decode zb_X_makePorts 29 = .ok (.ifCond .eq 24, 3) := by decide +kernel
theorem zd_X_makePorts_32 : decode zb_X_makePorts 32 = .ok (.iload_n 1, 1) := by decide +kernel
theorem zd_X_makePorts_33 : decode zb_X_makePorts 33 = .ok (.bipush 32, 2) := by decide +kernel
theorem zd_X_makePorts_35 : decode zb_X_makePorts 35 = .ok (.if_icmp .ge 18, 3) := by decide +kernel
theorem zd_X_makePorts_38 : decode zb_X_makePorts 38 = .ok (.aload_n 0, 1) := by decide +kernel
theorem zd_X_makePorts_39 : decode zb_X_makePorts 39 = .ok (.iload_n 1, 1) := by decide +kernel
theorem zd_X_makePorts_40 : decode zb_X_makePorts 40 = .ok (.new 107, 3) := by decide +kernel
theorem zd_X_makePorts_43 : decode zb_X_makePorts 43 = .ok (.dup, 1) := by decide +kernel
theorem zd_X_makePorts_44 : decode zb_X_makePorts 44 = .ok (.iload_n 3, 1) := by decide +kernel
theorem zd_X_makePorts_45 : decode zb_X_makePorts 45 = .ok (.iload_n 2, 1) := by decide +kernel
theorem zd_X_makePorts_46 : decode zb_X_makePorts 46 = .ok (.invokespecial 158, 3) := by decide +kernel
theorem zd_X_makePorts_49 : decode zb_X_makePorts 49 = .ok (.aastore, 1) := by decide +kernel
theorem zd_X_makePorts_50 : decode zb_X_makePorts 50 = .ok (.iinc 1 1, 3) := by decide +kernel
theorem zd_X_makePorts_53 : decode zb_X_makePorts 53 = .ok (.iinc 3 1, 3) := by decide +kernel
theorem zd_X_makePorts_56 : decode zb_X_makePorts 56 = .ok (.goto (-38), 3) := by decide +kernel
theorem zd_X_makePorts_59 : decode zb_X_makePorts 59 = .ok (.iinc 2 1, 3) := by decide +kernel
theorem zd_X_makePorts_62 : decode zb_X_makePorts 62 = .ok (.goto (-52), 3) := by decide +kernel
theorem zd_X_makePorts_65 : decode zb_X_makePorts 65 = .ok (.aload_n 0, 1) := by decide +kernel
theorem zd_X_makePorts_66 : decode zb_X_makePorts 66 = .ok (.areturn, 1) := by decide +kernel
theorem zd_X_areLinked_0 : decode zb_X_areLinked 0 = .ok (.iload_n 0, 1) := by decide +kernel
theorem zd_X_areLinked_1 : decode zb_X_areLinked 1 = .ok (.iload_n 1, 1) := by decide +kernel
theorem zd_X_areLinked_2 : decode zb_X_areLinked 2 = .ok (.invokestatic 141, 3) := by decide +kernel
theorem zd_X_areLinked_5 : decode zb_X_areLinked 5 = .ok (.istore_n 2, 1) := by decide +kernel
theorem zd_X_areLinked_6 : decode zb_X_areLinked 6 = .ok (.iload_n 0, 1) := by decide +kernel
theorem zd_X_areLinked_7 : decode zb_X_areLinked 7 = .ok (.iload_n 1, 1) := by decide +kernel
theorem zd_X_areLinked_8 : decode zb_X_areLinked 8 = .ok (.invokestatic 147, 3) := by decide +kernel
theorem zd_X_areLinked_11 : decode zb_X_areLinked 11 = .ok (.istore_n 3, 1) := by decide +kernel
theorem zd_X_areLinked_12 : decode zb_X_areLinked 12 = .ok (.iload_n 2, 1) := by decide +kernel
theorem zd_X_areLinked_13 : decode zb_X_areLinked 13 = .ok (.invokestatic 59, 3) := by decide +kernel
theorem zd_X_areLinked_16 : decode zb_X_areLinked 16 = .ok (.ifCond .eq 19, 3) := by decide +kernel
theorem zd_X_areLinked_19 : decode zb_X_areLinked 19 = .ok (.iload_n 3, 1) := by decide +kernel
theorem zd_X_areLinked_20 : decode zb_X_areLinked 20 = .ok (.iload_n 2, 1) := by decide +kernel
theorem zd_X_areLinked_21 : decode zb_X_areLinked 21 = .ok (.invokestatic 150, 3) := by decide +kernel
theorem zd_X_areLinked_24 : decode zb_X_areLinked 24 = .ok (.if_icmp .ne 7, 3) := by decide +kernel
theorem zd_X_areLinked_27 : decode zb_X_areLinked 27 = .ok (.iconst 1, 1) := by decide +kernel
theorem zd_X_areLinked_28 : decode zb_X_areLinked 28 = .ok (.goto 24, 3) := by decide +kernel
theorem zd_X_areLinked_31 : decode zb_X_areLinked 31 = .ok (.iconst 0, 1) := by decide +kernel
theorem zd_X_areLinked_32 : decode zb_X_areLinked 32 = .ok (.goto 20, 3) := by decide +kernel
theorem zd_X_areLinked_35 : decode zb_X_areLinked 35 = .ok (.iload_n 2, 1) := by decide +kernel
theorem zd_X_areLinked_36 : decode zb_X_areLinked 36 = .ok (.bipush 12, 2) := by decide +kernel
theorem zd_X_areLinked_38 : decode zb_X_areLinked 38 = .ok (.if_icmp .ge 13, 3) := by decide +kernel
theorem zd_X_areLinked_41 : decode zb_X_areLinked 41 = .ok (.iload_n 3, 1) := by decide +kernel
theorem zd_X_areLinked_42 : decode zb_X_areLinked 42 = .ok (.bipush 12, 2) := by decide +kernel
theorem zd_X_areLinked_44 : decode zb_X_areLinked 44 = .ok (.if_icmp .lt 7, 3) := by decide +kernel
theorem zd_X_areLinked_47 : decode zb_X_areLinked 47 = .ok (.iconst 1, 1) := by decide +kernel
theorem zd_X_areLinked_48 : decode zb_X_areLinked 48 = .ok (.goto 4, 3) := by decide +kernel
theorem zd_X_areLinked_51 : decode zb_X_areLinked 51 = .ok (.iconst 0, 1) := by decide +kernel
theorem zd_X_areLinked_52 : decode zb_X_areLinked 52 = .ok (.ireturn, 1) := by decide +kernel
theorem zd_X_isHost_0 : decode zb_X_isHost 0 = .ok (.iload_n 0, 1) := by decide +kernel
theorem zd_X_isHost_1 : decode zb_X_isHost 1 = .ok (.ifCond .lt 13, 3) := by decide +kernel
theorem zd_X_isHost_4 : decode zb_X_isHost 4 = .ok (.iload_n 0, 1) := by decide +kernel
theorem zd_X_isHost_5 : decode zb_X_isHost 5 = .ok (.bipush 8, 2) := by decide +kernel
theorem zd_X_isHost_7 : decode zb_X_isHost 7 = .ok (.if_icmp .ge 7, 3) := by decide +kernel
theorem zd_X_isHost_10 : decode zb_X_isHost 10 = .ok (.iconst 1, 1) := by decide +kernel
theorem zd_X_isHost_11 : decode zb_X_isHost 11 = .ok (.goto 4, 3) := by decide +kernel
theorem zd_X_isHost_14 : decode zb_X_isHost 14 = .ok (.iconst 0, 1) := by decide +kernel
theorem zd_X_isHost_15 : decode zb_X_isHost 15 = .ok (.ireturn, 1) := by decide +kernel
theorem zd_X_leafOf_0 : decode zb_X_leafOf 0 = .ok (.bipush 8, 2) := by decide +kernel
theorem zd_X_leafOf_2 : decode zb_X_leafOf 2 = .ok (.iload_n 0, 1) := by decide +kernel
theorem zd_X_leafOf_3 : decode zb_X_leafOf 3 = .ok (.iconst 2, 1) := by decide +kernel
theorem zd_X_leafOf_4 : decode zb_X_leafOf 4 = .ok (.idiv, 1) := by decide +kernel
theorem zd_X_leafOf_5 : decode zb_X_leafOf 5 = .ok (.iadd, 1) := by decide +kernel
theorem zd_X_leafOf_6 : decode zb_X_leafOf 6 = .ok (.ireturn, 1) := by decide +kernel
theorem zd_P_init_0 : decode zb_P_init 0 = .ok (.aload_n 0, 1) := by decide +kernel
theorem zd_P_init_1 : decode zb_P_init 1 = .ok (.invokespecial 1, 3) := by decide +kernel
theorem zd_P_init_4 : decode zb_P_init 4 = .ok (.aload_n 0, 1) := by decide +kernel
theorem zd_P_init_5 : decode zb_P_init 5 = .ok (.iconst 2, 1) := by decide +kernel
theorem zd_P_init_6 : decode zb_P_init 6 = .ok (.anewarray 7, 3) := by decide +kernel
theorem zd_P_init_9 : decode zb_P_init 9 = .ok (.dup, 1) := by decide +kernel
theorem zd_P_init_10 : decode zb_P_init 10 = .ok (.iconst 0, 1) := by decide +kernel
theorem zd_P_init_11 : decode zb_P_init 11 = .ok (.new 7, 3) := by decide +kernel
theorem zd_P_init_14 : decode zb_P_init 14 = .ok (.dup, 1) := by decide +kernel
theorem zd_P_init_15 : decode zb_P_init 15 = .ok (.invokespecial 9, 3) := by decide +kernel
theorem zd_P_init_18 : decode zb_P_init 18 = .ok (.aastore, 1) := by decide +kernel
theorem zd_P_init_19 : decode zb_P_init 19 = .ok (.dup, 1) := by decide +kernel
theorem zd_P_init_20 : decode zb_P_init 20 = .ok (.iconst 1, 1) := by decide +kernel
theorem zd_P_init_21 : decode zb_P_init 21 = .ok (.new 7, 3) := by decide +kernel
theorem zd_P_init_24 : decode zb_P_init 24 = .ok (.dup, 1) := by decide +kernel
theorem zd_P_init_25 : decode zb_P_init 25 = .ok (.invokespecial 9, 3) := by decide +kernel
theorem zd_P_init_28 : decode zb_P_init 28 = .ok (.aastore, 1) := by decide +kernel
theorem zd_P_init_29 : decode zb_P_init 29 = .ok (.putfield 10, 3) := by decide +kernel
theorem zd_P_init_32 : decode zb_P_init 32 = .ok (.aload_n 0, 1) := by decide +kernel
theorem zd_P_init_33 : decode zb_P_init 33 = .ok (.iconst 2, 1) := by decide +kernel
theorem zd_P_init_34 : decode zb_P_init 34 = .ok (.newarray .int, 2) := by decide +kernel
theorem zd_P_init_36 : decode zb_P_init 36 = .ok (.dup, 1) := by decide +kernel
theorem zd_P_init_37 : decode zb_P_init 37 = .ok (.iconst 0, 1) := by decide +kernel
theorem zd_P_init_38 : decode zb_P_init 38 = .ok (.iconst 0, 1) := by decide +kernel
theorem zd_P_init_39 : decode zb_P_init 39 = .ok (.iastore, 1) := by decide +kernel
theorem zd_P_init_40 : decode zb_P_init 40 = .ok (.dup, 1) := by decide +kernel
theorem zd_P_init_41 : decode zb_P_init 41 = .ok (.iconst 1, 1) := by decide +kernel
theorem zd_P_init_42 : decode zb_P_init 42 = .ok (.iconst 0, 1) := by decide +kernel
theorem zd_P_init_43 : decode zb_P_init 43 = .ok (.iastore, 1) := by decide +kernel
theorem zd_P_init_44 : decode zb_P_init 44 = .ok (.putfield 16, 3) := by decide +kernel
theorem zd_P_init_47 : decode zb_P_init 47 = .ok (.aload_n 0, 1) := by decide +kernel
theorem zd_P_init_48 : decode zb_P_init 48 = .ok (.iconst 0, 1) := by decide +kernel
theorem zd_P_init_49 : decode zb_P_init 49 = .ok (.putfield 20, 3) := by decide +kernel
theorem zd_P_init_52 : decode zb_P_init 52 = .ok (.aload_n 0, 1) := by decide +kernel
theorem zd_P_init_53 : decode zb_P_init 53 = .ok (.aconst_null, 1) := by decide +kernel
theorem zd_P_init_54 : decode zb_P_init 54 = .ok (.putfield 24, 3) := by decide +kernel
theorem zd_P_init_57 : decode zb_P_init 57 = .ok (.aload_n 0, 1) := by decide +kernel
theorem zd_P_init_58 : decode zb_P_init 58 = .ok (.new 7, 3) := by decide +kernel
theorem zd_P_init_61 : decode zb_P_init 61 = .ok (.dup, 1) := by decide +kernel
theorem zd_P_init_62 : decode zb_P_init 62 = .ok (.invokespecial 9, 3) := by decide +kernel
theorem zd_P_init_65 : decode zb_P_init 65 = .ok (.putfield 28, 3) := by decide +kernel
theorem zd_P_init_68 : decode zb_P_init 68 = .ok (.aload_n 0, 1) := by decide +kernel
theorem zd_P_init_69 : decode zb_P_init 69 = .ok (.iconst 2, 1) := by decide +kernel
theorem zd_P_init_70 : decode zb_P_init 70 = .ok (.newarray .int, 2) := by decide +kernel
theorem zd_P_init_72 : decode zb_P_init 72 = .ok (.dup, 1) := by decide +kernel
theorem zd_P_init_73 : decode zb_P_init 73 = .ok (.iconst 0, 1) := by decide +kernel
theorem zd_P_init_74 : decode zb_P_init 74 = .ok (.iconst 0, 1) := by decide +kernel
theorem zd_P_init_75 : decode zb_P_init 75 = .ok (.iastore, 1) := by decide +kernel
theorem zd_P_init_76 : decode zb_P_init 76 = .ok (.dup, 1) := by decide +kernel
theorem zd_P_init_77 : decode zb_P_init 77 = .ok (.iconst 1, 1) := by decide +kernel
theorem zd_P_init_78 : decode zb_P_init 78 = .ok (.iconst 0, 1) := by decide +kernel
theorem zd_P_init_79 : decode zb_P_init 79 = .ok (.iastore, 1) := by decide +kernel
theorem zd_P_init_80 : decode zb_P_init 80 = .ok (.putfield 32, 3) := by decide +kernel
theorem zd_P_init_83 : decode zb_P_init 83 = .ok (.aload_n 0, 1) := by decide +kernel
theorem zd_P_init_84 : decode zb_P_init 84 = .ok (.iconst 0, 1) := by decide +kernel
theorem zd_P_init_85 : decode zb_P_init 85 = .ok (.putfield 35, 3) := by decide +kernel
theorem zd_P_init_88 : decode zb_P_init 88 = .ok (.aload_n 0, 1) := by decide +kernel
theorem zd_P_init_89 : decode zb_P_init 89 = .ok (.iconst 0, 1) := by decide +kernel
theorem zd_P_init_90 : decode zb_P_init 90 = .ok (.putfield 39, 3) := by decide +kernel
theorem zd_P_init_93 : decode zb_P_init 93 = .ok (.aload_n 0, 1) := by decide +kernel
theorem zd_P_init_94 : decode zb_P_init 94 = .ok (.iconst 0, 1) := by decide +kernel
theorem zd_P_init_95 : decode zb_P_init 95 = .ok (.putfield 42, 3) := by decide +kernel
theorem zd_P_init_98 : decode zb_P_init 98 = .ok (.aload_n 0, 1) := by decide +kernel
theorem zd_P_init_99 : decode zb_P_init 99 = .ok (.iload_n 1, 1) := by decide +kernel
theorem zd_P_init_100 : decode zb_P_init 100 = .ok (.putfield 45, 3) := by decide +kernel
theorem zd_P_init_103 : decode zb_P_init 103 = .ok (.aload_n 0, 1) := by decide +kernel
theorem zd_P_init_104 : decode zb_P_init 104 = .ok (.iload_n 2, 1) := by decide +kernel
theorem zd_P_init_105 : decode zb_P_init 105 = .ok (.putfield 48, 3) := by decide +kernel
theorem zd_P_init_108 : decode zb_P_init 108 = .ok (.return_, 1) := by decide +kernel
theorem zd_Q_init_0 : decode zb_Q_init 0 = .ok (.aload_n 0, 1) := by decide +kernel
theorem zd_Q_init_1 : decode zb_Q_init 1 = .ok (.invokespecial 1, 3) := by decide +kernel
theorem zd_Q_init_4 : decode zb_Q_init 4 = .ok (.aload_n 0, 1) := by decide +kernel
theorem zd_Q_init_5 : decode zb_Q_init 5 = .ok (.aconst_null, 1) := by decide +kernel
theorem zd_Q_init_6 : decode zb_Q_init 6 = .ok (.putfield 7, 3) := by decide +kernel
theorem zd_Q_init_9 : decode zb_Q_init 9 = .ok (.aload_n 0, 1) := by decide +kernel
theorem zd_Q_init_10 : decode zb_Q_init 10 = .ok (.aconst_null, 1) := by decide +kernel
theorem zd_Q_init_11 : decode zb_Q_init 11 = .ok (.putfield 13, 3) := by decide +kernel
theorem zd_Q_init_14 : decode zb_Q_init 14 = .ok (.aload_n 0, 1) := by decide +kernel
theorem zd_Q_init_15 : decode zb_Q_init 15 = .ok (.iconst 0, 1) := by decide +kernel
theorem zd_Q_init_16 : decode zb_Q_init 16 = .ok (.putfield 16, 3) := by decide +kernel
theorem zd_Q_init_19 : decode zb_Q_init 19 = .ok (.return_, 1) := by decide +kernel
theorem zd_X_nearest_0 : decode zb_X_nearest 0 = .ok (.iload_n 1, 1) := by decide +kernel
theorem zd_X_nearest_1 : decode zb_X_nearest 1 = .ok (.iload_n 2, 1) := by decide +kernel
theorem zd_X_nearest_2 : decode zb_X_nearest 2 = .ok (.iload_n 0, 1) := by decide +kernel
theorem zd_X_nearest_3 : decode zb_X_nearest 3 = .ok (.invokestatic 141, 3) := by decide +kernel
theorem zd_X_nearest_6 : decode zb_X_nearest 6 = .ok (.invokestatic 147, 3) := by decide +kernel
theorem zd_X_nearest_9 : decode zb_X_nearest 9 = .ok (.ireturn, 1) := by decide +kernel
theorem zd_X_flow_0 : decode zb_X_flow 0 = .ok (.iload_n 1, 1) := by decide +kernel
theorem zd_X_flow_1 : decode zb_X_flow 1 = .ok (.invokestatic 59, 3) := by decide +kernel
theorem zd_X_flow_4 : decode zb_X_flow 4 = .ok (.ifCond .eq 15, 3) := by decide +kernel
theorem zd_X_flow_7 : decode zb_X_flow 7 = .ok (.iload_n 2, 1) := by decide +kernel
theorem zd_X_flow_8 : decode zb_X_flow 8 = .ok (.invokestatic 59, 3) := by decide +kernel
theorem zd_X_flow_11 : decode zb_X_flow 11 = .ok (.ifCond .eq 8, 3) := by decide +kernel
theorem zd_X_flow_14 : decode zb_X_flow 14 = .ok (.iload_n 1, 1) := by decide +kernel
theorem zd_X_flow_15 : decode zb_X_flow 15 = .ok (.iload_n 2, 1) := by decide +kernel
theorem zd_X_flow_16 : decode zb_X_flow 16 = .ok (.if_icmp .ne 5, 3) := by decide +kernel
theorem zd_X_flow_19 : decode zb_X_flow 19 = .ok (.iconst (-1), 1) := by decide +kernel
theorem zd_X_flow_20 : decode zb_X_flow 20 = .ok (.ireturn, 1) := by decide +kernel
theorem zd_X_flow_21 : decode zb_X_flow 21 = .ok (.iload_n 3, 1) := by decide +kernel
theorem zd_X_flow_22 : decode zb_X_flow 22 = .ok (.invokestatic 63, 3) := by decide +kernel
theorem zd_X_flow_25 : decode zb_X_flow 25 = .ok (.ifCond .eq 12, 3) := by decide +kernel
theorem zd_X_flow_28 : decode zb_X_flow 28 = .ok (.aload_n 0, 1) := by decide +kernel
theorem zd_X_flow_29 : decode zb_X_flow 29 = .ok (.getfield 33, 3) := by decide +kernel
theorem zd_X_flow_32 : decode zb_X_flow 32 = .ok (.bipush 12, 2) := by decide +kernel
theorem zd_X_flow_34 : decode zb_X_flow 34 = .ok (.if_icmp .lt 5, 3) := by decide +kernel
theorem zd_X_flow_37 : decode zb_X_flow 37 = .ok (.iconst (-1), 1) := by decide +kernel
theorem zd_X_flow_38 : decode zb_X_flow 38 = .ok (.ireturn, 1) := by decide +kernel
theorem zd_X_flow_39 : decode zb_X_flow 39 = .ok (.aload_n 0, 1) := by decide +kernel
theorem zd_X_flow_40 : decode zb_X_flow 40 = .ok (.getfield 33, 3) := by decide +kernel
theorem zd_X_flow_43 : decode zb_X_flow 43 = .ok (.istore 4, 2) := by decide +kernel
theorem zd_X_flow_45 : decode zb_X_flow 45 = .ok (.aload_n 0, 1) := by decide +kernel
theorem zd_X_flow_46 : decode zb_X_flow 46 = .ok (.getfield 23, 3) := by decide +kernel
theorem zd_X_flow_49 : decode zb_X_flow 49 = .ok (.iload 4, 2) := by decide +kernel
theorem zd_X_flow_51 : decode zb_X_flow 51 = .ok (.new 21, 3) := by decide +kernel
theorem zd_X_flow_54 : decode zb_X_flow 54 = .ok (.dup, 1) := by decide +kernel
theorem zd_X_flow_55 : decode zb_X_flow 55 = .ok (.iload_n 3, 1) := by decide +kernel
theorem zd_X_flow_56 : decode zb_X_flow 56 = .ok (.aload_n 0, 1) := by decide +kernel
theorem zd_X_flow_57 : decode zb_X_flow 57 = .ok (.iload 4, 2) := by decide +kernel
theorem zd_X_flow_59 : decode zb_X_flow 59 = .ok (.iload_n 1, 1) := by decide +kernel
theorem zd_X_flow_60 : decode zb_X_flow 60 = .ok (.iload_n 2, 1) := by decide +kernel
theorem zd_X_flow_61 : decode zb_X_flow 61 = .ok (.invokevirtual 66, 3) := by decide +kernel
theorem zd_X_flow_64 : decode zb_X_flow 64 = .ok (.invokespecial 70, 3) := by decide +kernel
theorem zd_X_flow_67 : decode zb_X_flow 67 = .ok (.aastore, 1) := by decide +kernel
theorem zd_X_flow_68 : decode zb_X_flow 68 = .ok (.aload_n 0, 1) := by decide +kernel
theorem zd_X_flow_69 : decode zb_X_flow 69 = .ok (.dup, 1) := by decide +kernel
theorem zd_X_flow_70 : decode zb_X_flow 70 = .ok (.getfield 33, 3) := by decide +kernel
theorem zd_X_flow_73 : decode zb_X_flow 73 = .ok (.iconst 1, 1) := by decide +kernel
theorem zd_X_flow_74 : decode zb_X_flow 74 = .ok (.iadd, 1) := by decide +kernel
theorem zd_X_flow_75 : decode zb_X_flow 75 = .ok (.putfield 33, 3) := by decide +kernel
theorem zd_X_flow_78 : decode zb_X_flow 78 = .ok (.iload 4, 2) := by decide +kernel
theorem zd_X_flow_80 : decode zb_X_flow 80 = .ok (.ireturn, 1) := by decide +kernel
theorem zd_X_isPriority_0 : decode zb_X_isPriority 0 = .ok (.iload_n 0, 1) := by decide +kernel
theorem zd_X_isPriority_1 : decode zb_X_isPriority 1 = .ok (.ifCond .lt 12, 3) := by decide +kernel
theorem zd_X_isPriority_4 : decode zb_X_isPriority 4 = .ok (.iload_n 0, 1) := by decide +kernel
theorem zd_X_isPriority_5 : decode zb_X_isPriority 5 = .ok (.iconst 2, 1) := by decide +kernel
theorem zd_X_isPriority_6 : decode zb_X_isPriority 6 = .ok (.if_icmp .ge 7, 3) := by decide +kernel
theorem zd_X_isPriority_9 : decode zb_X_isPriority 9 = .ok (.iconst 1, 1) := by decide +kernel
theorem zd_X_isPriority_10 : decode zb_X_isPriority 10 = .ok (.goto 4, 3) := by decide +kernel
theorem zd_X_isPriority_13 : decode zb_X_isPriority 13 = .ok (.iconst 0, 1) := by decide +kernel
theorem zd_X_isPriority_14 : decode zb_X_isPriority 14 = .ok (.ireturn, 1) := by decide +kernel
theorem zd_X_routeOf_0 : decode zb_X_routeOf 0 = .ok (.iload_n 2, 1) := by decide +kernel
theorem zd_X_routeOf_1 : decode zb_X_routeOf 1 = .ok (.invokestatic 150, 3) := by decide +kernel
theorem zd_X_routeOf_4 : decode zb_X_routeOf 4 = .ok (.istore 4, 2) := by decide +kernel
theorem zd_X_routeOf_6 : decode zb_X_routeOf 6 = .ok (.iload_n 3, 1) := by decide +kernel
theorem zd_X_routeOf_7 : decode zb_X_routeOf 7 = .ok (.invokestatic 150, 3) := by decide +kernel
theorem zd_X_routeOf_10 : decode zb_X_routeOf 10 = .ok (.istore 5, 2) := by decide +kernel
theorem zd_X_routeOf_12 : decode zb_X_routeOf 12 = .ok (.iload 4, 2) := by decide +kernel
theorem zd_X_routeOf_14 : decode zb_X_routeOf 14 = .ok (.iload 5, 2) := by decide +kernel
theorem zd_X_routeOf_16 : decode zb_X_routeOf 16 = .ok (.if_icmp .ne 28, 3) := by decide +kernel
theorem zd_X_routeOf_19 : decode zb_X_routeOf 19 = .ok (.iconst 2, 1) := by decide +kernel
theorem zd_X_routeOf_20 : decode zb_X_routeOf 20 = .ok (.anewarray 107, 3) := by decide +kernel
theorem zd_X_routeOf_23 : decode zb_X_routeOf 23 = .ok (.dup, 1) := by decide +kernel
theorem zd_X_routeOf_24 : decode zb_X_routeOf 24 = .ok (.iconst 0, 1) := by decide +kernel
theorem zd_X_routeOf_25 : decode zb_X_routeOf 25 = .ok (.aload_n 0, 1) := by decide +kernel
theorem zd_X_routeOf_26 : decode zb_X_routeOf 26 = .ok (.iload_n 2, 1) := by decide +kernel
theorem zd_X_routeOf_27 : decode zb_X_routeOf 27 = .ok (.iload 4, 2) := by decide +kernel
theorem zd_X_routeOf_29 : decode zb_X_routeOf 29 = .ok (.invokevirtual 102, 3) := by decide +kernel
theorem zd_X_routeOf_32 : decode zb_X_routeOf 32 = .ok (.aastore, 1) := by decide +kernel
theorem zd_X_routeOf_33 : decode zb_X_routeOf 33 = .ok (.dup, 1) := by decide +kernel
theorem zd_X_routeOf_34 : decode zb_X_routeOf 34 = .ok (.iconst 1, 1) := by decide +kernel
theorem zd_X_routeOf_35 : decode zb_X_routeOf 35 = .ok (.aload_n 0, 1) := by decide +kernel
theorem zd_X_routeOf_36 : decode zb_X_routeOf 36 = .ok (.iload 4, 2) := by decide +kernel
theorem zd_X_routeOf_38 : decode zb_X_routeOf 38 = .ok (.iload_n 3, 1) := by decide +kernel
theorem zd_X_routeOf_39 : decode zb_X_routeOf 39 = .ok (.invokevirtual 102, 3) := by decide +kernel
theorem zd_X_routeOf_42 : decode zb_X_routeOf 42 = .ok (.aastore, 1) := by decide +kernel
theorem zd_X_routeOf_43 : decode zb_X_routeOf 43 = .ok (.areturn, 1) := by decide +kernel
theorem zd_X_routeOf_44 : decode zb_X_routeOf 44 = .ok (.bipush 12, 2) := by decide +kernel
theorem zd_X_routeOf_46 : decode zb_X_routeOf 46 = .ok (.iload_n 1, 1) := by decide +kernel
theorem zd_X_routeOf_47 : decode zb_X_routeOf 47 = .ok (.invokestatic 167, 3) := by decide +kernel
theorem zd_X_routeOf_50 : decode zb_X_routeOf 50 = .ok (.iconst 2, 1) := by decide +kernel
theorem zd_X_routeOf_51 : decode zb_X_routeOf 51 = .ok (.irem, 1) := by decide +kernel
theorem zd_X_routeOf_52 : decode zb_X_routeOf 52 = .ok (.iadd, 1) := by decide +kernel
theorem zd_X_routeOf_53 : decode zb_X_routeOf 53 = .ok (.istore 6, 2) := by decide +kernel
theorem zd_X_routeOf_55 : decode zb_X_routeOf 55 = .ok (.iconst 4, 1) := by decide +kernel
theorem zd_X_routeOf_56 : decode zb_X_routeOf 56 = .ok (.anewarray 107, 3) := by decide +kernel
theorem zd_X_routeOf_59 : decode zb_X_routeOf 59 = .ok (.dup, 1) := by decide +kernel
theorem zd_X_routeOf_60 : decode zb_X_routeOf 60 = .ok (.iconst 0, 1) := by decide +kernel
theorem zd_X_routeOf_61 : decode zb_X_routeOf 61 = .ok (.aload_n 0, 1) := by decide +kernel
theorem zd_X_routeOf_62 : decode zb_X_routeOf 62 = .ok (.iload_n 2, 1) := by decide +kernel
theorem zd_X_routeOf_63 : decode zb_X_routeOf 63 = .ok (.iload 4, 2) := by decide +kernel
theorem zd_X_routeOf_65 : decode zb_X_routeOf 65 = .ok (.invokevirtual 102, 3) := by decide +kernel
theorem zd_X_routeOf_68 : decode zb_X_routeOf 68 = .ok (.aastore, 1) := by decide +kernel
theorem zd_X_routeOf_69 : decode zb_X_routeOf 69 = .ok (.dup, 1) := by decide +kernel
theorem zd_X_routeOf_70 : decode zb_X_routeOf 70 = .ok (.iconst 1, 1) := by decide +kernel
theorem zd_X_routeOf_71 : decode zb_X_routeOf 71 = .ok (.aload_n 0, 1) := by decide +kernel
theorem zd_X_routeOf_72 : decode zb_X_routeOf 72 = .ok (.iload 4, 2) := by decide +kernel
theorem zd_X_routeOf_74 : decode zb_X_routeOf 74 = .ok (.iload 6, 2) := by decide +kernel
theorem zd_X_routeOf_76 : decode zb_X_routeOf 76 = .ok (.invokevirtual 102, 3) := by decide +kernel
theorem zd_X_routeOf_79 : decode zb_X_routeOf 79 = .ok (.aastore, 1) := by decide +kernel
theorem zd_X_routeOf_80 : decode zb_X_routeOf 80 = .ok (.dup, 1) := by decide +kernel
theorem zd_X_routeOf_81 : decode zb_X_routeOf 81 = .ok (.iconst 2, 1) := by decide +kernel
theorem zd_X_routeOf_82 : decode zb_X_routeOf 82 = .ok (.aload_n 0, 1) := by decide +kernel
theorem zd_X_routeOf_83 : decode zb_X_routeOf 83 = .ok (.iload 6, 2) := by decide +kernel
theorem zd_X_routeOf_85 : decode zb_X_routeOf 85 = .ok (.iload 5, 2) := by decide +kernel
theorem zd_X_routeOf_87 : decode zb_X_routeOf 87 = .ok (.invokevirtual 102, 3) := by decide +kernel
theorem zd_X_routeOf_90 : decode zb_X_routeOf 90 = .ok (.aastore, 1) := by decide +kernel
theorem zd_X_routeOf_91 : decode zb_X_routeOf 91 = .ok (.dup, 1) := by decide +kernel
theorem zd_X_routeOf_92 : decode zb_X_routeOf 92 = .ok (.iconst 3, 1) := by decide +kernel
theorem zd_X_routeOf_93 : decode zb_X_routeOf 93 = .ok (.aload_n 0, 1) := by decide +kernel
theorem zd_X_routeOf_94 : decode zb_X_routeOf 94 = .ok (.iload 5, 2) := by decide +kernel
theorem zd_X_routeOf_96 : decode zb_X_routeOf 96 = .ok (.iload_n 3, 1) := by decide +kernel
theorem zd_X_routeOf_97 : decode zb_X_routeOf 97 = .ok (.invokevirtual 102, 3) := by decide +kernel
theorem zd_X_routeOf_100 : decode zb_X_routeOf 100 = .ok (.aastore, 1) := by decide +kernel
theorem zd_X_routeOf_101 : decode zb_X_routeOf 101 = .ok (.areturn, 1) := by decide +kernel
theorem zd_X_portBetween_0 : decode zb_X_portBetween 0 = .ok (.aload_n 0, 1) := by decide +kernel
theorem zd_X_portBetween_1 : decode zb_X_portBetween 1 = .ok (.getfield 17, 3) := by decide +kernel
theorem zd_X_portBetween_4 : decode zb_X_portBetween 4 = .ok (.astore_n 3, 1) := by decide +kernel
theorem zd_X_portBetween_5 : decode zb_X_portBetween 5 = .ok (.aload_n 3, 1) := by decide +kernel
theorem zd_X_portBetween_6 : decode zb_X_portBetween 6 = .ok (.arraylength, 1) := by decide +kernel
theorem zd_X_portBetween_7 : decode zb_X_portBetween 7 = .ok (.istore 4, 2) := by decide +kernel
theorem zd_X_portBetween_9 : decode zb_X_portBetween 9 = .ok (.iconst 0, 1) := by decide +kernel
theorem zd_X_portBetween_10 : decode zb_X_portBetween 10 = .ok (.istore 5, 2) := by decide +kernel
theorem zd_X_portBetween_12 : decode zb_X_portBetween 12 = .ok (.iload 5, 2) := by decide +kernel
theorem zd_X_portBetween_14 : decode zb_X_portBetween 14 = .ok (.iload 4, 2) := by decide +kernel
theorem zd_X_portBetween_16 : decode zb_X_portBetween 16 = .ok (.if_icmp .ge 36, 3) := by decide +kernel
theorem zd_X_portBetween_19 : decode zb_X_portBetween 19 = .ok (.aload_n 3, 1) := by decide +kernel
theorem zd_X_portBetween_20 : decode zb_X_portBetween 20 = .ok (.iload 5, 2) := by decide +kernel
theorem zd_X_portBetween_22 : decode zb_X_portBetween 22 = .ok (.aaload, 1) := by decide +kernel
theorem zd_X_portBetween_23 : decode zb_X_portBetween 23 = .ok (.astore 6, 2) := by decide +kernel
theorem zd_X_portBetween_25 : decode zb_X_portBetween 25 = .ok (.aload 6, 2) := by decide +kernel
theorem zd_X_portBetween_27 : decode zb_X_portBetween 27 = .ok (.getfield 161, 3) := by decide +kernel
theorem zd_X_portBetween_30 : decode zb_X_portBetween 30 = .ok (.iload_n 1, 1) := by decide +kernel
theorem zd_X_portBetween_31 : decode zb_X_portBetween 31 = .ok (.if_icmp .ne 15, 3) := by decide +kernel
theorem zd_X_portBetween_34 : decode zb_X_portBetween 34 = .ok (.aload 6, 2) := by decide +kernel
theorem zd_X_portBetween_36 : decode zb_X_portBetween 36 = .ok (.getfield 164, 3) := by decide +kernel
theorem zd_X_portBetween_39 : decode zb_X_portBetween 39 = .ok (.iload_n 2, 1) := by decide +kernel
theorem zd_X_portBetween_40 : decode zb_X_portBetween 40 = .ok (.if_icmp .ne 6, 3) := by decide +kernel
theorem zd_X_portBetween_43 : decode zb_X_portBetween 43 = .ok (.aload 6, 2) := by decide +kernel
theorem zd_X_portBetween_45 : decode zb_X_portBetween 45 = .ok (.areturn, 1) := by decide +kernel
theorem zd_X_portBetween_46 : decode zb_X_portBetween 46 = .ok (.iinc 5 1, 3) := by decide +kernel
theorem zd_X_portBetween_49 : decode zb_X_portBetween 49 = .ok (.goto (-37), 3) := by decide +kernel
theorem zd_X_portBetween_52 : decode zb_X_portBetween 52 = .ok (.aconst_null, 1) := by decide +kernel
theorem zd_X_portBetween_53 : decode zb_X_portBetween 53 = .ok (.areturn, 1) := by decide +kernel
theorem zd_J_bitCount_0 : decode zb_J_bitCount 0 = .ok (.iload_n 0, 1) := by decide +kernel
theorem zd_J_bitCount_1 : decode zb_J_bitCount 1 = .ok (.iload_n 0, 1) := by decide +kernel
theorem zd_J_bitCount_2 : decode zb_J_bitCount 2 = .ok (.iconst 1, 1) := by decide +kernel
theorem zd_J_bitCount_3 : decode zb_J_bitCount 3 = .ok (.iushr, 1) := by decide +kernel
theorem zd_J_bitCount_4 : decode zb_J_bitCount 4 = .ok (.ldc_w 265, 3) := by decide +kernel
theorem zd_J_bitCount_7 : decode zb_J_bitCount 7 = .ok (.iand, 1) := by decide +kernel
theorem zd_J_bitCount_8 : decode zb_J_bitCount 8 = .ok (.isub, 1) := by decide +kernel
theorem zd_J_bitCount_9 : decode zb_J_bitCount 9 = .ok (.istore_n 0, 1) := by decide +kernel
theorem zd_J_bitCount_10 : decode zb_J_bitCount 10 = .ok (.iload_n 0, 1) := by decide +kernel
theorem zd_J_bitCount_11 : decode zb_J_bitCount 11 = .ok (.ldc_w 266, 3) := by decide +kernel
theorem zd_J_bitCount_14 : decode zb_J_bitCount 14 = .ok (.iand, 1) := by decide +kernel
theorem zd_J_bitCount_15 : decode zb_J_bitCount 15 = .ok (.iload_n 0, 1) := by decide +kernel
theorem zd_J_bitCount_16 : decode zb_J_bitCount 16 = .ok (.iconst 2, 1) := by decide +kernel
theorem zd_J_bitCount_17 : decode zb_J_bitCount 17 = .ok (.iushr, 1) := by decide +kernel
theorem zd_J_bitCount_18 : decode zb_J_bitCount 18 = .ok (.ldc_w 266, 3) := by decide +kernel
theorem zd_J_bitCount_21 : decode zb_J_bitCount 21 = .ok (.iand, 1) := by decide +kernel
theorem zd_J_bitCount_22 : decode zb_J_bitCount 22 = .ok (.iadd, 1) := by decide +kernel
theorem zd_J_bitCount_23 : decode zb_J_bitCount 23 = .ok (.istore_n 0, 1) := by decide +kernel
theorem zd_J_bitCount_24 : decode zb_J_bitCount 24 = .ok (.iload_n 0, 1) := by decide +kernel
theorem zd_J_bitCount_25 : decode zb_J_bitCount 25 = .ok (.iload_n 0, 1) := by decide +kernel
theorem zd_J_bitCount_26 : decode zb_J_bitCount 26 = .ok (.iconst 4, 1) := by decide +kernel
theorem zd_J_bitCount_27 : decode zb_J_bitCount 27 = .ok (.iushr, 1) := by decide +kernel
theorem zd_J_bitCount_28 : decode zb_J_bitCount 28 = .ok (.iadd, 1) := by decide +kernel
theorem zd_J_bitCount_29 : decode zb_J_bitCount 29 = .ok (.ldc_w 267, 3) := by decide +kernel
theorem zd_J_bitCount_32 : decode zb_J_bitCount 32 = .ok (.iand, 1) := by decide +kernel
theorem zd_J_bitCount_33 : decode zb_J_bitCount 33 = .ok (.istore_n 0, 1) := by decide +kernel
theorem zd_J_bitCount_34 : decode zb_J_bitCount 34 = .ok (.iload_n 0, 1) := by decide +kernel
theorem zd_J_bitCount_35 : decode zb_J_bitCount 35 = .ok (.iload_n 0, 1) := by decide +kernel
theorem zd_J_bitCount_36 : decode zb_J_bitCount 36 = .ok (.bipush 8, 2) := by decide +kernel
theorem zd_J_bitCount_38 : decode zb_J_bitCount 38 = .ok (.iushr, 1) := by decide +kernel
theorem zd_J_bitCount_39 : decode zb_J_bitCount 39 = .ok (.iadd, 1) := by decide +kernel
theorem zd_J_bitCount_40 : decode zb_J_bitCount 40 = .ok (.istore_n 0, 1) := by decide +kernel
theorem zd_J_bitCount_41 : decode zb_J_bitCount 41 = .ok (.iload_n 0, 1) := by decide +kernel
theorem zd_J_bitCount_42 : decode zb_J_bitCount 42 = .ok (.iload_n 0, 1) := by decide +kernel
theorem zd_J_bitCount_43 : decode zb_J_bitCount 43 = .ok (.bipush 16, 2) := by decide +kernel
theorem zd_J_bitCount_45 : decode zb_J_bitCount 45 = .ok (.iushr, 1) := by decide +kernel
theorem zd_J_bitCount_46 : decode zb_J_bitCount 46 = .ok (.iadd, 1) := by decide +kernel
theorem zd_J_bitCount_47 : decode zb_J_bitCount 47 = .ok (.istore_n 0, 1) := by decide +kernel
theorem zd_J_bitCount_48 : decode zb_J_bitCount 48 = .ok (.iload_n 0, 1) := by decide +kernel
theorem zd_J_bitCount_49 : decode zb_J_bitCount 49 = .ok (.bipush 63, 2) := by decide +kernel
theorem zd_J_bitCount_51 : decode zb_J_bitCount 51 = .ok (.iand, 1) := by decide +kernel
theorem zd_J_bitCount_52 : decode zb_J_bitCount 52 = .ok (.ireturn, 1) := by decide +kernel
theorem zd_F_init_0 : decode zb_F_init 0 = .ok (.aload_n 0, 1) := by decide +kernel
theorem zd_F_init_1 : decode zb_F_init 1 = .ok (.invokespecial 3, 3) := by decide +kernel
theorem zd_F_init_4 : decode zb_F_init 4 = .ok (.aload_n 0, 1) := by decide +kernel
theorem zd_F_init_5 : decode zb_F_init 5 = .ok (.bipush 64, 2) := by decide +kernel
theorem zd_F_init_7 : decode zb_F_init 7 = .ok (.putfield 9, 3) := by decide +kernel
theorem zd_F_init_10 : decode zb_F_init 10 = .ok (.aload_n 0, 1) := by decide +kernel
theorem zd_F_init_11 : decode zb_F_init 11 = .ok (.bipush 64, 2) := by decide +kernel
theorem zd_F_init_13 : decode zb_F_init 13 = .ok (.putfield 15, 3) := by decide +kernel
theorem zd_F_init_16 : decode zb_F_init 16 = .ok (.aload_n 0, 1) := by decide +kernel
theorem zd_F_init_17 : decode zb_F_init 17 = .ok (.bipush 64, 2) := by decide +kernel
theorem zd_F_init_19 : decode zb_F_init 19 = .ok (.putfield 18, 3) := by decide +kernel
theorem zd_F_init_22 : decode zb_F_init 22 = .ok (.aload_n 0, 1) := by decide +kernel
theorem zd_F_init_23 : decode zb_F_init 23 = .ok (.iconst 0, 1) := by decide +kernel
theorem zd_F_init_24 : decode zb_F_init 24 = .ok (.putfield 21, 3) := by decide +kernel
theorem zd_F_init_27 : decode zb_F_init 27 = .ok (.aload_n 0, 1) := by decide +kernel
theorem zd_F_init_28 : decode zb_F_init 28 = .ok (.iconst 0, 1) := by decide +kernel
theorem zd_F_init_29 : decode zb_F_init 29 = .ok (.putfield 24, 3) := by decide +kernel
theorem zd_F_init_32 : decode zb_F_init 32 = .ok (.aload_n 0, 1) := by decide +kernel
theorem zd_F_init_33 : decode zb_F_init 33 = .ok (.iconst 0, 1) := by decide +kernel
theorem zd_F_init_34 : decode zb_F_init 34 = .ok (.putfield 27, 3) := by decide +kernel
theorem zd_F_init_37 : decode zb_F_init 37 = .ok (.aload_n 0, 1) := by decide +kernel
theorem zd_F_init_38 : decode zb_F_init 38 = .ok (.iconst 0, 1) := by decide +kernel
theorem zd_F_init_39 : decode zb_F_init 39 = .ok (.putfield 31, 3) := by decide +kernel
theorem zd_F_init_42 : decode zb_F_init 42 = .ok (.aload_n 0, 1) := by decide +kernel
theorem zd_F_init_43 : decode zb_F_init 43 = .ok (.iconst 0, 1) := by decide +kernel
theorem zd_F_init_44 : decode zb_F_init 44 = .ok (.putfield 34, 3) := by decide +kernel
theorem zd_F_init_47 : decode zb_F_init 47 = .ok (.aload_n 0, 1) := by decide +kernel
theorem zd_F_init_48 : decode zb_F_init 48 = .ok (.iconst 0, 1) := by decide +kernel
theorem zd_F_init_49 : decode zb_F_init 49 = .ok (.putfield 37, 3) := by decide +kernel
theorem zd_F_init_52 : decode zb_F_init 52 = .ok (.aload_n 0, 1) := by decide +kernel
theorem zd_F_init_53 : decode zb_F_init 53 = .ok (.iconst (-1), 1) := by decide +kernel
theorem zd_F_init_54 : decode zb_F_init 54 = .ok (.putfield 40, 3) := by decide +kernel
theorem zd_F_init_57 : decode zb_F_init 57 = .ok (.aload_n 0, 1) := by decide +kernel
theorem zd_F_init_58 : decode zb_F_init 58 = .ok (.iload_n 1, 1) := by decide +kernel
theorem zd_F_init_59 : decode zb_F_init 59 = .ok (.putfield 43, 3) := by decide +kernel
theorem zd_F_init_62 : decode zb_F_init 62 = .ok (.aload_n 0, 1) := by decide +kernel
theorem zd_F_init_63 : decode zb_F_init 63 = .ok (.aload_n 2, 1) := by decide +kernel
theorem zd_F_init_64 : decode zb_F_init 64 = .ok (.putfield 46, 3) := by decide +kernel
theorem zd_F_init_67 : decode zb_F_init 67 = .ok (.return_, 1) := by decide +kernel
theorem zd_X_share_0 : decode zb_X_share 0 = .ok (.iload_n 1, 1) := by decide +kernel
theorem zd_X_share_1 : decode zb_X_share 1 = .ok (.invokestatic 63, 3) := by decide +kernel
theorem zd_X_share_4 : decode zb_X_share 4 = .ok (.ifCond .eq 14, 3) := by decide +kernel
theorem zd_X_share_7 : decode zb_X_share 7 = .ok (.iload_n 2, 1) := by decide +kernel
theorem zd_X_share_8 : decode zb_X_share 8 = .ok (.iconst 1, 1) := by decide +kernel
theorem zd_X_share_9 : decode zb_X_share 9 = .ok (.if_icmp .lt 9, 3) := by decide +kernel
theorem zd_X_share_12 : decode zb_X_share 12 = .ok (.iload_n 2, 1) := by decide +kernel
theorem zd_X_share_13 : decode zb_X_share 13 = .ok (.bipush 8, 2) := by decide +kernel
theorem zd_X_share_15 : decode zb_X_share 15 = .ok (.if_icmp .le 5, 3) := by decide +kernel
theorem zd_X_share_18 : decode zb_X_share 18 = .ok (.iconst 0, 1) := by decide +kernel
theorem zd_X_share_19 : decode zb_X_share 19 = .ok (.ireturn, 1) := by decide +kernel
theorem zd_X_share_20 : decode zb_X_share 20 = .ok (.aload_n 0, 1) := by decide +kernel
theorem zd_X_share_21 : decode zb_X_share 21 = .ok (.getfield 7, 3) := by decide +kernel
theorem zd_X_share_24 : decode zb_X_share 24 = .ok (.iload_n 1, 1) := by decide +kernel
theorem zd_X_share_25 : decode zb_X_share 25 = .ok (.iload_n 2, 1) := by decide +kernel
theorem zd_X_share_26 : decode zb_X_share 26 = .ok (.iastore, 1) := by decide +kernel
theorem zd_X_share_27 : decode zb_X_share 27 = .ok (.iconst 1, 1) := by decide +kernel
theorem zd_X_share_28 : decode zb_X_share 28 = .ok (.ireturn, 1) := by decide +kernel
theorem zd_X_inject_0 : decode zb_X_inject 0 = .ok (.aload_n 0, 1) := by decide +kernel
theorem zd_X_inject_1 : decode zb_X_inject 1 = .ok (.iload_n 1, 1) := by decide +kernel
theorem zd_X_inject_2 : decode zb_X_inject 2 = .ok (.invokevirtual 73, 3) := by decide +kernel
theorem zd_X_inject_5 : decode zb_X_inject 5 = .ok (.astore_n 3, 1) := by decide +kernel
theorem zd_X_inject_6 : decode zb_X_inject 6 = .ok (.aload_n 3, 1) := by decide +kernel
theorem zd_X_inject_7 : decode zb_X_inject 7 = .ok (.ifnull 22, 3) := by decide +kernel
theorem zd_X_inject_10 : decode zb_X_inject 10 = .ok (.iload_n 2, 1) := by decide +kernel
theorem zd_X_inject_11 : decode zb_X_inject 11 = .ok (.iconst 1, 1) := by decide +kernel
theorem zd_X_inject_12 : decode zb_X_inject 12 = .ok (.if_icmp .lt 17, 3) := by decide +kernel
theorem zd_X_inject_15 : decode zb_X_inject 15 = .ok (.iload_n 2, 1) := by decide +kernel
theorem zd_X_inject_16 : decode zb_X_inject 16 = .ok (.iconst 4, 1) := by decide +kernel
theorem zd_X_inject_17 : decode zb_X_inject 17 = .ok (.if_icmp .gt 12, 3) := by decide +kernel
theorem zd_X_inject_20 : decode zb_X_inject 20 = .ok (.aload_n 0, 1) := by decide +kernel
theorem zd_X_inject_21 : decode zb_X_inject 21 = .ok (.getfield 37, 3) := by decide +kernel
theorem zd_X_inject_24 : decode zb_X_inject 24 = .ok (.bipush 100, 2) := by decide +kernel
theorem zd_X_inject_26 : decode zb_X_inject 26 = .ok (.if_icmp .lt 5, 3) := by decide +kernel
theorem zd_X_inject_29 : decode zb_X_inject 29 = .ok (.iconst (-1), 1) := by decide +kernel
theorem zd_X_inject_30 : decode zb_X_inject 30 = .ok (.ireturn, 1) := by decide +kernel
theorem zd_X_inject_31 : decode zb_X_inject 31 = .ok (.aload_n 0, 1) := by decide +kernel
theorem zd_X_inject_32 : decode zb_X_inject 32 = .ok (.getfield 37, 3) := by decide +kernel
theorem zd_X_inject_35 : decode zb_X_inject 35 = .ok (.istore 4, 2) := by decide +kernel
theorem zd_X_inject_37 : decode zb_X_inject 37 = .ok (.new 27, 3) := by decide +kernel
theorem zd_X_inject_40 : decode zb_X_inject 40 = .ok (.dup, 1) := by decide +kernel
theorem zd_X_inject_41 : decode zb_X_inject 41 = .ok (.iload 4, 2) := by decide +kernel
theorem zd_X_inject_43 : decode zb_X_inject 43 = .ok (.aload_n 3, 1) := by decide +kernel
theorem zd_X_inject_44 : decode zb_X_inject 44 = .ok (.iload_n 2, 1) := by decide +kernel
theorem zd_X_inject_45 : decode zb_X_inject 45 = .ok (.invokespecial 77, 3) := by decide +kernel
theorem zd_X_inject_48 : decode zb_X_inject 48 = .ok (.astore 5, 2) := by decide +kernel
theorem zd_X_inject_50 : decode zb_X_inject 50 = .ok (.aload_n 0, 1) := by decide +kernel
theorem zd_X_inject_51 : decode zb_X_inject 51 = .ok (.getfield 29, 3) := by decide +kernel
theorem zd_X_inject_54 : decode zb_X_inject 54 = .ok (.iload 4, 2) := by decide +kernel
theorem zd_X_inject_56 : decode zb_X_inject 56 = .ok (.aload 5, 2) := by decide +kernel
theorem zd_X_inject_58 : decode zb_X_inject 58 = .ok (.aastore, 1) := by decide +kernel
theorem zd_X_inject_59 : decode zb_X_inject 59 = .ok (.aload_n 0, 1) := by decide +kernel
theorem zd_X_inject_60 : decode zb_X_inject 60 = .ok (.dup, 1) := by decide +kernel
theorem zd_X_inject_61 : decode zb_X_inject 61 = .ok (.getfield 37, 3) := by decide +kernel
theorem zd_X_inject_64 : decode zb_X_inject 64 = .ok (.iconst 1, 1) := by decide +kernel
theorem zd_X_inject_65 : decode zb_X_inject 65 = .ok (.iadd, 1) := by decide +kernel
theorem zd_X_inject_66 : decode zb_X_inject 66 = .ok (.putfield 37, 3) := by decide +kernel
theorem zd_X_inject_69 : decode zb_X_inject 69 = .ok (.aload 5, 2) := by decide +kernel
theorem zd_X_inject_71 : decode zb_X_inject 71 = .ok (.invokestatic 80, 3) := by decide +kernel
theorem zd_X_inject_74 : decode zb_X_inject 74 = .ok (.pop, 1) := by decide +kernel
theorem zd_X_inject_75 : decode zb_X_inject 75 = .ok (.iload 4, 2) := by decide +kernel
theorem zd_X_inject_77 : decode zb_X_inject 77 = .ok (.ireturn, 1) := by decide +kernel
theorem zd_X_flowAt_0 : decode zb_X_flowAt 0 = .ok (.iload_n 1, 1) := by decide +kernel
theorem zd_X_flowAt_1 : decode zb_X_flowAt 1 = .ok (.ifCond .lt 20, 3) := by decide +kernel
theorem zd_X_flowAt_4 : decode zb_X_flowAt 4 = .ok (.iload_n 1, 1) := by decide +kernel
theorem zd_X_flowAt_5 : decode zb_X_flowAt 5 = .ok (.aload_n 0, 1) := by decide +kernel
theorem zd_X_flowAt_6 : decode zb_X_flowAt 6 = .ok (.getfield 33, 3) := by decide +kernel
theorem zd_X_flowAt_9 : decode zb_X_flowAt 9 = .ok (.if_icmp .ge 12, 3) := by decide +kernel
theorem zd_X_flowAt_12 : decode zb_X_flowAt 12 = .ok (.aload_n 0, 1) := by decide +kernel
theorem zd_X_flowAt_13 : decode zb_X_flowAt 13 = .ok (.getfield 23, 3) := by decide +kernel
theorem zd_X_flowAt_16 : decode zb_X_flowAt 16 = .ok (.iload_n 1, 1) := by decide +kernel
theorem zd_X_flowAt_17 : decode zb_X_flowAt 17 = .ok (.aaload, 1) := by decide +kernel
theorem zd_X_flowAt_18 : decode zb_X_flowAt 18 = .ok (.goto 4, 3) := by decide +kernel
theorem zd_X_flowAt_21 : decode zb_X_flowAt 21 = .ok (.aconst_null, 1) := by decide +kernel
theorem zd_X_flowAt_22 : decode zb_X_flowAt 22 = .ok (.areturn, 1) := by decide +kernel
theorem zd_K_init_0 : decode zb_K_init 0 = .ok (.aload_n 0, 1) := by decide +kernel
theorem zd_K_init_1 : decode zb_K_init 1 = .ok (.invokespecial 3, 3) := by decide +kernel
theorem zd_K_init_4 : decode zb_K_init 4 = .ok (.aload_n 0, 1) := by decide +kernel
theorem zd_K_init_5 : decode zb_K_init 5 = .ok (.iconst 1, 1) := by decide +kernel
theorem zd_K_init_6 : decode zb_K_init 6 = .ok (.putfield 9, 3) := by decide +kernel
theorem zd_K_init_9 : decode zb_K_init 9 = .ok (.aload_n 0, 1) := by decide +kernel
theorem zd_K_init_10 : decode zb_K_init 10 = .ok (.iconst (-1), 1) := by decide +kernel
theorem zd_K_init_11 : decode zb_K_init 11 = .ok (.putfield 15, 3) := by decide +kernel
theorem zd_K_init_14 : decode zb_K_init 14 = .ok (.aload_n 0, 1) := by decide +kernel
theorem zd_K_init_15 : decode zb_K_init 15 = .ok (.iconst 0, 1) := by decide +kernel
theorem zd_K_init_16 : decode zb_K_init 16 = .ok (.putfield 18, 3) := by decide +kernel
theorem zd_K_init_19 : decode zb_K_init 19 = .ok (.aload_n 0, 1) := by decide +kernel
theorem zd_K_init_20 : decode zb_K_init 20 = .ok (.iconst 0, 1) := by decide +kernel
theorem zd_K_init_21 : decode zb_K_init 21 = .ok (.putfield 22, 3) := by decide +kernel
theorem zd_K_init_24 : decode zb_K_init 24 = .ok (.aload_n 0, 1) := by decide +kernel
theorem zd_K_init_25 : decode zb_K_init 25 = .ok (.aconst_null, 1) := by decide +kernel
theorem zd_K_init_26 : decode zb_K_init 26 = .ok (.putfield 25, 3) := by decide +kernel
theorem zd_K_init_29 : decode zb_K_init 29 = .ok (.aload_n 0, 1) := by decide +kernel
theorem zd_K_init_30 : decode zb_K_init 30 = .ok (.iconst 0, 1) := by decide +kernel
theorem zd_K_init_31 : decode zb_K_init 31 = .ok (.putfield 29, 3) := by decide +kernel
theorem zd_K_init_34 : decode zb_K_init 34 = .ok (.aload_n 0, 1) := by decide +kernel
theorem zd_K_init_35 : decode zb_K_init 35 = .ok (.aconst_null, 1) := by decide +kernel
theorem zd_K_init_36 : decode zb_K_init 36 = .ok (.putfield 32, 3) := by decide +kernel
theorem zd_K_init_39 : decode zb_K_init 39 = .ok (.aload_n 0, 1) := by decide +kernel
theorem zd_K_init_40 : decode zb_K_init 40 = .ok (.iload_n 1, 1) := by decide +kernel
theorem zd_K_init_41 : decode zb_K_init 41 = .ok (.putfield 36, 3) := by decide +kernel
theorem zd_K_init_44 : decode zb_K_init 44 = .ok (.aload_n 0, 1) := by decide +kernel
theorem zd_K_init_45 : decode zb_K_init 45 = .ok (.aload_n 2, 1) := by decide +kernel
theorem zd_K_init_46 : decode zb_K_init 46 = .ok (.putfield 39, 3) := by decide +kernel
theorem zd_K_init_49 : decode zb_K_init 49 = .ok (.aload_n 0, 1) := by decide +kernel
theorem zd_K_init_50 : decode zb_K_init 50 = .ok (.iload_n 3, 1) := by decide +kernel
theorem zd_K_init_51 : decode zb_K_init 51 = .ok (.putfield 43, 3) := by decide +kernel
theorem zd_K_init_54 : decode zb_K_init 54 = .ok (.return_, 1) := by decide +kernel
theorem zd_X_enqueue_0 : decode zb_X_enqueue 0 = .ok (.aload_n 0, 1) := by decide +kernel
theorem zd_X_enqueue_1 : decode zb_X_enqueue 1 = .ok (.getfield 229, 3) := by decide +kernel
theorem zd_X_enqueue_4 : decode zb_X_enqueue 4 = .ok (.aload_n 0, 1) := by decide +kernel
theorem zd_X_enqueue_5 : decode zb_X_enqueue 5 = .ok (.getfield 260, 3) := by decide +kernel
theorem zd_X_enqueue_8 : decode zb_X_enqueue 8 = .ok (.invokevirtual 263, 3) := by decide +kernel
theorem zd_X_enqueue_11 : decode zb_X_enqueue 11 = .ok (.astore_n 1, 1) := by decide +kernel
theorem zd_X_enqueue_12 : decode zb_X_enqueue 12 = .ok (.aload_n 1, 1) := by decide +kernel
theorem zd_X_enqueue_13 : decode zb_X_enqueue 13 = .ok (.ifnonnull 5, 3) := by decide +kernel
theorem zd_X_enqueue_16 : decode zb_X_enqueue 16 = .ok (.iconst 0, 1) := by decide +kernel
theorem zd_X_enqueue_17 : decode zb_X_enqueue 17 = .ok (.ireturn, 1) := by decide +kernel
theorem zd_X_enqueue_18 : decode zb_X_enqueue 18 = .ok (.aload_n 1, 1) := by decide +kernel
theorem zd_X_enqueue_19 : decode zb_X_enqueue 19 = .ok (.getfield 106, 3) := by decide +kernel
theorem zd_X_enqueue_22 : decode zb_X_enqueue 22 = .ok (.aload_n 0, 1) := by decide +kernel
theorem zd_X_enqueue_23 : decode zb_X_enqueue 23 = .ok (.getfield 229, 3) := by decide +kernel
theorem zd_X_enqueue_26 : decode zb_X_enqueue 26 = .ok (.getfield 233, 3) := by decide +kernel
theorem zd_X_enqueue_29 : decode zb_X_enqueue 29 = .ok (.aaload, 1) := by decide +kernel
theorem zd_X_enqueue_30 : decode zb_X_enqueue 30 = .ok (.astore_n 2, 1) := by decide +kernel
theorem zd_X_enqueue_31 : decode zb_X_enqueue 31 = .ok (.aload_n 0, 1) := by decide +kernel
theorem zd_X_enqueue_32 : decode zb_X_enqueue 32 = .ok (.iconst 1, 1) := by decide +kernel
theorem zd_X_enqueue_33 : decode zb_X_enqueue 33 = .ok (.putfield 92, 3) := by decide +kernel
theorem zd_X_enqueue_36 : decode zb_X_enqueue 36 = .ok (.aload_n 0, 1) := by decide +kernel
theorem zd_X_enqueue_37 : decode zb_X_enqueue 37 = .ok (.aload_n 1, 1) := by decide +kernel
theorem zd_X_enqueue_38 : decode zb_X_enqueue 38 = .ok (.getfield 161, 3) := by decide +kernel
theorem zd_X_enqueue_41 : decode zb_X_enqueue 41 = .ok (.putfield 95, 3) := by decide +kernel
theorem zd_X_enqueue_44 : decode zb_X_enqueue 44 = .ok (.aload_n 2, 1) := by decide +kernel
theorem zd_X_enqueue_45 : decode zb_X_enqueue 45 = .ok (.aload_n 0, 1) := by decide +kernel
theorem zd_X_enqueue_46 : decode zb_X_enqueue 46 = .ok (.invokevirtual 217, 3) := by decide +kernel
theorem zd_X_enqueue_49 : decode zb_X_enqueue 49 = .ok (.aload_n 2, 1) := by decide +kernel
theorem zd_X_enqueue_50 : decode zb_X_enqueue 50 = .ok (.getfield 112, 3) := by decide +kernel
theorem zd_X_enqueue_53 : decode zb_X_enqueue 53 = .ok (.ireturn, 1) := by decide +kernel
theorem zd_F_portAt_0 : decode zb_F_portAt 0 = .ok (.iload_n 1, 1) := by decide +kernel
theorem zd_F_portAt_1 : decode zb_F_portAt 1 = .ok (.ifCond .lt 21, 3) := by decide +kernel
theorem zd_F_portAt_4 : decode zb_F_portAt 4 = .ok (.iload_n 1, 1) := by decide +kernel
theorem zd_F_portAt_5 : decode zb_F_portAt 5 = .ok (.aload_n 0, 1) := by decide +kernel
theorem zd_F_portAt_6 : decode zb_F_portAt 6 = .ok (.getfield 46, 3) := by decide +kernel
theorem zd_F_portAt_9 : decode zb_F_portAt 9 = .ok (.arraylength, 1) := by decide +kernel
theorem zd_F_portAt_10 : decode zb_F_portAt 10 = .ok (.if_icmp .ge 12, 3) := by decide +kernel
theorem zd_F_portAt_13 : decode zb_F_portAt 13 = .ok (.aload_n 0, 1) := by decide +kernel
theorem zd_F_portAt_14 : decode zb_F_portAt 14 = .ok (.getfield 46, 3) := by decide +kernel
theorem zd_F_portAt_17 : decode zb_F_portAt 17 = .ok (.iload_n 1, 1) := by decide +kernel
theorem zd_F_portAt_18 : decode zb_F_portAt 18 = .ok (.aaload, 1) := by decide +kernel
theorem zd_F_portAt_19 : decode zb_F_portAt 19 = .ok (.goto 4, 3) := by decide +kernel
theorem zd_F_portAt_22 : decode zb_F_portAt 22 = .ok (.aconst_null, 1) := by decide +kernel
theorem zd_F_portAt_23 : decode zb_F_portAt 23 = .ok (.areturn, 1) := by decide +kernel
theorem zd_Q_add_0 : decode zb_Q_add 0 = .ok (.aload_n 1, 1) := by decide +kernel
theorem zd_Q_add_1 : decode zb_Q_add 1 = .ok (.aconst_null, 1) := by decide +kernel
theorem zd_Q_add_2 : decode zb_Q_add 2 = .ok (.putfield 20, 3) := by decide +kernel
theorem zd_Q_add_5 : decode zb_Q_add 5 = .ok (.aload_n 0, 1) := by decide +kernel
theorem zd_Q_add_6 : decode zb_Q_add 6 = .ok (.getfield 13, 3) := by decide +kernel
theorem zd_Q_add_9 : decode zb_Q_add 9 = .ok (.ifnonnull 11, 3) := by decide +kernel
theorem zd_Q_add_12 : decode zb_Q_add 12 = .ok (.aload_n 0, 1) := by decide +kernel
theorem zd_Q_add_13 : decode zb_Q_add 13 = .ok (.aload_n 1, 1) := by decide +kernel
theorem zd_Q_add_14 : decode zb_Q_add 14 = .ok (.putfield 7, 3) := by decide +kernel
theorem zd_Q_add_17 : decode zb_Q_add 17 = .ok (.goto 11, 3) := by decide +kernel
theorem zd_Q_add_20 : decode zb_Q_add 20 = .ok (.aload_n 0, 1) := by decide +kernel
theorem zd_Q_add_21 : decode zb_Q_add 21 = .ok (.getfield 13, 3) := by decide +kernel
theorem zd_Q_add_24 : decode zb_Q_add 24 = .ok (.aload_n 1, 1) := by decide +kernel
theorem zd_Q_add_25 : decode zb_Q_add 25 = .ok (.putfield 20, 3) := by decide +kernel
theorem zd_Q_add_28 : decode zb_Q_add 28 = .ok (.aload_n 0, 1) := by decide +kernel
theorem zd_Q_add_29 : decode zb_Q_add 29 = .ok (.aload_n 1, 1) := by decide +kernel
theorem zd_Q_add_30 : decode zb_Q_add 30 = .ok (.putfield 13, 3) := by decide +kernel
theorem zd_Q_add_33 : decode zb_Q_add 33 = .ok (.aload_n 0, 1) := by decide +kernel
theorem zd_Q_add_34 : decode zb_Q_add 34 = .ok (.dup, 1) := by decide +kernel
theorem zd_Q_add_35 : decode zb_Q_add 35 = .ok (.getfield 16, 3) := by decide +kernel
theorem zd_Q_add_38 : decode zb_Q_add 38 = .ok (.aload_n 1, 1) := by decide +kernel
theorem zd_Q_add_39 : decode zb_Q_add 39 = .ok (.getfield 25, 3) := by decide +kernel
theorem zd_Q_add_42 : decode zb_Q_add 42 = .ok (.iadd, 1) := by decide +kernel
theorem zd_Q_add_43 : decode zb_Q_add 43 = .ok (.putfield 16, 3) := by decide +kernel
theorem zd_Q_add_46 : decode zb_Q_add 46 = .ok (.return_, 1) := by decide +kernel
theorem zd_X_tick_0 : decode zb_X_tick 0 = .ok (.iload_n 1, 1) := by decide +kernel
theorem zd_X_tick_1 : decode zb_X_tick 1 = .ok (.iconst 1, 1) := by decide +kernel
theorem zd_X_tick_2 : decode zb_X_tick 2 = .ok (.if_icmp .lt 9, 3) := by decide +kernel
theorem zd_X_tick_5 : decode zb_X_tick 5 = .ok (.iload_n 1, 1) := by decide +kernel
theorem zd_X_tick_6 : decode zb_X_tick 6 = .ok (.bipush 20, 2) := by decide +kernel
theorem zd_X_tick_8 : decode zb_X_tick 8 = .ok (.if_icmp .le 5, 3) := by decide +kernel
theorem zd_X_tick_11 : decode zb_X_tick 11 = .ok (.iconst (-1), 1) := by decide +kernel
theorem zd_X_tick_12 : decode zb_X_tick 12 = .ok (.ireturn, 1) := by decide +kernel
theorem zd_X_tick_13 : decode zb_X_tick 13 = .ok (.iconst 0, 1) := by decide +kernel
theorem zd_X_tick_14 : decode zb_X_tick 14 = .ok (.istore_n 2, 1) := by decide +kernel
theorem zd_X_tick_15 : decode zb_X_tick 15 = .ok (.iconst 0, 1) := by decide +kernel
theorem zd_X_tick_16 : decode zb_X_tick 16 = .ok (.istore_n 3, 1) := by decide +kernel
theorem zd_X_tick_17 : decode zb_X_tick 17 = .ok (.iload_n 3, 1) := by decide +kernel
theorem zd_X_tick_18 : decode zb_X_tick 18 = .ok (.iload_n 1, 1) := by decide +kernel
theorem zd_X_tick_19 : decode zb_X_tick 19 = .ok (.if_icmp .ge 16, 3) := by decide +kernel
theorem zd_X_tick_22 : decode zb_X_tick 22 = .ok (.iload_n 2, 1) := by decide +kernel
theorem zd_X_tick_23 : decode zb_X_tick 23 = .ok (.aload_n 0, 1) := by decide +kernel
theorem zd_X_tick_24 : decode zb_X_tick 24 = .ok (.invokevirtual 84, 3) := by decide +kernel
theorem zd_X_tick_27 : decode zb_X_tick 27 = .ok (.iadd, 1) := by decide +kernel
theorem zd_X_tick_28 : decode zb_X_tick 28 = .ok (.istore_n 2, 1) := by decide +kernel
theorem zd_X_tick_29 : decode zb_X_tick 29 = .ok (.iinc 3 1, 3) := by decide +kernel
theorem zd_X_tick_32 : decode zb_X_tick 32 = .ok (.goto (-15), 3) := by decide +kernel
theorem zd_X_tick_35 : decode zb_X_tick 35 = .ok (.iload_n 2, 1) := by decide +kernel
theorem zd_X_tick_36 : decode zb_X_tick 36 = .ok (.ireturn, 1) := by decide +kernel
theorem zd_X_makeTick_0 : decode zb_X_makeTick 0 = .ok (.aload_n 0, 1) := by decide +kernel
theorem zd_X_makeTick_1 : decode zb_X_makeTick 1 = .ok (.dup, 1) := by decide +kernel
theorem zd_X_makeTick_2 : decode zb_X_makeTick 2 = .ok (.getfield 40, 3) := by decide +kernel
theorem zd_X_makeTick_5 : decode zb_X_makeTick 5 = .ok (.iconst 1, 1) := by decide +kernel
theorem zd_X_makeTick_6 : decode zb_X_makeTick 6 = .ok (.iadd, 1) := by decide +kernel
theorem zd_X_makeTick_7 : decode zb_X_makeTick 7 = .ok (.putfield 40, 3) := by decide +kernel
theorem zd_X_makeTick_10 : decode zb_X_makeTick 10 = .ok (.aload_n 0, 1) := by decide +kernel
theorem zd_X_makeTick_11 : decode zb_X_makeTick 11 = .ok (.getfield 17, 3) := by decide +kernel
theorem zd_X_makeTick_14 : decode zb_X_makeTick 14 = .ok (.astore_n 1, 1) := by decide +kernel
theorem zd_X_makeTick_15 : decode zb_X_makeTick 15 = .ok (.aload_n 1, 1) := by decide +kernel
theorem zd_X_makeTick_16 : decode zb_X_makeTick 16 = .ok (.arraylength, 1) := by decide +kernel
theorem zd_X_makeTick_17 : decode zb_X_makeTick 17 = .ok (.istore_n 2, 1) := by decide +kernel
theorem zd_X_makeTick_18 : decode zb_X_makeTick 18 = .ok (.iconst 0, 1) := by decide +kernel
theorem zd_X_makeTick_19 : decode zb_X_makeTick 19 = .ok (.istore_n 3, 1) := by decide +kernel
theorem zd_X_makeTick_20 : decode zb_X_makeTick 20 = .ok (.iload_n 3, 1) := by decide +kernel
theorem zd_X_makeTick_21 : decode zb_X_makeTick 21 = .ok (.iload_n 2, 1) := by decide +kernel
theorem zd_X_makeTick_22 : decode zb_X_makeTick 22 = .ok (.if_icmp .ge 28, 3) := by decide +kernel
theorem zd_X_makeTick_25 : decode zb_X_makeTick 25 = .ok (.aload_n 1, 1) := by decide +kernel
theorem zd_X_makeTick_26 : decode zb_X_makeTick 26 = .ok (.iload_n 3, 1) := by decide +kernel
theorem zd_X_makeTick_27 : decode zb_X_makeTick 27 = .ok (.aaload, 1) := by decide +kernel
theorem zd_X_makeTick_28 : decode zb_X_makeTick 28 = .ok (.astore 4, 2) := by decide +kernel
theorem zd_X_makeTick_30 : decode zb_X_makeTick 30 = .ok (.aload 4, 2) := by decide +kernel
theorem zd_X_makeTick_32 : decode zb_X_makeTick 32 = .ok (.aload_n 0, 1) := by decide +kernel
theorem zd_X_makeTick_33 : decode zb_X_makeTick 33 = .ok (.aload 4, 2) := by decide +kernel
theorem zd_X_makeTick_35 : decode zb_X_makeTick 35 = .ok (.getfield 172, 3) := by decide +kernel
theorem zd_X_makeTick_38 : decode zb_X_makeTick 38 = .ok (.invokevirtual 175, 3) := by decide +kernel
theorem zd_X_makeTick_41 : decode zb_X_makeTick 41 = .ok (.putfield 123, 3) := by decide +kernel
theorem zd_X_makeTick_44 : decode zb_X_makeTick 44 = .ok (.iinc 3 1, 3) := by decide +kernel
theorem zd_X_makeTick_47 : decode zb_X_makeTick 47 = .ok (.goto (-27), 3) := by decide +kernel
theorem zd_X_makeTick_50 : decode zb_X_makeTick 50 = .ok (.aload_n 0, 1) := by decide +kernel
theorem zd_X_makeTick_51 : decode zb_X_makeTick 51 = .ok (.getfield 17, 3) := by decide +kernel
theorem zd_X_makeTick_54 : decode zb_X_makeTick 54 = .ok (.astore_n 1, 1) := by decide +kernel
theorem zd_X_makeTick_55 : decode zb_X_makeTick 55 = .ok (.aload_n 1, 1) := by decide +kernel
theorem zd_X_makeTick_56 : decode zb_X_makeTick 56 = .ok (.arraylength, 1) := by decide +kernel
theorem zd_X_makeTick_57 : decode zb_X_makeTick 57 = .ok (.istore_n 2, 1) := by decide +kernel
theorem zd_X_makeTick_58 : decode zb_X_makeTick 58 = .ok (.iconst 0, 1) := by decide +kernel
theorem zd_X_makeTick_59 : decode zb_X_makeTick 59 = .ok (.istore_n 3, 1) := by decide +kernel
theorem zd_X_makeTick_60 : decode zb_X_makeTick 60 = .ok (.iload_n 3, 1) := by decide +kernel
theorem zd_X_makeTick_61 : decode zb_X_makeTick 61 = .ok (.iload_n 2, 1) := by decide +kernel
theorem zd_X_makeTick_62 : decode zb_X_makeTick 62 = .ok (.if_icmp .ge 20, 3) := by decide +kernel
theorem zd_X_makeTick_65 : decode zb_X_makeTick 65 = .ok (.aload_n 1, 1) := by decide +kernel
theorem zd_X_makeTick_66 : decode zb_X_makeTick 66 = .ok (.iload_n 3, 1) := by decide +kernel
theorem zd_X_makeTick_67 : decode zb_X_makeTick 67 = .ok (.aaload, 1) := by decide +kernel
theorem zd_X_makeTick_68 : decode zb_X_makeTick 68 = .ok (.astore 4, 2) := by decide +kernel
theorem zd_X_makeTick_70 : decode zb_X_makeTick 70 = .ok (.aload_n 0, 1) := by decide +kernel
theorem zd_X_makeTick_71 : decode zb_X_makeTick 71 = .ok (.aload 4, 2) := by decide +kernel
theorem zd_X_makeTick_73 : decode zb_X_makeTick 73 = .ok (.invokevirtual 178, 3) := by decide +kernel
theorem zd_X_makeTick_76 : decode zb_X_makeTick 76 = .ok (.iinc 3 1, 3) := by decide +kernel
theorem zd_X_makeTick_79 : decode zb_X_makeTick 79 = .ok (.goto (-19), 3) := by decide +kernel
theorem zd_X_makeTick_82 : decode zb_X_makeTick 82 = .ok (.iconst 0, 1) := by decide +kernel
theorem zd_X_makeTick_83 : decode zb_X_makeTick 83 = .ok (.istore_n 1, 1) := by decide +kernel
theorem zd_X_makeTick_84 : decode zb_X_makeTick 84 = .ok (.iload_n 1, 1) := by decide +kernel
theorem zd_X_makeTick_85 : decode zb_X_makeTick 85 = .ok (.aload_n 0, 1) := by decide +kernel
theorem zd_X_makeTick_86 : decode zb_X_makeTick 86 = .ok (.getfield 33, 3) := by decide +kernel
theorem zd_X_makeTick_89 : decode zb_X_makeTick 89 = .ok (.if_icmp .ge 31, 3) := by decide +kernel
theorem zd_X_makeTick_92 : decode zb_X_makeTick 92 = .ok (.aload_n 0, 1) := by decide +kernel
theorem zd_X_makeTick_93 : decode zb_X_makeTick 93 = .ok (.getfield 23, 3) := by decide +kernel
theorem zd_X_makeTick_96 : decode zb_X_makeTick 96 = .ok (.iload_n 1, 1) := by decide +kernel
theorem zd_X_makeTick_97 : decode zb_X_makeTick 97 = .ok (.aaload, 1) := by decide +kernel
theorem zd_X_makeTick_98 : decode zb_X_makeTick 98 = .ok (.aload_n 0, 1) := by decide +kernel
theorem zd_X_makeTick_99 : decode zb_X_makeTick 99 = .ok (.aload_n 0, 1) := by decide +kernel
theorem zd_X_makeTick_100 : decode zb_X_makeTick 100 = .ok (.getfield 23, 3) := by decide +kernel
theorem zd_X_makeTick_103 : decode zb_X_makeTick 103 = .ok (.iload_n 1, 1) := by decide +kernel
theorem zd_X_makeTick_104 : decode zb_X_makeTick 104 = .ok (.aaload, 1) := by decide +kernel
theorem zd_X_makeTick_105 : decode zb_X_makeTick 105 = .ok (.getfield 182, 3) := by decide +kernel
theorem zd_X_makeTick_108 : decode zb_X_makeTick 108 = .ok (.invokevirtual 175, 3) := by decide +kernel
theorem zd_X_makeTick_111 : decode zb_X_makeTick 111 = .ok (.invokevirtual 185, 3) := by decide +kernel
theorem zd_X_makeTick_114 : decode zb_X_makeTick 114 = .ok (.iinc 1 1, 3) := by decide +kernel
theorem zd_X_makeTick_117 : decode zb_X_makeTick 117 = .ok (.goto (-33), 3) := by decide +kernel
theorem zd_X_makeTick_120 : decode zb_X_makeTick 120 = .ok (.iconst 0, 1) := by decide +kernel
theorem zd_X_makeTick_121 : decode zb_X_makeTick 121 = .ok (.istore_n 1, 1) := by decide +kernel
theorem zd_X_makeTick_122 : decode zb_X_makeTick 122 = .ok (.aload_n 0, 1) := by decide +kernel
theorem zd_X_makeTick_123 : decode zb_X_makeTick 123 = .ok (.getfield 17, 3) := by decide +kernel
theorem zd_X_makeTick_126 : decode zb_X_makeTick 126 = .ok (.astore_n 2, 1) := by decide +kernel
theorem zd_X_makeTick_127 : decode zb_X_makeTick 127 = .ok (.aload_n 2, 1) := by decide +kernel
theorem zd_X_makeTick_128 : decode zb_X_makeTick 128 = .ok (.arraylength, 1) := by decide +kernel
theorem zd_X_makeTick_129 : decode zb_X_makeTick 129 = .ok (.istore_n 3, 1) := by decide +kernel
theorem zd_X_makeTick_130 : decode zb_X_makeTick 130 = .ok (.iconst 0, 1) := by decide +kernel
theorem zd_X_makeTick_131 : decode zb_X_makeTick 131 = .ok (.istore 4, 2) := by decide +kernel
theorem zd_X_makeTick_133 : decode zb_X_makeTick 133 = .ok (.iload 4, 2) := by decide +kernel
theorem zd_X_makeTick_135 : decode zb_X_makeTick 135 = .ok (.iload_n 3, 1) := by decide +kernel
theorem zd_X_makeTick_136 : decode zb_X_makeTick 136 = .ok (.if_icmp .ge 24, 3) := by decide +kernel
theorem zd_X_makeTick_139 : decode zb_X_makeTick 139 = .ok (.aload_n 2, 1) := by decide +kernel
theorem zd_X_makeTick_140 : decode zb_X_makeTick 140 = .ok (.iload 4, 2) := by decide +kernel
theorem zd_X_makeTick_142 : decode zb_X_makeTick 142 = .ok (.aaload, 1) := by decide +kernel
theorem zd_X_makeTick_143 : decode zb_X_makeTick 143 = .ok (.astore 5, 2) := by decide +kernel
theorem zd_X_makeTick_145 : decode zb_X_makeTick 145 = .ok (.iload_n 1, 1) := by decide +kernel
theorem zd_X_makeTick_146 : decode zb_X_makeTick 146 = .ok (.aload_n 0, 1) := by decide +kernel
theorem zd_X_makeTick_147 : decode zb_X_makeTick 147 = .ok (.aload 5, 2) := by decide +kernel
theorem zd_X_makeTick_149 : decode zb_X_makeTick 149 = .ok (.invokevirtual 189, 3) := by decide +kernel
theorem zd_X_makeTick_152 : decode zb_X_makeTick 152 = .ok (.iadd, 1) := by decide +kernel
theorem zd_X_makeTick_153 : decode zb_X_makeTick 153 = .ok (.istore_n 1, 1) := by decide +kernel
theorem zd_X_makeTick_154 : decode zb_X_makeTick 154 = .ok (.iinc 4 1, 3) := by decide +kernel
theorem zd_X_makeTick_157 : decode zb_X_makeTick 157 = .ok (.goto (-24), 3) := by decide +kernel
theorem zd_X_makeTick_160 : decode zb_X_makeTick 160 = .ok (.aload_n 0, 1) := by decide +kernel
theorem zd_X_makeTick_161 : decode zb_X_makeTick 161 = .ok (.getfield 17, 3) := by decide +kernel
theorem zd_X_makeTick_164 : decode zb_X_makeTick 164 = .ok (.astore_n 2, 1) := by decide +kernel
theorem zd_X_makeTick_165 : decode zb_X_makeTick 165 = .ok (.aload_n 2, 1) := by decide +kernel
theorem zd_X_makeTick_166 : decode zb_X_makeTick 166 = .ok (.arraylength, 1) := by decide +kernel
theorem zd_X_makeTick_167 : decode zb_X_makeTick 167 = .ok (.istore_n 3, 1) := by decide +kernel
theorem zd_X_makeTick_168 : decode zb_X_makeTick 168 = .ok (.iconst 0, 1) := by decide +kernel
theorem zd_X_makeTick_169 : decode zb_X_makeTick 169 = .ok (.istore 4, 2) := by decide +kernel
theorem zd_X_makeTick_171 : decode zb_X_makeTick 171 = .ok (.iload 4, 2) := by decide +kernel
theorem zd_X_makeTick_173 : decode zb_X_makeTick 173 = .ok (.iload_n 3, 1) := by decide +kernel
theorem zd_X_makeTick_174 : decode zb_X_makeTick 174 = .ok (.if_icmp .ge 21, 3) := by decide +kernel
theorem zd_X_makeTick_177 : decode zb_X_makeTick 177 = .ok (.aload_n 2, 1) := by decide +kernel
theorem zd_X_makeTick_178 : decode zb_X_makeTick 178 = .ok (.iload 4, 2) := by decide +kernel
theorem zd_X_makeTick_180 : decode zb_X_makeTick 180 = .ok (.aaload, 1) := by decide +kernel
theorem zd_X_makeTick_181 : decode zb_X_makeTick 181 = .ok (.astore 5, 2) := by decide +kernel
theorem zd_X_makeTick_183 : decode zb_X_makeTick 183 = .ok (.aload_n 0, 1) := by decide +kernel
theorem zd_X_makeTick_184 : decode zb_X_makeTick 184 = .ok (.aload 5, 2) := by decide +kernel
theorem zd_X_makeTick_186 : decode zb_X_makeTick 186 = .ok (.invokevirtual 193, 3) := by decide +kernel
theorem zd_X_makeTick_189 : decode zb_X_makeTick 189 = .ok (.iinc 4 1, 3) := by decide +kernel
theorem zd_X_makeTick_192 : decode zb_X_makeTick 192 = .ok (.goto (-21), 3) := by decide +kernel
theorem zd_X_makeTick_195 : decode zb_X_makeTick 195 = .ok (.aload_n 0, 1) := by decide +kernel
theorem zd_X_makeTick_196 : decode zb_X_makeTick 196 = .ok (.invokevirtual 196, 3) := by decide +kernel
theorem zd_X_makeTick_199 : decode zb_X_makeTick 199 = .ok (.iload_n 1, 1) := by decide +kernel
theorem zd_X_makeTick_200 : decode zb_X_makeTick 200 = .ok (.ireturn, 1) := by decide +kernel
theorem zd_X_wasSo_0 : decode zb_X_wasSo 0 = .ok (.iload_n 1, 1) := by decide +kernel
theorem zd_X_wasSo_1 : decode zb_X_wasSo 1 = .ok (.aload_n 0, 1) := by decide +kernel
theorem zd_X_wasSo_2 : decode zb_X_wasSo 2 = .ok (.getfield 47, 3) := by decide +kernel
theorem zd_X_wasSo_5 : decode zb_X_wasSo 5 = .ok (.iconst 1, 1) := by decide +kernel
theorem zd_X_wasSo_6 : decode zb_X_wasSo 6 = .ok (.isub, 1) := by decide +kernel
theorem zd_X_wasSo_7 : decode zb_X_wasSo 7 = .ok (.ishr, 1) := by decide +kernel
theorem zd_X_wasSo_8 : decode zb_X_wasSo 8 = .ok (.iconst 1, 1) := by decide +kernel
theorem zd_X_wasSo_9 : decode zb_X_wasSo 9 = .ok (.iand, 1) := by decide +kernel
theorem zd_X_wasSo_10 : decode zb_X_wasSo 10 = .ok (.iconst 1, 1) := by decide +kernel
theorem zd_X_wasSo_11 : decode zb_X_wasSo 11 = .ok (.if_icmp .ne 7, 3) := by decide +kernel
theorem zd_X_wasSo_14 : decode zb_X_wasSo 14 = .ok (.iconst 1, 1) := by decide +kernel
theorem zd_X_wasSo_15 : decode zb_X_wasSo 15 = .ok (.goto 4, 3) := by decide +kernel
theorem zd_X_wasSo_18 : decode zb_X_wasSo 18 = .ok (.iconst 0, 1) := by decide +kernel
theorem zd_X_wasSo_19 : decode zb_X_wasSo 19 = .ok (.ireturn, 1) := by decide +kernel
theorem zd_X_endSending_0 : decode zb_X_endSending 0 = .ok (.aload_n 1, 1) := by decide +kernel
theorem zd_X_endSending_1 : decode zb_X_endSending 1 = .ok (.getfield 206, 3) := by decide +kernel
theorem zd_X_endSending_4 : decode zb_X_endSending 4 = .ok (.astore_n 2, 1) := by decide +kernel
theorem zd_X_endSending_5 : decode zb_X_endSending 5 = .ok (.aload_n 2, 1) := by decide +kernel
theorem zd_X_endSending_6 : decode zb_X_endSending 6 = .ok (.ifnull 14, 3) := by decide +kernel
theorem zd_X_endSending_9 : decode zb_X_endSending 9 = .ok (.aload_n 2, 1) := by decide +kernel
theorem zd_X_endSending_10 : decode zb_X_endSending 10 = .ok (.getfield 210, 3) := by decide +kernel
theorem zd_X_endSending_13 : decode zb_X_endSending 13 = .ok (.aload_n 0, 1) := by decide +kernel
theorem zd_X_endSending_14 : decode zb_X_endSending 14 = .ok (.getfield 40, 3) := by decide +kernel
theorem zd_X_endSending_17 : decode zb_X_endSending 17 = .ok (.if_icmp .eq 4, 3) := by decide +kernel
theorem zd_X_endSending_20 : decode zb_X_endSending 20 = .ok (.return_, 1) := by decide +kernel
theorem zd_X_endSending_21 : decode zb_X_endSending 21 = .ok (.aload_n 1, 1) := by decide +kernel
theorem zd_X_endSending_22 : decode zb_X_endSending 22 = .ok (.aconst_null, 1) := by decide +kernel
theorem zd_X_endSending_23 : decode zb_X_endSending 23 = .ok (.putfield 206, 3) := by decide +kernel
theorem zd_X_endSending_26 : decode zb_X_endSending 26 = .ok (.aload_n 2, 1) := by decide +kernel
theorem zd_X_endSending_27 : decode zb_X_endSending 27 = .ok (.iconst 3, 1) := by decide +kernel
theorem zd_X_endSending_28 : decode zb_X_endSending 28 = .ok (.putfield 92, 3) := by decide +kernel
theorem zd_X_endSending_31 : decode zb_X_endSending 31 = .ok (.aload_n 2, 1) := by decide +kernel
theorem zd_X_endSending_32 : decode zb_X_endSending 32 = .ok (.aload_n 0, 1) := by decide +kernel
theorem zd_X_endSending_33 : decode zb_X_endSending 33 = .ok (.getfield 40, 3) := by decide +kernel
theorem zd_X_endSending_36 : decode zb_X_endSending 36 = .ok (.aload_n 0, 1) := by decide +kernel
theorem zd_X_endSending_37 : decode zb_X_endSending 37 = .ok (.getfield 47, 3) := by decide +kernel
theorem zd_X_endSending_40 : decode zb_X_endSending 40 = .ok (.iadd, 1) := by decide +kernel
theorem zd_X_endSending_41 : decode zb_X_endSending 41 = .ok (.putfield 210, 3) := by decide +kernel
theorem zd_X_endSending_44 : decode zb_X_endSending 44 = .ok (.aload_n 1, 1) := by decide +kernel
theorem zd_X_endSending_45 : decode zb_X_endSending 45 = .ok (.getfield 213, 3) := by decide +kernel
theorem zd_X_endSending_48 : decode zb_X_endSending 48 = .ok (.aload_n 2, 1) := by decide +kernel
theorem zd_X_endSending_49 : decode zb_X_endSending 49 = .ok (.invokevirtual 217, 3) := by decide +kernel
theorem zd_X_endSending_52 : decode zb_X_endSending 52 = .ok (.aload_n 2, 1) := by decide +kernel
theorem zd_X_endSending_53 : decode zb_X_endSending 53 = .ok (.getfield 221, 3) := by decide +kernel
theorem zd_X_endSending_56 : decode zb_X_endSending 56 = .ok (.ifnull 12, 3) := by decide +kernel
theorem zd_X_endSending_59 : decode zb_X_endSending 59 = .ok (.aload_n 0, 1) := by decide +kernel
theorem zd_X_endSending_60 : decode zb_X_endSending 60 = .ok (.aload_n 2, 1) := by decide +kernel
theorem zd_X_endSending_61 : decode zb_X_endSending 61 = .ok (.aload_n 2, 1) := by decide +kernel
theorem zd_X_endSending_62 : decode zb_X_endSending 62 = .ok (.getfield 221, 3) := by decide +kernel
theorem zd_X_endSending_65 : decode zb_X_endSending 65 = .ok (.invokevirtual 225, 3) := by decide +kernel
theorem zd_X_endSending_68 : decode zb_X_endSending 68 = .ok (.return_, 1) := by decide +kernel
theorem zd_X_release_0 : decode zb_X_release 0 = .ok (.aload_n 1, 1) := by decide +kernel
theorem zd_X_release_1 : decode zb_X_release 1 = .ok (.getfield 229, 3) := by decide +kernel
theorem zd_X_release_4 : decode zb_X_release 4 = .ok (.getfield 233, 3) := by decide +kernel
theorem zd_X_release_7 : decode zb_X_release 7 = .ok (.istore_n 3, 1) := by decide +kernel
theorem zd_X_release_8 : decode zb_X_release 8 = .ok (.aload_n 2, 1) := by decide +kernel
theorem zd_X_release_9 : decode zb_X_release 9 = .ok (.getfield 117, 3) := by decide +kernel
theorem zd_X_release_12 : decode zb_X_release 12 = .ok (.iload_n 3, 1) := by decide +kernel
theorem zd_X_release_13 : decode zb_X_release 13 = .ok (.dup2, 1) := by decide +kernel
theorem zd_X_release_14 : decode zb_X_release 14 = .ok (.iaload, 1) := by decide +kernel
theorem zd_X_release_15 : decode zb_X_release 15 = .ok (.aload_n 1, 1) := by decide +kernel
theorem zd_X_release_16 : decode zb_X_release 16 = .ok (.getfield 236, 3) := by decide +kernel
theorem zd_X_release_19 : decode zb_X_release 19 = .ok (.isub, 1) := by decide +kernel
theorem zd_X_release_20 : decode zb_X_release 20 = .ok (.iastore, 1) := by decide +kernel
theorem zd_X_release_21 : decode zb_X_release 21 = .ok (.iload_n 3, 1) := by decide +kernel
theorem zd_X_release_22 : decode zb_X_release 22 = .ok (.ifCond .ne 23, 3) := by decide +kernel
theorem zd_X_release_25 : decode zb_X_release 25 = .ok (.aload_n 2, 1) := by decide +kernel
theorem zd_X_release_26 : decode zb_X_release 26 = .ok (.getfield 117, 3) := by decide +kernel
theorem zd_X_release_29 : decode zb_X_release 29 = .ok (.iconst 0, 1) := by decide +kernel
theorem zd_X_release_30 : decode zb_X_release 30 = .ok (.iaload, 1) := by decide +kernel
theorem zd_X_release_31 : decode zb_X_release 31 = .ok (.aload_n 0, 1) := by decide +kernel
theorem zd_X_release_32 : decode zb_X_release 32 = .ok (.getfield 50, 3) := by decide +kernel
theorem zd_X_release_35 : decode zb_X_release 35 = .ok (.iconst 2, 1) := by decide +kernel
theorem zd_X_release_36 : decode zb_X_release 36 = .ok (.idiv, 1) := by decide +kernel
theorem zd_X_release_37 : decode zb_X_release 37 = .ok (.if_icmp .gt 8, 3) := by decide +kernel
theorem zd_X_release_40 : decode zb_X_release 40 = .ok (.aload_n 2, 1) := by decide +kernel
theorem zd_X_release_41 : decode zb_X_release 41 = .ok (.iconst 0, 1) := by decide +kernel
theorem zd_X_release_42 : decode zb_X_release 42 = .ok (.putfield 120, 3) := by decide +kernel
theorem zd_X_release_45 : decode zb_X_release 45 = .ok (.return_, 1) := by decide +kernel
theorem zd_F_adjustRate_0 : decode zb_F_adjustRate 0 = .ok (.iload_n 1, 1) := by decide +kernel
theorem zd_F_adjustRate_1 : decode zb_F_adjustRate 1 = .ok (.ifCond .eq 8, 3) := by decide +kernel
theorem zd_F_adjustRate_4 : decode zb_F_adjustRate 4 = .ok (.aload_n 0, 1) := by decide +kernel
theorem zd_F_adjustRate_5 : decode zb_F_adjustRate 5 = .ok (.invokevirtual 50, 3) := by decide +kernel
theorem zd_F_adjustRate_8 : decode zb_F_adjustRate 8 = .ok (.return_, 1) := by decide +kernel
theorem zd_F_adjustRate_9 : decode zb_F_adjustRate 9 = .ok (.aload_n 0, 1) := by decide +kernel
theorem zd_F_adjustRate_10 : decode zb_F_adjustRate 10 = .ok (.dup, 1) := by decide +kernel
theorem zd_F_adjustRate_11 : decode zb_F_adjustRate 11 = .ok (.getfield 21, 3) := by decide +kernel
theorem zd_F_adjustRate_14 : decode zb_F_adjustRate 14 = .ok (.iconst 1, 1) := by decide +kernel
theorem zd_F_adjustRate_15 : decode zb_F_adjustRate 15 = .ok (.iadd, 1) := by decide +kernel
theorem zd_F_adjustRate_16 : decode zb_F_adjustRate 16 = .ok (.putfield 21, 3) := by decide +kernel
theorem zd_F_adjustRate_19 : decode zb_F_adjustRate 19 = .ok (.aload_n 0, 1) := by decide +kernel
theorem zd_F_adjustRate_20 : decode zb_F_adjustRate 20 = .ok (.getfield 21, 3) := by decide +kernel
theorem zd_F_adjustRate_23 : decode zb_F_adjustRate 23 = .ok (.bipush 16, 2) := by decide +kernel
theorem zd_F_adjustRate_25 : decode zb_F_adjustRate 25 = .ok (.if_icmp .ne 7, 3) := by decide +kernel
theorem zd_F_adjustRate_28 : decode zb_F_adjustRate 28 = .ok (.aload_n 0, 1) := by decide +kernel
theorem zd_F_adjustRate_29 : decode zb_F_adjustRate 29 = .ok (.invokevirtual 53, 3) := by decide +kernel
theorem zd_F_adjustRate_32 : decode zb_F_adjustRate 32 = .ok (.return_, 1) := by decide +kernel
theorem zd_F_slowDown_0 : decode zb_F_slowDown 0 = .ok (.aload_n 0, 1) := by decide +kernel
theorem zd_F_slowDown_1 : decode zb_F_slowDown 1 = .ok (.aload_n 0, 1) := by decide +kernel
theorem zd_F_slowDown_2 : decode zb_F_slowDown 2 = .ok (.getfield 9, 3) := by decide +kernel
theorem zd_F_slowDown_5 : decode zb_F_slowDown 5 = .ok (.putfield 15, 3) := by decide +kernel
theorem zd_F_slowDown_8 : decode zb_F_slowDown 8 = .ok (.aload_n 0, 1) := by decide +kernel
theorem zd_F_slowDown_9 : decode zb_F_slowDown 9 = .ok (.iconst 1, 1) := by decide +kernel
theorem zd_F_slowDown_10 : decode zb_F_slowDown 10 = .ok (.aload_n 0, 1) := by decide +kernel
theorem zd_F_slowDown_11 : decode zb_F_slowDown 11 = .ok (.getfield 9, 3) := by decide +kernel
theorem zd_F_slowDown_14 : decode zb_F_slowDown 14 = .ok (.aload_n 0, 1) := by decide +kernel
theorem zd_F_slowDown_15 : decode zb_F_slowDown 15 = .ok (.getfield 9, 3) := by decide +kernel
theorem zd_F_slowDown_18 : decode zb_F_slowDown 18 = .ok (.aload_n 0, 1) := by decide +kernel
theorem zd_F_slowDown_19 : decode zb_F_slowDown 19 = .ok (.getfield 18, 3) := by decide +kernel
theorem zd_F_slowDown_22 : decode zb_F_slowDown 22 = .ok (.imul, 1) := by decide +kernel
theorem zd_F_slowDown_23 : decode zb_F_slowDown 23 = .ok (.sipush 128, 3) := by decide +kernel
theorem zd_F_slowDown_26 : decode zb_F_slowDown 26 = .ok (.idiv, 1) := by decide +kernel
theorem zd_F_slowDown_27 : decode zb_F_slowDown 27 = .ok (.isub, 1) := by decide +kernel
theorem zd_F_slowDown_28 : decode zb_F_slowDown 28 = .ok (.invokestatic 56, 3) := by decide +kernel
theorem zd_F_slowDown_31 : decode zb_F_slowDown 31 = .ok (.putfield 9, 3) := by decide +kernel
theorem zd_F_slowDown_34 : decode zb_F_slowDown 34 = .ok (.aload_n 0, 1) := by decide +kernel
theorem zd_F_slowDown_35 : decode zb_F_slowDown 35 = .ok (.bipush 15, 2) := by decide +kernel
theorem zd_F_slowDown_37 : decode zb_F_slowDown 37 = .ok (.aload_n 0, 1) := by decide +kernel
theorem zd_F_slowDown_38 : decode zb_F_slowDown 38 = .ok (.getfield 18, 3) := by decide +kernel
theorem zd_F_slowDown_41 : decode zb_F_slowDown 41 = .ok (.imul, 1) := by decide +kernel
theorem zd_F_slowDown_42 : decode zb_F_slowDown 42 = .ok (.bipush 64, 2) := by decide +kernel
theorem zd_F_slowDown_44 : decode zb_F_slowDown 44 = .ok (.iadd, 1) := by decide +kernel
theorem zd_F_slowDown_45 : decode zb_F_slowDown 45 = .ok (.bipush 16, 2) := by decide +kernel
theorem zd_F_slowDown_47 : decode zb_F_slowDown 47 = .ok (.idiv, 1) := by decide +kernel
theorem zd_F_slowDown_48 : decode zb_F_slowDown 48 = .ok (.putfield 18, 3) := by decide +kernel
theorem zd_F_slowDown_51 : decode zb_F_slowDown 51 = .ok (.aload_n 0, 1) := by decide +kernel
theorem zd_F_slowDown_52 : decode zb_F_slowDown 52 = .ok (.iconst 0, 1) := by decide +kernel
theorem zd_F_slowDown_53 : decode zb_F_slowDown 53 = .ok (.putfield 21, 3) := by decide +kernel
theorem zd_F_slowDown_56 : decode zb_F_slowDown 56 = .ok (.return_, 1) := by decide +kernel
theorem zd_F_recover_0 : decode zb_F_recover 0 = .ok (.aload_n 0, 1) := by decide +kernel
theorem zd_F_recover_1 : decode zb_F_recover 1 = .ok (.iconst 0, 1) := by decide +kernel
theorem zd_F_recover_2 : decode zb_F_recover 2 = .ok (.putfield 21, 3) := by decide +kernel
theorem zd_F_recover_5 : decode zb_F_recover 5 = .ok (.aload_n 0, 1) := by decide +kernel
theorem zd_F_recover_6 : decode zb_F_recover 6 = .ok (.bipush 15, 2) := by decide +kernel
theorem zd_F_recover_8 : decode zb_F_recover 8 = .ok (.aload_n 0, 1) := by decide +kernel
theorem zd_F_recover_9 : decode zb_F_recover 9 = .ok (.getfield 18, 3) := by decide +kernel
theorem zd_F_recover_12 : decode zb_F_recover 12 = .ok (.imul, 1) := by decide +kernel
theorem zd_F_recover_13 : decode zb_F_recover 13 = .ok (.bipush 16, 2) := by decide +kernel
theorem zd_F_recover_15 : decode zb_F_recover 15 = .ok (.idiv, 1) := by decide +kernel
theorem zd_F_recover_16 : decode zb_F_recover 16 = .ok (.putfield 18, 3) := by decide +kernel
theorem zd_F_recover_19 : decode zb_F_recover 19 = .ok (.aload_n 0, 1) := by decide +kernel
theorem zd_F_recover_20 : decode zb_F_recover 20 = .ok (.aload_n 0, 1) := by decide +kernel
theorem zd_F_recover_21 : decode zb_F_recover 21 = .ok (.getfield 9, 3) := by decide +kernel
theorem zd_F_recover_24 : decode zb_F_recover 24 = .ok (.aload_n 0, 1) := by decide +kernel
theorem zd_F_recover_25 : decode zb_F_recover 25 = .ok (.getfield 15, 3) := by decide +kernel
theorem zd_F_recover_28 : decode zb_F_recover 28 = .ok (.iadd, 1) := by decide +kernel
theorem zd_F_recover_29 : decode zb_F_recover 29 = .ok (.iconst 1, 1) := by decide +kernel
theorem zd_F_recover_30 : decode zb_F_recover 30 = .ok (.iadd, 1) := by decide +kernel
theorem zd_F_recover_31 : decode zb_F_recover 31 = .ok (.iconst 2, 1) := by decide +kernel
theorem zd_F_recover_32 : decode zb_F_recover 32 = .ok (.idiv, 1) := by decide +kernel
theorem zd_F_recover_33 : decode zb_F_recover 33 = .ok (.putfield 9, 3) := by decide +kernel
theorem zd_F_recover_36 : decode zb_F_recover 36 = .ok (.return_, 1) := by decide +kernel
theorem zd_X_deliver_0 : decode zb_X_deliver 0 = .ok (.aload_n 1, 1) := by decide +kernel
theorem zd_X_deliver_1 : decode zb_X_deliver 1 = .ok (.getfield 213, 3) := by decide +kernel
theorem zd_X_deliver_4 : decode zb_X_deliver 4 = .ok (.getfield 237, 3) := by decide +kernel
theorem zd_X_deliver_7 : decode zb_X_deliver 7 = .ok (.astore_n 2, 1) := by decide +kernel
theorem zd_X_deliver_8 : decode zb_X_deliver 8 = .ok (.aload_n 2, 1) := by decide +kernel
theorem zd_X_deliver_9 : decode zb_X_deliver 9 = .ok (.ifnull 14, 3) := by decide +kernel
theorem zd_X_deliver_12 : decode zb_X_deliver 12 = .ok (.aload_n 2, 1) := by decide +kernel
theorem zd_X_deliver_13 : decode zb_X_deliver 13 = .ok (.getfield 210, 3) := by decide +kernel
theorem zd_X_deliver_16 : decode zb_X_deliver 16 = .ok (.aload_n 0, 1) := by decide +kernel
theorem zd_X_deliver_17 : decode zb_X_deliver 17 = .ok (.getfield 40, 3) := by decide +kernel
theorem zd_X_deliver_20 : decode zb_X_deliver 20 = .ok (.if_icmp .eq 5, 3) := by decide +kernel
theorem zd_X_deliver_23 : decode zb_X_deliver 23 = .ok (.iconst 0, 1) := by decide +kernel
theorem zd_X_deliver_24 : decode zb_X_deliver 24 = .ok (.ireturn, 1) := by decide +kernel
theorem zd_X_deliver_25 : decode zb_X_deliver 25 = .ok (.aload_n 1, 1) := by decide +kernel
theorem zd_X_deliver_26 : decode zb_X_deliver 26 = .ok (.getfield 213, 3) := by decide +kernel
theorem zd_X_deliver_29 : decode zb_X_deliver 29 = .ok (.invokevirtual 240, 3) := by decide +kernel
theorem zd_X_deliver_32 : decode zb_X_deliver 32 = .ok (.aload_n 2, 1) := by decide +kernel
theorem zd_X_deliver_33 : decode zb_X_deliver 33 = .ok (.aload_n 1, 1) := by decide +kernel
theorem zd_X_deliver_34 : decode zb_X_deliver 34 = .ok (.getfield 164, 3) := by decide +kernel
theorem zd_X_deliver_37 : decode zb_X_deliver 37 = .ok (.putfield 95, 3) := by decide +kernel
theorem zd_X_deliver_40 : decode zb_X_deliver 40 = .ok (.aload_n 1, 1) := by decide +kernel
theorem zd_X_deliver_41 : decode zb_X_deliver 41 = .ok (.getfield 164, 3) := by decide +kernel
theorem zd_X_deliver_44 : decode zb_X_deliver 44 = .ok (.invokestatic 59, 3) := by decide +kernel
theorem zd_X_deliver_47 : decode zb_X_deliver 47 = .ok (.ifCond .eq 9, 3) := by decide +kernel
theorem zd_X_deliver_50 : decode zb_X_deliver 50 = .ok (.aload_n 2, 1) := by decide +kernel
theorem zd_X_deliver_51 : decode zb_X_deliver 51 = .ok (.invokestatic 243, 3) := by decide +kernel
theorem zd_X_deliver_54 : decode zb_X_deliver 54 = .ok (.iconst 1, 1) := by decide +kernel
theorem zd_X_deliver_55 : decode zb_X_deliver 55 = .ok (.ireturn, 1) := by decide +kernel
theorem zd_X_deliver_56 : decode zb_X_deliver 56 = .ok (.aload_n 0, 1) := by decide +kernel
theorem zd_X_deliver_57 : decode zb_X_deliver 57 = .ok (.aload_n 1, 1) := by decide +kernel
theorem zd_X_deliver_58 : decode zb_X_deliver 58 = .ok (.aload_n 2, 1) := by decide +kernel
theorem zd_X_deliver_59 : decode zb_X_deliver 59 = .ok (.invokevirtual 246, 3) := by decide +kernel
theorem zd_X_deliver_62 : decode zb_X_deliver 62 = .ok (.ifCond .eq 12, 3) := by decide +kernel
theorem zd_X_deliver_65 : decode zb_X_deliver 65 = .ok (.aload_n 0, 1) := by decide +kernel
theorem zd_X_deliver_66 : decode zb_X_deliver 66 = .ok (.aload_n 1, 1) := by decide +kernel
theorem zd_X_deliver_67 : decode zb_X_deliver 67 = .ok (.aload_n 2, 1) := by decide +kernel
theorem zd_X_deliver_68 : decode zb_X_deliver 68 = .ok (.invokevirtual 250, 3) := by decide +kernel
theorem zd_X_deliver_71 : decode zb_X_deliver 71 = .ok (.goto 7, 3) := by decide +kernel
theorem zd_X_deliver_74 : decode zb_X_deliver 74 = .ok (.aload_n 2, 1) := by decide +kernel
theorem zd_X_deliver_75 : decode zb_X_deliver 75 = .ok (.invokestatic 254, 3) := by decide +kernel
theorem zd_X_deliver_78 : decode zb_X_deliver 78 = .ok (.iconst 0, 1) := by decide +kernel
theorem zd_X_deliver_79 : decode zb_X_deliver 79 = .ok (.ireturn, 1) := by decide +kernel
theorem zd_Q_removeFirst_0 : decode zb_Q_removeFirst 0 = .ok (.aload_n 0, 1) := by decide +kernel
theorem zd_Q_removeFirst_1 : decode zb_Q_removeFirst 1 = .ok (.getfield 7, 3) := by decide +kernel
theorem zd_Q_removeFirst_4 : decode zb_Q_removeFirst 4 = .ok (.astore_n 1, 1) := by decide +kernel
theorem zd_Q_removeFirst_5 : decode zb_Q_removeFirst 5 = .ok (.aload_n 1, 1) := by decide +kernel
theorem zd_Q_removeFirst_6 : decode zb_Q_removeFirst 6 = .ok (.ifnonnull 4, 3) := by decide +kernel
theorem zd_Q_removeFirst_9 : decode zb_Q_removeFirst 9 = .ok (.return_, 1) := by decide +kernel
theorem zd_Q_removeFirst_10 : decode zb_Q_removeFirst 10 = .ok (.aload_n 0, 1) := by decide +kernel
theorem zd_Q_removeFirst_11 : decode zb_Q_removeFirst 11 = .ok (.aload_n 1, 1) := by decide +kernel
theorem zd_Q_removeFirst_12 : decode zb_Q_removeFirst 12 = .ok (.getfield 20, 3) := by decide +kernel
theorem zd_Q_removeFirst_15 : decode zb_Q_removeFirst 15 = .ok (.putfield 7, 3) := by decide +kernel
theorem zd_Q_removeFirst_18 : decode zb_Q_removeFirst 18 = .ok (.aload_n 0, 1) := by decide +kernel
theorem zd_Q_removeFirst_19 : decode zb_Q_removeFirst 19 = .ok (.getfield 7, 3) := by decide +kernel
theorem zd_Q_removeFirst_22 : decode zb_Q_removeFirst 22 = .ok (.ifnonnull 8, 3) := by decide +kernel
theorem zd_Q_removeFirst_25 : decode zb_Q_removeFirst 25 = .ok (.aload_n 0, 1) := by decide +kernel
theorem zd_Q_removeFirst_26 : decode zb_Q_removeFirst 26 = .ok (.aconst_null, 1) := by decide +kernel
theorem zd_Q_removeFirst_27 : decode zb_Q_removeFirst 27 = .ok (.putfield 13, 3) := by decide +kernel
theorem zd_Q_removeFirst_30 : decode zb_Q_removeFirst 30 = .ok (.aload_n 1, 1) := by decide +kernel
theorem zd_Q_removeFirst_31 : decode zb_Q_removeFirst 31 = .ok (.aconst_null, 1) := by decide +kernel
theorem zd_Q_removeFirst_32 : decode zb_Q_removeFirst 32 = .ok (.putfield 20, 3) := by decide +kernel
theorem zd_Q_removeFirst_35 : decode zb_Q_removeFirst 35 = .ok (.aload_n 0, 1) := by decide +kernel
theorem zd_Q_removeFirst_36 : decode zb_Q_removeFirst 36 = .ok (.dup, 1) := by decide +kernel
theorem zd_Q_removeFirst_37 : decode zb_Q_removeFirst 37 = .ok (.getfield 16, 3) := by decide +kernel
theorem zd_Q_removeFirst_40 : decode zb_Q_removeFirst 40 = .ok (.aload_n 1, 1) := by decide +kernel
theorem zd_Q_removeFirst_41 : decode zb_Q_removeFirst 41 = .ok (.getfield 25, 3) := by decide +kernel
theorem zd_Q_removeFirst_44 : decode zb_Q_removeFirst 44 = .ok (.isub, 1) := by decide +kernel
theorem zd_Q_removeFirst_45 : decode zb_Q_removeFirst 45 = .ok (.putfield 16, 3) := by decide +kernel
theorem zd_Q_removeFirst_48 : decode zb_Q_removeFirst 48 = .ok (.return_, 1) := by decide +kernel
theorem zd_X_receive_0 : decode zb_X_receive 0 = .ok (.aload_n 0, 1) := by decide +kernel
theorem zd_X_receive_1 : decode zb_X_receive 1 = .ok (.getfield 229, 3) := by decide +kernel
theorem zd_X_receive_4 : decode zb_X_receive 4 = .ok (.astore_n 1, 1) := by decide +kernel
theorem zd_X_receive_5 : decode zb_X_receive 5 = .ok (.aload_n 0, 1) := by decide +kernel
theorem zd_X_receive_6 : decode zb_X_receive 6 = .ok (.iconst 4, 1) := by decide +kernel
theorem zd_X_receive_7 : decode zb_X_receive 7 = .ok (.putfield 92, 3) := by decide +kernel
theorem zd_X_receive_10 : decode zb_X_receive 10 = .ok (.aload_n 1, 1) := by decide +kernel
theorem zd_X_receive_11 : decode zb_X_receive 11 = .ok (.dup, 1) := by decide +kernel
theorem zd_X_receive_12 : decode zb_X_receive 12 = .ok (.getfield 132, 3) := by decide +kernel
theorem zd_X_receive_15 : decode zb_X_receive 15 = .ok (.iconst 1, 1) := by decide +kernel
theorem zd_X_receive_16 : decode zb_X_receive 16 = .ok (.iadd, 1) := by decide +kernel
theorem zd_X_receive_17 : decode zb_X_receive 17 = .ok (.putfield 132, 3) := by decide +kernel
theorem zd_X_receive_20 : decode zb_X_receive 20 = .ok (.aload_n 1, 1) := by decide +kernel
theorem zd_X_receive_21 : decode zb_X_receive 21 = .ok (.aload_n 0, 1) := by decide +kernel
theorem zd_X_receive_22 : decode zb_X_receive 22 = .ok (.getfield 257, 3) := by decide +kernel
theorem zd_X_receive_25 : decode zb_X_receive 25 = .ok (.putfield 138, 3) := by decide +kernel
theorem zd_X_receive_28 : decode zb_X_receive 28 = .ok (.aload_n 0, 1) := by decide +kernel
theorem zd_X_receive_29 : decode zb_X_receive 29 = .ok (.getfield 98, 3) := by decide +kernel
theorem zd_X_receive_32 : decode zb_X_receive 32 = .ok (.ifCond .eq 8, 3) := by decide +kernel
theorem zd_X_receive_35 : decode zb_X_receive 35 = .ok (.aload_n 1, 1) := by decide +kernel
theorem zd_X_receive_36 : decode zb_X_receive 36 = .ok (.iconst 1, 1) := by decide +kernel
theorem zd_X_receive_37 : decode zb_X_receive 37 = .ok (.putfield 203, 3) := by decide +kernel
theorem zd_X_receive_40 : decode zb_X_receive 40 = .ok (.return_, 1) := by decide +kernel
theorem zd_X_hasPlace_0 : decode zb_X_hasPlace 0 = .ok (.aload_n 2, 1) := by decide +kernel
theorem zd_X_hasPlace_1 : decode zb_X_hasPlace 1 = .ok (.getfield 229, 3) := by decide +kernel
theorem zd_X_hasPlace_4 : decode zb_X_hasPlace 4 = .ok (.getfield 233, 3) := by decide +kernel
theorem zd_X_hasPlace_7 : decode zb_X_hasPlace 7 = .ok (.istore_n 3, 1) := by decide +kernel
theorem zd_X_hasPlace_8 : decode zb_X_hasPlace 8 = .ok (.iload_n 3, 1) := by decide +kernel
theorem zd_X_hasPlace_9 : decode zb_X_hasPlace 9 = .ok (.ifCond .ne 15, 3) := by decide +kernel
theorem zd_X_hasPlace_12 : decode zb_X_hasPlace 12 = .ok (.aload_n 0, 1) := by decide +kernel
theorem zd_X_hasPlace_13 : decode zb_X_hasPlace 13 = .ok (.getfield 50, 3) := by decide +kernel
theorem zd_X_hasPlace_16 : decode zb_X_hasPlace 16 = .ok (.aload_n 0, 1) := by decide +kernel
theorem zd_X_hasPlace_17 : decode zb_X_hasPlace 17 = .ok (.getfield 53, 3) := by decide +kernel
theorem zd_X_hasPlace_20 : decode zb_X_hasPlace 20 = .ok (.iadd, 1) := by decide +kernel
theorem zd_X_hasPlace_21 : decode zb_X_hasPlace 21 = .ok (.goto 7, 3) := by decide +kernel
theorem zd_X_hasPlace_24 : decode zb_X_hasPlace 24 = .ok (.aload_n 0, 1) := by decide +kernel
theorem zd_X_hasPlace_25 : decode zb_X_hasPlace 25 = .ok (.getfield 50, 3) := by decide +kernel
theorem zd_X_hasPlace_28 : decode zb_X_hasPlace 28 = .ok (.istore 4, 2) := by decide +kernel
theorem zd_X_hasPlace_30 : decode zb_X_hasPlace 30 = .ok (.aload_n 1, 1) := by decide +kernel
theorem zd_X_hasPlace_31 : decode zb_X_hasPlace 31 = .ok (.getfield 117, 3) := by decide +kernel
theorem zd_X_hasPlace_34 : decode zb_X_hasPlace 34 = .ok (.iload_n 3, 1) := by decide +kernel
theorem zd_X_hasPlace_35 : decode zb_X_hasPlace 35 = .ok (.iaload, 1) := by decide +kernel
theorem zd_X_hasPlace_36 : decode zb_X_hasPlace 36 = .ok (.aload_n 2, 1) := by decide +kernel
theorem zd_X_hasPlace_37 : decode zb_X_hasPlace 37 = .ok (.getfield 236, 3) := by decide +kernel
theorem zd_X_hasPlace_40 : decode zb_X_hasPlace 40 = .ok (.iadd, 1) := by decide +kernel
theorem zd_X_hasPlace_41 : decode zb_X_hasPlace 41 = .ok (.iload 4, 2) := by decide +kernel
theorem zd_X_hasPlace_43 : decode zb_X_hasPlace 43 = .ok (.if_icmp .gt 7, 3) := by decide +kernel
theorem zd_X_hasPlace_46 : decode zb_X_hasPlace 46 = .ok (.iconst 1, 1) := by decide +kernel
theorem zd_X_hasPlace_47 : decode zb_X_hasPlace 47 = .ok (.goto 4, 3) := by decide +kernel
theorem zd_X_hasPlace_50 : decode zb_X_hasPlace 50 = .ok (.iconst 0, 1) := by decide +kernel
theorem zd_X_hasPlace_51 : decode zb_X_hasPlace 51 = .ok (.ireturn, 1) := by decide +kernel
theorem zd_X_hold_0 : decode zb_X_hold 0 = .ok (.aload_n 2, 1) := by decide +kernel
theorem zd_X_hold_1 : decode zb_X_hold 1 = .ok (.getfield 229, 3) := by decide +kernel
theorem zd_X_hold_4 : decode zb_X_hold 4 = .ok (.getfield 233, 3) := by decide +kernel
theorem zd_X_hold_7 : decode zb_X_hold 7 = .ok (.istore_n 3, 1) := by decide +kernel
theorem zd_X_hold_8 : decode zb_X_hold 8 = .ok (.aload_n 1, 1) := by decide +kernel
theorem zd_X_hold_9 : decode zb_X_hold 9 = .ok (.getfield 117, 3) := by decide +kernel
theorem zd_X_hold_12 : decode zb_X_hold 12 = .ok (.iload_n 3, 1) := by decide +kernel
theorem zd_X_hold_13 : decode zb_X_hold 13 = .ok (.dup2, 1) := by decide +kernel
theorem zd_X_hold_14 : decode zb_X_hold 14 = .ok (.iaload, 1) := by decide +kernel
theorem zd_X_hold_15 : decode zb_X_hold 15 = .ok (.aload_n 2, 1) := by decide +kernel
theorem zd_X_hold_16 : decode zb_X_hold 16 = .ok (.getfield 236, 3) := by decide +kernel
theorem zd_X_hold_19 : decode zb_X_hold 19 = .ok (.iadd, 1) := by decide +kernel
theorem zd_X_hold_20 : decode zb_X_hold 20 = .ok (.iastore, 1) := by decide +kernel
theorem zd_X_hold_21 : decode zb_X_hold 21 = .ok (.iload_n 3, 1) := by decide +kernel
theorem zd_X_hold_22 : decode zb_X_hold 22 = .ok (.ifCond .ne 21, 3) := by decide +kernel
theorem zd_X_hold_25 : decode zb_X_hold 25 = .ok (.aload_n 1, 1) := by decide +kernel
theorem zd_X_hold_26 : decode zb_X_hold 26 = .ok (.getfield 117, 3) := by decide +kernel
theorem zd_X_hold_29 : decode zb_X_hold 29 = .ok (.iconst 0, 1) := by decide +kernel
theorem zd_X_hold_30 : decode zb_X_hold 30 = .ok (.iaload, 1) := by decide +kernel
theorem zd_X_hold_31 : decode zb_X_hold 31 = .ok (.aload_n 0, 1) := by decide +kernel
theorem zd_X_hold_32 : decode zb_X_hold 32 = .ok (.getfield 50, 3) := by decide +kernel
theorem zd_X_hold_35 : decode zb_X_hold 35 = .ok (.if_icmp .lt 8, 3) := by decide +kernel
theorem zd_X_hold_38 : decode zb_X_hold 38 = .ok (.aload_n 1, 1) := by decide +kernel
theorem zd_X_hold_39 : decode zb_X_hold 39 = .ok (.iconst 1, 1) := by decide +kernel
theorem zd_X_hold_40 : decode zb_X_hold 40 = .ok (.putfield 120, 3) := by decide +kernel
theorem zd_X_hold_43 : decode zb_X_hold 43 = .ok (.aload_n 2, 1) := by decide +kernel
theorem zd_X_hold_44 : decode zb_X_hold 44 = .ok (.aload_n 1, 1) := by decide +kernel
theorem zd_X_hold_45 : decode zb_X_hold 45 = .ok (.putfield 221, 3) := by decide +kernel
theorem zd_X_hold_48 : decode zb_X_hold 48 = .ok (.aload_n 2, 1) := by decide +kernel
theorem zd_X_hold_49 : decode zb_X_hold 49 = .ok (.dup, 1) := by decide +kernel
theorem zd_X_hold_50 : decode zb_X_hold 50 = .ok (.getfield 260, 3) := by decide +kernel
theorem zd_X_hold_53 : decode zb_X_hold 53 = .ok (.iconst 1, 1) := by decide +kernel
theorem zd_X_hold_54 : decode zb_X_hold 54 = .ok (.iadd, 1) := by decide +kernel
theorem zd_X_hold_55 : decode zb_X_hold 55 = .ok (.putfield 260, 3) := by decide +kernel
theorem zd_X_hold_58 : decode zb_X_hold 58 = .ok (.aload_n 2, 1) := by decide +kernel
theorem zd_X_hold_59 : decode zb_X_hold 59 = .ok (.invokestatic 80, 3) := by decide +kernel
theorem zd_X_hold_62 : decode zb_X_hold 62 = .ok (.aload_n 0, 1) := by decide +kernel
theorem zd_X_hold_63 : decode zb_X_hold 63 = .ok (.getfield 56, 3) := by decide +kernel
theorem zd_X_hold_66 : decode zb_X_hold 66 = .ok (.if_icmp .le 8, 3) := by decide +kernel
theorem zd_X_hold_69 : decode zb_X_hold 69 = .ok (.aload_n 2, 1) := by decide +kernel
theorem zd_X_hold_70 : decode zb_X_hold 70 = .ok (.iconst 1, 1) := by decide +kernel
theorem zd_X_hold_71 : decode zb_X_hold 71 = .ok (.putfield 98, 3) := by decide +kernel
theorem zd_X_hold_74 : decode zb_X_hold 74 = .ok (.return_, 1) := by decide +kernel
theorem zd_X_drop_0 : decode zb_X_drop 0 = .ok (.aload_n 0, 1) := by decide +kernel
theorem zd_X_drop_1 : decode zb_X_drop 1 = .ok (.iconst 5, 1) := by decide +kernel
theorem zd_X_drop_2 : decode zb_X_drop 2 = .ok (.putfield 92, 3) := by decide +kernel
theorem zd_X_drop_5 : decode zb_X_drop 5 = .ok (.aload_n 0, 1) := by decide +kernel
theorem zd_X_drop_6 : decode zb_X_drop 6 = .ok (.getfield 229, 3) := by decide +kernel
theorem zd_X_drop_9 : decode zb_X_drop 9 = .ok (.dup, 1) := by decide +kernel
theorem zd_X_drop_10 : decode zb_X_drop 10 = .ok (.getfield 135, 3) := by decide +kernel
theorem zd_X_drop_13 : decode zb_X_drop 13 = .ok (.iconst 1, 1) := by decide +kernel
theorem zd_X_drop_14 : decode zb_X_drop 14 = .ok (.iadd, 1) := by decide +kernel
theorem zd_X_drop_15 : decode zb_X_drop 15 = .ok (.putfield 135, 3) := by decide +kernel
theorem zd_X_drop_18 : decode zb_X_drop 18 = .ok (.return_, 1) := by decide +kernel
theorem zd_X_choose_0 : decode zb_X_choose 0 = .ok (.aload_n 1, 1) := by decide +kernel
theorem zd_X_choose_1 : decode zb_X_choose 1 = .ok (.getfield 206, 3) := by decide +kernel
theorem zd_X_choose_4 : decode zb_X_choose 4 = .ok (.ifnull 4, 3) := by decide +kernel
theorem zd_X_choose_7 : decode zb_X_choose 7 = .ok (.return_, 1) := by decide +kernel
theorem zd_X_choose_8 : decode zb_X_choose 8 = .ok (.iconst 0, 1) := by decide +kernel
theorem zd_X_choose_9 : decode zb_X_choose 9 = .ok (.istore_n 2, 1) := by decide +kernel
theorem zd_X_choose_10 : decode zb_X_choose 10 = .ok (.iload_n 2, 1) := by decide +kernel
theorem zd_X_choose_11 : decode zb_X_choose 11 = .ok (.bipush 64, 2) := by decide +kernel
theorem zd_X_choose_13 : decode zb_X_choose 13 = .ok (.if_icmp .ge 114, 3) := by decide +kernel
theorem zd_X_choose_16 : decode zb_X_choose 16 = .ok (.aload_n 1, 1) := by decide +kernel
theorem zd_X_choose_17 : decode zb_X_choose 17 = .ok (.getfield 267, 3) := by decide +kernel
theorem zd_X_choose_20 : decode zb_X_choose 20 = .ok (.istore_n 3, 1) := by decide +kernel
theorem zd_X_choose_21 : decode zb_X_choose 21 = .ok (.iconst 1, 1) := by decide +kernel
theorem zd_X_choose_22 : decode zb_X_choose 22 = .ok (.iload_n 3, 1) := by decide +kernel
theorem zd_X_choose_23 : decode zb_X_choose 23 = .ok (.isub, 1) := by decide +kernel
theorem zd_X_choose_24 : decode zb_X_choose 24 = .ok (.istore 4, 2) := by decide +kernel
theorem zd_X_choose_26 : decode zb_X_choose 26 = .ok (.aload_n 0, 1) := by decide +kernel
theorem zd_X_choose_27 : decode zb_X_choose 27 = .ok (.aload_n 1, 1) := by decide +kernel
theorem zd_X_choose_28 : decode zb_X_choose 28 = .ok (.iload_n 3, 1) := by decide +kernel
theorem zd_X_choose_29 : decode zb_X_choose 29 = .ok (.invokevirtual 270, 3) := by decide +kernel
theorem zd_X_choose_32 : decode zb_X_choose 32 = .ok (.astore 5, 2) := by decide +kernel
theorem zd_X_choose_34 : decode zb_X_choose 34 = .ok (.aload_n 0, 1) := by decide +kernel
theorem zd_X_choose_35 : decode zb_X_choose 35 = .ok (.aload_n 1, 1) := by decide +kernel
theorem zd_X_choose_36 : decode zb_X_choose 36 = .ok (.iload 4, 2) := by decide +kernel
theorem zd_X_choose_38 : decode zb_X_choose 38 = .ok (.invokevirtual 270, 3) := by decide +kernel
theorem zd_X_choose_41 : decode zb_X_choose 41 = .ok (.astore 6, 2) := by decide +kernel
theorem zd_X_choose_43 : decode zb_X_choose 43 = .ok (.aload 5, 2) := by decide +kernel
theorem zd_X_choose_45 : decode zb_X_choose 45 = .ok (.ifnonnull 9, 3) := by decide +kernel
theorem zd_X_choose_48 : decode zb_X_choose 48 = .ok (.aload 6, 2) := by decide +kernel
theorem zd_X_choose_50 : decode zb_X_choose 50 = .ok (.ifnonnull 4, 3) := by decide +kernel
theorem zd_X_choose_53 : decode zb_X_choose 53 = .ok (.return_, 1) := by decide +kernel
theorem zd_X_choose_54 : decode zb_X_choose 54 = .ok (.aload 5, 2) := by decide +kernel
theorem zd_X_choose_56 : decode zb_X_choose 56 = .ok (.ifnull 25, 3) := by decide +kernel
theorem zd_X_choose_59 : decode zb_X_choose 59 = .ok (.aload 5, 2) := by decide +kernel
theorem zd_X_choose_61 : decode zb_X_choose 61 = .ok (.getfield 236, 3) := by decide +kernel
theorem zd_X_choose_64 : decode zb_X_choose 64 = .ok (.aload_n 1, 1) := by decide +kernel
theorem zd_X_choose_65 : decode zb_X_choose 65 = .ok (.getfield 274, 3) := by decide +kernel
theorem zd_X_choose_68 : decode zb_X_choose 68 = .ok (.iload_n 3, 1) := by decide +kernel
theorem zd_X_choose_69 : decode zb_X_choose 69 = .ok (.iaload, 1) := by decide +kernel
theorem zd_X_choose_70 : decode zb_X_choose 70 = .ok (.if_icmp .gt 11, 3) := by decide +kernel
theorem zd_X_choose_73 : decode zb_X_choose 73 = .ok (.aload_n 0, 1) := by decide +kernel
theorem zd_X_choose_74 : decode zb_X_choose 74 = .ok (.aload_n 1, 1) := by decide +kernel
theorem zd_X_choose_75 : decode zb_X_choose 75 = .ok (.aload 5, 2) := by decide +kernel
theorem zd_X_choose_77 : decode zb_X_choose 77 = .ok (.invokevirtual 277, 3) := by decide +kernel
theorem zd_X_choose_80 : decode zb_X_choose 80 = .ok (.return_, 1) := by decide +kernel
theorem zd_X_choose_81 : decode zb_X_choose 81 = .ok (.aload 5, 2) := by decide +kernel
theorem zd_X_choose_83 : decode zb_X_choose 83 = .ok (.ifnonnull 10, 3) := by decide +kernel
theorem zd_X_choose_86 : decode zb_X_choose 86 = .ok (.aload_n 1, 1) := by decide +kernel
theorem zd_X_choose_87 : decode zb_X_choose 87 = .ok (.getfield 274, 3) := by decide +kernel
theorem zd_X_choose_90 : decode zb_X_choose 90 = .ok (.iload_n 3, 1) := by decide +kernel
theorem zd_X_choose_91 : decode zb_X_choose 91 = .ok (.iconst 0, 1) := by decide +kernel
theorem zd_X_choose_92 : decode zb_X_choose 92 = .ok (.iastore, 1) := by decide +kernel
theorem zd_X_choose_93 : decode zb_X_choose 93 = .ok (.aload_n 1, 1) := by decide +kernel
theorem zd_X_choose_94 : decode zb_X_choose 94 = .ok (.iload 4, 2) := by decide +kernel
theorem zd_X_choose_96 : decode zb_X_choose 96 = .ok (.putfield 267, 3) := by decide +kernel
theorem zd_X_choose_99 : decode zb_X_choose 99 = .ok (.aload 6, 2) := by decide +kernel
theorem zd_X_choose_101 : decode zb_X_choose 101 = .ok (.ifnull 20, 3) := by decide +kernel
theorem zd_X_choose_104 : decode zb_X_choose 104 = .ok (.aload_n 1, 1) := by decide +kernel
theorem zd_X_choose_105 : decode zb_X_choose 105 = .ok (.getfield 274, 3) := by decide +kernel
theorem zd_X_choose_108 : decode zb_X_choose 108 = .ok (.iload 4, 2) := by decide +kernel
theorem zd_X_choose_110 : decode zb_X_choose 110 = .ok (.dup2, 1) := by decide +kernel
theorem zd_X_choose_111 : decode zb_X_choose 111 = .ok (.iaload, 1) := by decide +kernel
theorem zd_X_choose_112 : decode zb_X_choose 112 = .ok (.aload_n 0, 1) := by decide +kernel
theorem zd_X_choose_113 : decode zb_X_choose 113 = .ok (.getfield 7, 3) := by decide +kernel
theorem zd_X_choose_116 : decode zb_X_choose 116 = .ok (.iload 4, 2) := by decide +kernel
theorem zd_X_choose_118 : decode zb_X_choose 118 = .ok (.iaload, 1) := by decide +kernel
theorem zd_X_choose_119 : decode zb_X_choose 119 = .ok (.iadd, 1) := by decide +kernel
theorem zd_X_choose_120 : decode zb_X_choose 120 = .ok (.iastore, 1) := by decide +kernel
theorem zd_X_choose_121 : decode zb_X_choose 121 = .ok (.iinc 2 1, 3) := by decide +kernel
theorem zd_X_choose_124 : decode zb_X_choose 124 = .ok (.goto (-114), 3) := by decide +kernel
theorem zd_X_choose_127 : decode zb_X_choose 127 = .ok (.return_, 1) := by decide +kernel
theorem zd_X_readyFrame_0 : decode zb_X_readyFrame 0 = .ok (.aload_n 1, 1) := by decide +kernel
theorem zd_X_readyFrame_1 : decode zb_X_readyFrame 1 = .ok (.getfield 106, 3) := by decide +kernel
theorem zd_X_readyFrame_4 : decode zb_X_readyFrame 4 = .ok (.iload_n 2, 1) := by decide +kernel
theorem zd_X_readyFrame_5 : decode zb_X_readyFrame 5 = .ok (.aaload, 1) := by decide +kernel
theorem zd_X_readyFrame_6 : decode zb_X_readyFrame 6 = .ok (.getfield 237, 3) := by decide +kernel
theorem zd_X_readyFrame_9 : decode zb_X_readyFrame 9 = .ok (.astore_n 3, 1) := by decide +kernel
theorem zd_X_readyFrame_10 : decode zb_X_readyFrame 10 = .ok (.aload_n 3, 1) := by decide +kernel
theorem zd_X_readyFrame_11 : decode zb_X_readyFrame 11 = .ok (.ifnull 14, 3) := by decide +kernel
theorem zd_X_readyFrame_14 : decode zb_X_readyFrame 14 = .ok (.iload_n 2, 1) := by decide +kernel
theorem zd_X_readyFrame_15 : decode zb_X_readyFrame 15 = .ok (.ifCond .ne 12, 3) := by decide +kernel
theorem zd_X_readyFrame_18 : decode zb_X_readyFrame 18 = .ok (.aload_n 1, 1) := by decide +kernel
theorem zd_X_readyFrame_19 : decode zb_X_readyFrame 19 = .ok (.getfield 123, 3) := by decide +kernel
theorem zd_X_readyFrame_22 : decode zb_X_readyFrame 22 = .ok (.ifCond .eq 5, 3) := by decide +kernel
theorem zd_X_readyFrame_25 : decode zb_X_readyFrame 25 = .ok (.aconst_null, 1) := by decide +kernel
theorem zd_X_readyFrame_26 : decode zb_X_readyFrame 26 = .ok (.areturn, 1) := by decide +kernel
theorem zd_X_readyFrame_27 : decode zb_X_readyFrame 27 = .ok (.aload_n 1, 1) := by decide +kernel
theorem zd_X_readyFrame_28 : decode zb_X_readyFrame 28 = .ok (.getfield 161, 3) := by decide +kernel
theorem zd_X_readyFrame_31 : decode zb_X_readyFrame 31 = .ok (.invokestatic 59, 3) := by decide +kernel
theorem zd_X_readyFrame_34 : decode zb_X_readyFrame 34 = .ok (.ifCond .eq 21, 3) := by decide +kernel
theorem zd_X_readyFrame_37 : decode zb_X_readyFrame 37 = .ok (.aload_n 0, 1) := by decide +kernel
theorem zd_X_readyFrame_38 : decode zb_X_readyFrame 38 = .ok (.getfield 40, 3) := by decide +kernel
theorem zd_X_readyFrame_41 : decode zb_X_readyFrame 41 = .ok (.aload_n 3, 1) := by decide +kernel
theorem zd_X_readyFrame_42 : decode zb_X_readyFrame 42 = .ok (.getfield 229, 3) := by decide +kernel
theorem zd_X_readyFrame_45 : decode zb_X_readyFrame 45 = .ok (.getfield 280, 3) := by decide +kernel
theorem zd_X_readyFrame_48 : decode zb_X_readyFrame 48 = .ok (.if_icmp .ge 7, 3) := by decide +kernel
theorem zd_X_readyFrame_51 : decode zb_X_readyFrame 51 = .ok (.aconst_null, 1) := by decide +kernel
theorem zd_X_readyFrame_52 : decode zb_X_readyFrame 52 = .ok (.goto 4, 3) := by decide +kernel
theorem zd_X_readyFrame_55 : decode zb_X_readyFrame 55 = .ok (.aload_n 3, 1) := by decide +kernel
theorem zd_X_readyFrame_56 : decode zb_X_readyFrame 56 = .ok (.areturn, 1) := by decide +kernel
theorem zd_X_beginSending_0 : decode zb_X_beginSending 0 = .ok (.aload_n 2, 1) := by decide +kernel
theorem zd_X_beginSending_1 : decode zb_X_beginSending 1 = .ok (.getfield 229, 3) := by decide +kernel
theorem zd_X_beginSending_4 : decode zb_X_beginSending 4 = .ok (.astore_n 3, 1) := by decide +kernel
theorem zd_X_beginSending_5 : decode zb_X_beginSending 5 = .ok (.aload_n 1, 1) := by decide +kernel
theorem zd_X_beginSending_6 : decode zb_X_beginSending 6 = .ok (.getfield 106, 3) := by decide +kernel
theorem zd_X_beginSending_9 : decode zb_X_beginSending 9 = .ok (.aload_n 3, 1) := by decide +kernel
theorem zd_X_beginSending_10 : decode zb_X_beginSending 10 = .ok (.getfield 233, 3) := by decide +kernel
theorem zd_X_beginSending_13 : decode zb_X_beginSending 13 = .ok (.aaload, 1) := by decide +kernel
theorem zd_X_beginSending_14 : decode zb_X_beginSending 14 = .ok (.invokevirtual 240, 3) := by decide +kernel
theorem zd_X_beginSending_17 : decode zb_X_beginSending 17 = .ok (.aload_n 1, 1) := by decide +kernel
theorem zd_X_beginSending_18 : decode zb_X_beginSending 18 = .ok (.getfield 274, 3) := by decide +kernel
theorem zd_X_beginSending_21 : decode zb_X_beginSending 21 = .ok (.aload_n 3, 1) := by decide +kernel
theorem zd_X_beginSending_22 : decode zb_X_beginSending 22 = .ok (.getfield 233, 3) := by decide +kernel
theorem zd_X_beginSending_25 : decode zb_X_beginSending 25 = .ok (.dup2, 1) := by decide +kernel
theorem zd_X_beginSending_26 : decode zb_X_beginSending 26 = .ok (.iaload, 1) := by decide +kernel
theorem zd_X_beginSending_27 : decode zb_X_beginSending 27 = .ok (.aload_n 2, 1) := by decide +kernel
theorem zd_X_beginSending_28 : decode zb_X_beginSending 28 = .ok (.getfield 236, 3) := by decide +kernel
theorem zd_X_beginSending_31 : decode zb_X_beginSending 31 = .ok (.isub, 1) := by decide +kernel
theorem zd_X_beginSending_32 : decode zb_X_beginSending 32 = .ok (.iastore, 1) := by decide +kernel
theorem zd_X_beginSending_33 : decode zb_X_beginSending 33 = .ok (.aload_n 1, 1) := by decide +kernel
theorem zd_X_beginSending_34 : decode zb_X_beginSending 34 = .ok (.aload_n 2, 1) := by decide +kernel
theorem zd_X_beginSending_35 : decode zb_X_beginSending 35 = .ok (.putfield 206, 3) := by decide +kernel
theorem zd_X_beginSending_38 : decode zb_X_beginSending 38 = .ok (.aload_n 2, 1) := by decide +kernel
theorem zd_X_beginSending_39 : decode zb_X_beginSending 39 = .ok (.iconst 2, 1) := by decide +kernel
theorem zd_X_beginSending_40 : decode zb_X_beginSending 40 = .ok (.putfield 92, 3) := by decide +kernel
theorem zd_X_beginSending_43 : decode zb_X_beginSending 43 = .ok (.aload_n 2, 1) := by decide +kernel
theorem zd_X_beginSending_44 : decode zb_X_beginSending 44 = .ok (.aload_n 0, 1) := by decide +kernel
theorem zd_X_beginSending_45 : decode zb_X_beginSending 45 = .ok (.getfield 40, 3) := by decide +kernel
theorem zd_X_beginSending_48 : decode zb_X_beginSending 48 = .ok (.aload_n 2, 1) := by decide +kernel
theorem zd_X_beginSending_49 : decode zb_X_beginSending 49 = .ok (.getfield 236, 3) := by decide +kernel
theorem zd_X_beginSending_52 : decode zb_X_beginSending 52 = .ok (.iadd, 1) := by decide +kernel
theorem zd_X_beginSending_53 : decode zb_X_beginSending 53 = .ok (.putfield 210, 3) := by decide +kernel
theorem zd_X_beginSending_56 : decode zb_X_beginSending 56 = .ok (.aload_n 1, 1) := by decide +kernel
theorem zd_X_beginSending_57 : decode zb_X_beginSending 57 = .ok (.getfield 161, 3) := by decide +kernel
theorem zd_X_beginSending_60 : decode zb_X_beginSending 60 = .ok (.invokestatic 59, 3) := by decide +kernel
theorem zd_X_beginSending_63 : decode zb_X_beginSending 63 = .ok (.ifCond .eq 15, 3) := by decide +kernel
theorem zd_X_beginSending_66 : decode zb_X_beginSending 66 = .ok (.aload_n 3, 1) := by decide +kernel
theorem zd_X_beginSending_67 : decode zb_X_beginSending 67 = .ok (.aload_n 0, 1) := by decide +kernel
theorem zd_X_beginSending_68 : decode zb_X_beginSending 68 = .ok (.getfield 40, 3) := by decide +kernel
theorem zd_X_beginSending_71 : decode zb_X_beginSending 71 = .ok (.aload_n 2, 1) := by decide +kernel
theorem zd_X_beginSending_72 : decode zb_X_beginSending 72 = .ok (.getfield 236, 3) := by decide +kernel
theorem zd_X_beginSending_75 : decode zb_X_beginSending 75 = .ok (.invokevirtual 283, 3) := by decide +kernel
theorem zd_X_beginSending_78 : decode zb_X_beginSending 78 = .ok (.return_, 1) := by decide +kernel
theorem zd_F_waitFrom_0 : decode zb_F_waitFrom 0 = .ok (.aload_n 0, 1) := by decide +kernel
theorem zd_F_waitFrom_1 : decode zb_F_waitFrom 1 = .ok (.iload_n 1, 1) := by decide +kernel
theorem zd_F_waitFrom_2 : decode zb_F_waitFrom 2 = .ok (.bipush 64, 2) := by decide +kernel
theorem zd_F_waitFrom_4 : decode zb_F_waitFrom 4 = .ok (.iload_n 2, 1) := by decide +kernel
theorem zd_F_waitFrom_5 : decode zb_F_waitFrom 5 = .ok (.imul, 1) := by decide +kernel
theorem zd_F_waitFrom_6 : decode zb_F_waitFrom 6 = .ok (.aload_n 0, 1) := by decide +kernel
theorem zd_F_waitFrom_7 : decode zb_F_waitFrom 7 = .ok (.getfield 9, 3) := by decide +kernel
theorem zd_F_waitFrom_10 : decode zb_F_waitFrom 10 = .ok (.iadd, 1) := by decide +kernel
theorem zd_F_waitFrom_11 : decode zb_F_waitFrom 11 = .ok (.iconst 1, 1) := by decide +kernel
theorem zd_F_waitFrom_12 : decode zb_F_waitFrom 12 = .ok (.isub, 1) := by decide +kernel
theorem zd_F_waitFrom_13 : decode zb_F_waitFrom 13 = .ok (.aload_n 0, 1) := by decide +kernel
theorem zd_F_waitFrom_14 : decode zb_F_waitFrom 14 = .ok (.getfield 9, 3) := by decide +kernel
theorem zd_F_waitFrom_17 : decode zb_F_waitFrom 17 = .ok (.idiv, 1) := by decide +kernel
theorem zd_F_waitFrom_18 : decode zb_F_waitFrom 18 = .ok (.iadd, 1) := by decide +kernel
theorem zd_F_waitFrom_19 : decode zb_F_waitFrom 19 = .ok (.putfield 24, 3) := by decide +kernel
theorem zd_F_waitFrom_22 : decode zb_F_waitFrom 22 = .ok (.return_, 1) := by decide +kernel
theorem zd_X_remember_0 : decode zb_X_remember 0 = .ok (.aload_n 0, 1) := by decide +kernel
theorem zd_X_remember_1 : decode zb_X_remember 1 = .ok (.getfield 17, 3) := by decide +kernel
theorem zd_X_remember_4 : decode zb_X_remember 4 = .ok (.astore_n 1, 1) := by decide +kernel
theorem zd_X_remember_5 : decode zb_X_remember 5 = .ok (.aload_n 1, 1) := by decide +kernel
theorem zd_X_remember_6 : decode zb_X_remember 6 = .ok (.arraylength, 1) := by decide +kernel
theorem zd_X_remember_7 : decode zb_X_remember 7 = .ok (.istore_n 2, 1) := by decide +kernel
theorem zd_X_remember_8 : decode zb_X_remember 8 = .ok (.iconst 0, 1) := by decide +kernel
theorem zd_X_remember_9 : decode zb_X_remember 9 = .ok (.istore_n 3, 1) := by decide +kernel
theorem zd_X_remember_10 : decode zb_X_remember 10 = .ok (.iload_n 3, 1) := by decide +kernel
theorem zd_X_remember_11 : decode zb_X_remember 11 = .ok (.iload_n 2, 1) := by decide +kernel
theorem zd_X_remember_12 : decode zb_X_remember 12 = .ok (.if_icmp .ge 32, 3) := by decide +kernel
theorem zd_X_remember_15 : decode zb_X_remember 15 = .ok (.aload_n 1, 1) := by decide +kernel
theorem zd_X_remember_16 : decode zb_X_remember 16 = .ok (.iload_n 3, 1) := by decide +kernel
theorem zd_X_remember_17 : decode zb_X_remember 17 = .ok (.aaload, 1) := by decide +kernel
theorem zd_X_remember_18 : decode zb_X_remember 18 = .ok (.astore 4, 2) := by decide +kernel
theorem zd_X_remember_20 : decode zb_X_remember 20 = .ok (.aload 4, 2) := by decide +kernel
theorem zd_X_remember_22 : decode zb_X_remember 22 = .ok (.aload 4, 2) := by decide +kernel
theorem zd_X_remember_24 : decode zb_X_remember 24 = .ok (.getfield 172, 3) := by decide +kernel
theorem zd_X_remember_27 : decode zb_X_remember 27 = .ok (.aload 4, 2) := by decide +kernel
theorem zd_X_remember_29 : decode zb_X_remember 29 = .ok (.getfield 120, 3) := by decide +kernel
theorem zd_X_remember_32 : decode zb_X_remember 32 = .ok (.invokestatic 199, 3) := by decide +kernel
theorem zd_X_remember_35 : decode zb_X_remember 35 = .ok (.putfield 172, 3) := by decide +kernel
theorem zd_X_remember_38 : decode zb_X_remember 38 = .ok (.iinc 3 1, 3) := by decide +kernel
theorem zd_X_remember_41 : decode zb_X_remember 41 = .ok (.goto (-31), 3) := by decide +kernel
theorem zd_X_remember_44 : decode zb_X_remember 44 = .ok (.iconst 0, 1) := by decide +kernel
theorem zd_X_remember_45 : decode zb_X_remember 45 = .ok (.istore_n 1, 1) := by decide +kernel
theorem zd_X_remember_46 : decode zb_X_remember 46 = .ok (.iload_n 1, 1) := by decide +kernel
theorem zd_X_remember_47 : decode zb_X_remember 47 = .ok (.aload_n 0, 1) := by decide +kernel
theorem zd_X_remember_48 : decode zb_X_remember 48 = .ok (.getfield 33, 3) := by decide +kernel
theorem zd_X_remember_51 : decode zb_X_remember 51 = .ok (.if_icmp .ge 36, 3) := by decide +kernel
theorem zd_X_remember_54 : decode zb_X_remember 54 = .ok (.aload_n 0, 1) := by decide +kernel
theorem zd_X_remember_55 : decode zb_X_remember 55 = .ok (.getfield 23, 3) := by decide +kernel
theorem zd_X_remember_58 : decode zb_X_remember 58 = .ok (.iload_n 1, 1) := by decide +kernel
theorem zd_X_remember_59 : decode zb_X_remember 59 = .ok (.aaload, 1) := by decide +kernel
theorem zd_X_remember_60 : decode zb_X_remember 60 = .ok (.astore_n 2, 1) := by decide +kernel
theorem zd_X_remember_61 : decode zb_X_remember 61 = .ok (.aload_n 2, 1) := by decide +kernel
theorem zd_X_remember_62 : decode zb_X_remember 62 = .ok (.aload_n 2, 1) := by decide +kernel
theorem zd_X_remember_63 : decode zb_X_remember 63 = .ok (.getfield 182, 3) := by decide +kernel
theorem zd_X_remember_66 : decode zb_X_remember 66 = .ok (.aload_n 2, 1) := by decide +kernel
theorem zd_X_remember_67 : decode zb_X_remember 67 = .ok (.getfield 203, 3) := by decide +kernel
theorem zd_X_remember_70 : decode zb_X_remember 70 = .ok (.invokestatic 199, 3) := by decide +kernel
theorem zd_X_remember_73 : decode zb_X_remember 73 = .ok (.putfield 182, 3) := by decide +kernel
theorem zd_X_remember_76 : decode zb_X_remember 76 = .ok (.aload_n 2, 1) := by decide +kernel
theorem zd_X_remember_77 : decode zb_X_remember 77 = .ok (.iconst 0, 1) := by decide +kernel
theorem zd_X_remember_78 : decode zb_X_remember 78 = .ok (.putfield 203, 3) := by decide +kernel
theorem zd_X_remember_81 : decode zb_X_remember 81 = .ok (.iinc 1 1, 3) := by decide +kernel
theorem zd_X_remember_84 : decode zb_X_remember 84 = .ok (.goto (-38), 3) := by decide +kernel
theorem zd_X_remember_87 : decode zb_X_remember 87 = .ok (.return_, 1) := by decide +kernel
theorem zd_X_withLatest_0 : decode zb_X_withLatest 0 = .ok (.sipush 255, 3) := by decide +kernel
theorem zd_X_withLatest_3 : decode zb_X_withLatest 3 = .ok (.istore_n 2, 1) := by decide +kernel
theorem zd_X_withLatest_4 : decode zb_X_withLatest 4 = .ok (.iload_n 0, 1) := by decide +kernel
theorem zd_X_withLatest_5 : decode zb_X_withLatest 5 = .ok (.iconst 1, 1) := by decide +kernel
theorem zd_X_withLatest_6 : decode zb_X_withLatest 6 = .ok (.ishl, 1) := by decide +kernel
theorem zd_X_withLatest_7 : decode zb_X_withLatest 7 = .ok (.iload_n 1, 1) := by decide +kernel
theorem zd_X_withLatest_8 : decode zb_X_withLatest 8 = .ok (.ifCond .eq 7, 3) := by decide +kernel
theorem zd_X_withLatest_11 : decode zb_X_withLatest 11 = .ok (.iconst 1, 1) := by decide +kernel
theorem zd_X_withLatest_12 : decode zb_X_withLatest 12 = .ok (.goto 4, 3) := by decide +kernel
theorem zd_X_withLatest_15 : decode zb_X_withLatest 15 = .ok (.iconst 0, 1) := by decide +kernel
theorem zd_X_withLatest_16 : decode zb_X_withLatest 16 = .ok (.ior, 1) := by decide +kernel
theorem zd_X_withLatest_17 : decode zb_X_withLatest 17 = .ok (.iload_n 2, 1) := by decide +kernel
theorem zd_X_withLatest_18 : decode zb_X_withLatest 18 = .ok (.iand, 1) := by decide +kernel
theorem zd_X_withLatest_19 : decode zb_X_withLatest 19 = .ok (.ireturn, 1) := by decide +kernel
theorem zd_X_clock_0 : decode zb_X_clock 0 = .ok (.aload_n 0, 1) := by decide +kernel
theorem zd_X_clock_1 : decode zb_X_clock 1 = .ok (.getfield 40, 3) := by decide +kernel
theorem zd_X_clock_4 : decode zb_X_clock 4 = .ok (.ireturn, 1) := by decide +kernel
theorem zd_X_state_0 : decode zb_X_state 0 = .ok (.aload_n 0, 1) := by decide +kernel
theorem zd_X_state_1 : decode zb_X_state 1 = .ok (.iload_n 1, 1) := by decide +kernel
theorem zd_X_state_2 : decode zb_X_state 2 = .ok (.invokevirtual 88, 3) := by decide +kernel
theorem zd_X_state_5 : decode zb_X_state 5 = .ok (.astore_n 2, 1) := by decide +kernel
theorem zd_X_state_6 : decode zb_X_state 6 = .ok (.aload_n 2, 1) := by decide +kernel
theorem zd_X_state_7 : decode zb_X_state 7 = .ok (.ifnonnull 7, 3) := by decide +kernel
theorem zd_X_state_10 : decode zb_X_state 10 = .ok (.iconst (-1), 1) := by decide +kernel
theorem zd_X_state_11 : decode zb_X_state 11 = .ok (.goto 7, 3) := by decide +kernel
theorem zd_X_state_14 : decode zb_X_state 14 = .ok (.aload_n 2, 1) := by decide +kernel
theorem zd_X_state_15 : decode zb_X_state 15 = .ok (.getfield 92, 3) := by decide +kernel
theorem zd_X_state_18 : decode zb_X_state 18 = .ok (.ireturn, 1) := by decide +kernel
theorem zd_X_frameAt_0 : decode zb_X_frameAt 0 = .ok (.iload_n 1, 1) := by decide +kernel
theorem zd_X_frameAt_1 : decode zb_X_frameAt 1 = .ok (.ifCond .lt 20, 3) := by decide +kernel
theorem zd_X_frameAt_4 : decode zb_X_frameAt 4 = .ok (.iload_n 1, 1) := by decide +kernel
theorem zd_X_frameAt_5 : decode zb_X_frameAt 5 = .ok (.aload_n 0, 1) := by decide +kernel
theorem zd_X_frameAt_6 : decode zb_X_frameAt 6 = .ok (.getfield 37, 3) := by decide +kernel
theorem zd_X_frameAt_9 : decode zb_X_frameAt 9 = .ok (.if_icmp .ge 12, 3) := by decide +kernel
theorem zd_X_frameAt_12 : decode zb_X_frameAt 12 = .ok (.aload_n 0, 1) := by decide +kernel
theorem zd_X_frameAt_13 : decode zb_X_frameAt 13 = .ok (.getfield 29, 3) := by decide +kernel
theorem zd_X_frameAt_16 : decode zb_X_frameAt 16 = .ok (.iload_n 1, 1) := by decide +kernel
theorem zd_X_frameAt_17 : decode zb_X_frameAt 17 = .ok (.aaload, 1) := by decide +kernel
theorem zd_X_frameAt_18 : decode zb_X_frameAt 18 = .ok (.goto 4, 3) := by decide +kernel
theorem zd_X_frameAt_21 : decode zb_X_frameAt 21 = .ok (.aconst_null, 1) := by decide +kernel
theorem zd_X_frameAt_22 : decode zb_X_frameAt 22 = .ok (.areturn, 1) := by decide +kernel
theorem zd_X_node_0 : decode zb_X_node 0 = .ok (.aload_n 0, 1) := by decide +kernel
theorem zd_X_node_1 : decode zb_X_node 1 = .ok (.iload_n 1, 1) := by decide +kernel
theorem zd_X_node_2 : decode zb_X_node 2 = .ok (.invokevirtual 88, 3) := by decide +kernel
theorem zd_X_node_5 : decode zb_X_node 5 = .ok (.astore_n 2, 1) := by decide +kernel
theorem zd_X_node_6 : decode zb_X_node 6 = .ok (.aload_n 2, 1) := by decide +kernel
theorem zd_X_node_7 : decode zb_X_node 7 = .ok (.ifnonnull 7, 3) := by decide +kernel
theorem zd_X_node_10 : decode zb_X_node 10 = .ok (.iconst (-1), 1) := by decide +kernel
theorem zd_X_node_11 : decode zb_X_node 11 = .ok (.goto 7, 3) := by decide +kernel
theorem zd_X_node_14 : decode zb_X_node 14 = .ok (.aload_n 2, 1) := by decide +kernel
theorem zd_X_node_15 : decode zb_X_node 15 = .ok (.getfield 95, 3) := by decide +kernel
theorem zd_X_node_18 : decode zb_X_node 18 = .ok (.ireturn, 1) := by decide +kernel
theorem zd_X_marked_0 : decode zb_X_marked 0 = .ok (.aload_n 0, 1) := by decide +kernel
theorem zd_X_marked_1 : decode zb_X_marked 1 = .ok (.iload_n 1, 1) := by decide +kernel
theorem zd_X_marked_2 : decode zb_X_marked 2 = .ok (.invokevirtual 88, 3) := by decide +kernel
theorem zd_X_marked_5 : decode zb_X_marked 5 = .ok (.astore_n 2, 1) := by decide +kernel
theorem zd_X_marked_6 : decode zb_X_marked 6 = .ok (.aload_n 2, 1) := by decide +kernel
theorem zd_X_marked_7 : decode zb_X_marked 7 = .ok (.ifnull 14, 3) := by decide +kernel
theorem zd_X_marked_10 : decode zb_X_marked 10 = .ok (.aload_n 2, 1) := by decide +kernel
theorem zd_X_marked_11 : decode zb_X_marked 11 = .ok (.getfield 98, 3) := by decide +kernel
theorem zd_X_marked_14 : decode zb_X_marked 14 = .ok (.ifCond .eq 7, 3) := by decide +kernel
theorem zd_X_marked_17 : decode zb_X_marked 17 = .ok (.iconst 1, 1) := by decide +kernel
theorem zd_X_marked_18 : decode zb_X_marked 18 = .ok (.goto 4, 3) := by decide +kernel
theorem zd_X_marked_21 : decode zb_X_marked 21 = .ok (.iconst 0, 1) := by decide +kernel
theorem zd_X_marked_22 : decode zb_X_marked 22 = .ok (.ireturn, 1) := by decide +kernel
theorem zd_X_queued_0 : decode zb_X_queued 0 = .ok (.aload_n 0, 1) := by decide +kernel
theorem zd_X_queued_1 : decode zb_X_queued 1 = .ok (.iload_n 1, 1) := by decide +kernel
theorem zd_X_queued_2 : decode zb_X_queued 2 = .ok (.iload_n 2, 1) := by decide +kernel
theorem zd_X_queued_3 : decode zb_X_queued 3 = .ok (.invokevirtual 102, 3) := by decide +kernel
theorem zd_X_queued_6 : decode zb_X_queued 6 = .ok (.astore 4, 2) := by decide +kernel
theorem zd_X_queued_8 : decode zb_X_queued 8 = .ok (.aload 4, 2) := by decide +kernel
theorem zd_X_queued_10 : decode zb_X_queued 10 = .ok (.ifnull 10, 3) := by decide +kernel
theorem zd_X_queued_13 : decode zb_X_queued 13 = .ok (.iload_n 3, 1) := by decide +kernel
theorem zd_X_queued_14 : decode zb_X_queued 14 = .ok (.invokestatic 63, 3) := by decide +kernel
theorem zd_X_queued_17 : decode zb_X_queued 17 = .ok (.ifCond .ne 7, 3) := by decide +kernel
theorem zd_X_queued_20 : decode zb_X_queued 20 = .ok (.iconst (-1), 1) := by decide +kernel
theorem zd_X_queued_21 : decode zb_X_queued 21 = .ok (.goto 13, 3) := by decide +kernel
theorem zd_X_queued_24 : decode zb_X_queued 24 = .ok (.aload 4, 2) := by decide +kernel
theorem zd_X_queued_26 : decode zb_X_queued 26 = .ok (.getfield 106, 3) := by decide +kernel
theorem zd_X_queued_29 : decode zb_X_queued 29 = .ok (.iload_n 3, 1) := by decide +kernel
theorem zd_X_queued_30 : decode zb_X_queued 30 = .ok (.aaload, 1) := by decide +kernel
theorem zd_X_queued_31 : decode zb_X_queued 31 = .ok (.getfield 112, 3) := by decide +kernel
theorem zd_X_queued_34 : decode zb_X_queued 34 = .ok (.ireturn, 1) := by decide +kernel
theorem zd_X_held_0 : decode zb_X_held 0 = .ok (.aload_n 0, 1) := by decide +kernel
theorem zd_X_held_1 : decode zb_X_held 1 = .ok (.iload_n 1, 1) := by decide +kernel
theorem zd_X_held_2 : decode zb_X_held 2 = .ok (.iload_n 2, 1) := by decide +kernel
theorem zd_X_held_3 : decode zb_X_held 3 = .ok (.invokevirtual 102, 3) := by decide +kernel
theorem zd_X_held_6 : decode zb_X_held 6 = .ok (.astore 4, 2) := by decide +kernel
theorem zd_X_held_8 : decode zb_X_held 8 = .ok (.aload 4, 2) := by decide +kernel
theorem zd_X_held_10 : decode zb_X_held 10 = .ok (.ifnull 10, 3) := by decide +kernel
theorem zd_X_held_13 : decode zb_X_held 13 = .ok (.iload_n 3, 1) := by decide +kernel
theorem zd_X_held_14 : decode zb_X_held 14 = .ok (.invokestatic 63, 3) := by decide +kernel
theorem zd_X_held_17 : decode zb_X_held 17 = .ok (.ifCond .ne 7, 3) := by decide +kernel
theorem zd_X_held_20 : decode zb_X_held 20 = .ok (.iconst (-1), 1) := by decide +kernel
theorem zd_X_held_21 : decode zb_X_held 21 = .ok (.goto 10, 3) := by decide +kernel
theorem zd_X_held_24 : decode zb_X_held 24 = .ok (.aload 4, 2) := by decide +kernel
theorem zd_X_held_26 : decode zb_X_held 26 = .ok (.getfield 117, 3) := by decide +kernel
theorem zd_X_held_29 : decode zb_X_held 29 = .ok (.iload_n 3, 1) := by decide +kernel
theorem zd_X_held_30 : decode zb_X_held 30 = .ok (.iaload, 1) := by decide +kernel
theorem zd_X_held_31 : decode zb_X_held 31 = .ok (.ireturn, 1) := by decide +kernel
theorem zd_X_asks_0 : decode zb_X_asks 0 = .ok (.aload_n 0, 1) := by decide +kernel
theorem zd_X_asks_1 : decode zb_X_asks 1 = .ok (.iload_n 1, 1) := by decide +kernel
theorem zd_X_asks_2 : decode zb_X_asks 2 = .ok (.iload_n 2, 1) := by decide +kernel
theorem zd_X_asks_3 : decode zb_X_asks 3 = .ok (.invokevirtual 102, 3) := by decide +kernel
theorem zd_X_asks_6 : decode zb_X_asks 6 = .ok (.astore_n 3, 1) := by decide +kernel
theorem zd_X_asks_7 : decode zb_X_asks 7 = .ok (.aload_n 3, 1) := by decide +kernel
theorem zd_X_asks_8 : decode zb_X_asks 8 = .ok (.ifnull 14, 3) := by decide +kernel
theorem zd_X_asks_11 : decode zb_X_asks 11 = .ok (.aload_n 3, 1) := by decide +kernel
theorem zd_X_asks_12 : decode zb_X_asks 12 = .ok (.getfield 120, 3) := by decide +kernel
theorem zd_X_asks_15 : decode zb_X_asks 15 = .ok (.ifCond .eq 7, 3) := by decide +kernel
theorem zd_X_asks_18 : decode zb_X_asks 18 = .ok (.iconst 1, 1) := by decide +kernel
theorem zd_X_asks_19 : decode zb_X_asks 19 = .ok (.goto 4, 3) := by decide +kernel
theorem zd_X_asks_22 : decode zb_X_asks 22 = .ok (.iconst 0, 1) := by decide +kernel
theorem zd_X_asks_23 : decode zb_X_asks 23 = .ok (.ireturn, 1) := by decide +kernel
theorem zd_X_paused_0 : decode zb_X_paused 0 = .ok (.aload_n 0, 1) := by decide +kernel
theorem zd_X_paused_1 : decode zb_X_paused 1 = .ok (.iload_n 1, 1) := by decide +kernel
theorem zd_X_paused_2 : decode zb_X_paused 2 = .ok (.iload_n 2, 1) := by decide +kernel
theorem zd_X_paused_3 : decode zb_X_paused 3 = .ok (.invokevirtual 102, 3) := by decide +kernel
theorem zd_X_paused_6 : decode zb_X_paused 6 = .ok (.astore_n 3, 1) := by decide +kernel
theorem zd_X_paused_7 : decode zb_X_paused 7 = .ok (.aload_n 3, 1) := by decide +kernel
theorem zd_X_paused_8 : decode zb_X_paused 8 = .ok (.ifnull 14, 3) := by decide +kernel
theorem zd_X_paused_11 : decode zb_X_paused 11 = .ok (.aload_n 3, 1) := by decide +kernel
theorem zd_X_paused_12 : decode zb_X_paused 12 = .ok (.getfield 123, 3) := by decide +kernel
theorem zd_X_paused_15 : decode zb_X_paused 15 = .ok (.ifCond .eq 7, 3) := by decide +kernel
theorem zd_X_paused_18 : decode zb_X_paused 18 = .ok (.iconst 1, 1) := by decide +kernel
theorem zd_X_paused_19 : decode zb_X_paused 19 = .ok (.goto 4, 3) := by decide +kernel
theorem zd_X_paused_22 : decode zb_X_paused 22 = .ok (.iconst 0, 1) := by decide +kernel
theorem zd_X_paused_23 : decode zb_X_paused 23 = .ok (.ireturn, 1) := by decide +kernel
theorem zd_X_rate_0 : decode zb_X_rate 0 = .ok (.aload_n 0, 1) := by decide +kernel
theorem zd_X_rate_1 : decode zb_X_rate 1 = .ok (.iload_n 1, 1) := by decide +kernel
theorem zd_X_rate_2 : decode zb_X_rate 2 = .ok (.invokevirtual 73, 3) := by decide +kernel
theorem zd_X_rate_5 : decode zb_X_rate 5 = .ok (.astore_n 2, 1) := by decide +kernel
theorem zd_X_rate_6 : decode zb_X_rate 6 = .ok (.aload_n 2, 1) := by decide +kernel
theorem zd_X_rate_7 : decode zb_X_rate 7 = .ok (.ifnonnull 7, 3) := by decide +kernel
theorem zd_X_rate_10 : decode zb_X_rate 10 = .ok (.iconst 0, 1) := by decide +kernel
theorem zd_X_rate_11 : decode zb_X_rate 11 = .ok (.goto 7, 3) := by decide +kernel
theorem zd_X_rate_14 : decode zb_X_rate 14 = .ok (.aload_n 2, 1) := by decide +kernel
theorem zd_X_rate_15 : decode zb_X_rate 15 = .ok (.getfield 126, 3) := by decide +kernel
theorem zd_X_rate_18 : decode zb_X_rate 18 = .ok (.ireturn, 1) := by decide +kernel
theorem zd_X_alpha_0 : decode zb_X_alpha 0 = .ok (.aload_n 0, 1) := by decide +kernel
theorem zd_X_alpha_1 : decode zb_X_alpha 1 = .ok (.iload_n 1, 1) := by decide +kernel
theorem zd_X_alpha_2 : decode zb_X_alpha 2 = .ok (.invokevirtual 73, 3) := by decide +kernel
theorem zd_X_alpha_5 : decode zb_X_alpha 5 = .ok (.astore_n 2, 1) := by decide +kernel
theorem zd_X_alpha_6 : decode zb_X_alpha 6 = .ok (.aload_n 2, 1) := by decide +kernel
theorem zd_X_alpha_7 : decode zb_X_alpha 7 = .ok (.ifnonnull 7, 3) := by decide +kernel
theorem zd_X_alpha_10 : decode zb_X_alpha 10 = .ok (.iconst 0, 1) := by decide +kernel
theorem zd_X_alpha_11 : decode zb_X_alpha 11 = .ok (.goto 7, 3) := by decide +kernel
theorem zd_X_alpha_14 : decode zb_X_alpha 14 = .ok (.aload_n 2, 1) := by decide +kernel
theorem zd_X_alpha_15 : decode zb_X_alpha 15 = .ok (.getfield 129, 3) := by decide +kernel
theorem zd_X_alpha_18 : decode zb_X_alpha 18 = .ok (.ireturn, 1) := by decide +kernel
theorem zd_X_received_0 : decode zb_X_received 0 = .ok (.aload_n 0, 1) := by decide +kernel
theorem zd_X_received_1 : decode zb_X_received 1 = .ok (.iload_n 1, 1) := by decide +kernel
theorem zd_X_received_2 : decode zb_X_received 2 = .ok (.invokevirtual 73, 3) := by decide +kernel
theorem zd_X_received_5 : decode zb_X_received 5 = .ok (.astore_n 2, 1) := by decide +kernel
theorem zd_X_received_6 : decode zb_X_received 6 = .ok (.aload_n 2, 1) := by decide +kernel
theorem zd_X_received_7 : decode zb_X_received 7 = .ok (.ifnonnull 7, 3) := by decide +kernel
theorem zd_X_received_10 : decode zb_X_received 10 = .ok (.iconst 0, 1) := by decide +kernel
theorem zd_X_received_11 : decode zb_X_received 11 = .ok (.goto 7, 3) := by decide +kernel
theorem zd_X_received_14 : decode zb_X_received 14 = .ok (.aload_n 2, 1) := by decide +kernel
theorem zd_X_received_15 : decode zb_X_received 15 = .ok (.getfield 132, 3) := by decide +kernel
theorem zd_X_received_18 : decode zb_X_received 18 = .ok (.ireturn, 1) := by decide +kernel
theorem zd_X_dropped_0 : decode zb_X_dropped 0 = .ok (.aload_n 0, 1) := by decide +kernel
theorem zd_X_dropped_1 : decode zb_X_dropped 1 = .ok (.iload_n 1, 1) := by decide +kernel
theorem zd_X_dropped_2 : decode zb_X_dropped 2 = .ok (.invokevirtual 73, 3) := by decide +kernel
theorem zd_X_dropped_5 : decode zb_X_dropped 5 = .ok (.astore_n 2, 1) := by decide +kernel
theorem zd_X_dropped_6 : decode zb_X_dropped 6 = .ok (.aload_n 2, 1) := by decide +kernel
theorem zd_X_dropped_7 : decode zb_X_dropped 7 = .ok (.ifnonnull 7, 3) := by decide +kernel
theorem zd_X_dropped_10 : decode zb_X_dropped 10 = .ok (.iconst 0, 1) := by decide +kernel
theorem zd_X_dropped_11 : decode zb_X_dropped 11 = .ok (.goto 7, 3) := by decide +kernel
theorem zd_X_dropped_14 : decode zb_X_dropped 14 = .ok (.aload_n 2, 1) := by decide +kernel
theorem zd_X_dropped_15 : decode zb_X_dropped 15 = .ok (.getfield 135, 3) := by decide +kernel
theorem zd_X_dropped_18 : decode zb_X_dropped 18 = .ok (.ireturn, 1) := by decide +kernel
theorem zd_X_last_0 : decode zb_X_last 0 = .ok (.aload_n 0, 1) := by decide +kernel
theorem zd_X_last_1 : decode zb_X_last 1 = .ok (.iload_n 1, 1) := by decide +kernel
theorem zd_X_last_2 : decode zb_X_last 2 = .ok (.invokevirtual 73, 3) := by decide +kernel
theorem zd_X_last_5 : decode zb_X_last 5 = .ok (.astore_n 2, 1) := by decide +kernel
theorem zd_X_last_6 : decode zb_X_last 6 = .ok (.aload_n 2, 1) := by decide +kernel
theorem zd_X_last_7 : decode zb_X_last 7 = .ok (.ifnonnull 7, 3) := by decide +kernel
theorem zd_X_last_10 : decode zb_X_last 10 = .ok (.iconst (-1), 1) := by decide +kernel
theorem zd_X_last_11 : decode zb_X_last 11 = .ok (.goto 7, 3) := by decide +kernel
theorem zd_X_last_14 : decode zb_X_last 14 = .ok (.aload_n 2, 1) := by decide +kernel
theorem zd_X_last_15 : decode zb_X_last 15 = .ok (.getfield 138, 3) := by decide +kernel
theorem zd_X_last_18 : decode zb_X_last 18 = .ok (.ireturn, 1) := by decide +kernel
theorem zd_L_cell_0 : decode zb_L_cell 0 = .ok (.iload_n 1, 1) := by decide +kernel
theorem zd_L_cell_1 : decode zb_L_cell 1 = .ok (.aload_n 0, 1) := by decide +kernel
theorem zd_L_cell_2 : decode zb_L_cell 2 = .ok (.arraylength, 1) := by decide +kernel
theorem zd_L_cell_3 : decode zb_L_cell 3 = .ok (.if_icmp .ge 9, 3) := by decide +kernel
theorem zd_L_cell_6 : decode zb_L_cell 6 = .ok (.aload_n 0, 1) := by decide +kernel
theorem zd_L_cell_7 : decode zb_L_cell 7 = .ok (.iload_n 1, 1) := by decide +kernel
theorem zd_L_cell_8 : decode zb_L_cell 8 = .ok (.iaload, 1) := by decide +kernel
theorem zd_L_cell_9 : decode zb_L_cell 9 = .ok (.goto 4, 3) := by decide +kernel
theorem zd_L_cell_12 : decode zb_L_cell 12 = .ok (.iconst 0, 1) := by decide +kernel
theorem zd_L_cell_13 : decode zb_L_cell 13 = .ok (.ireturn, 1) := by decide +kernel
end
section
/-! new cells of the class: a frame, a flow with its route -/
def fb_ad (ad : Nat → Nat → Nat) (K I q : Nat) : Nat → Nat → Nat := fun k i => if k = K ∧ i = I then q else ad k i
theorem fb_ad_ne {ad : Nat → Nat → Nat} {K I q k i : Nat} (h : ¬ (k = K ∧ i = I)) : fb_ad ad K I q k i = ad k i := if_neg h
theorem fb_ad_eq {ad : Nat → Nat → Nat} {K I q : Nat} : fb_ad ad K I q K I = q := if_pos ⟨rfl, rfl⟩
theorem fb_ro_ad {a b : Nat → Nat} {n : Nat} {z : Int32} (h : fb_rg n z) (hab : ∀ j, j < n → a j = b j) : fb_ro a z = fb_ro b z := by
  by_cases hz : z < 0
  · rw [fb_ro_n hz, fb_ro_n hz]
  · rw [fb_ro_s hz, fb_ro_s hz, hab _ (fb_rl h hz)]
/-- the cells see only addresses of what lives -/
theorem fb_cC_ad {cA : Nat → ClassId} {ad ad' : Nat → Nat → Nat} {st : fb_S} {LL : fb_L} {fl fr : Nat} (ok : fb_okC fl fr st) (hfl : fl ≤ 12) (hfr : fr ≤ 100) (hL : fb_lvC LL fl fr) (h : ∀ k i, ¬ (k = 7 ∧ fr ≤ i) → ¬ (k = 6 ∧ fl ≤ i) → ¬ (k = 12 ∧ fl ≤ i) → ad' k i = ad k i) {k i : Nat} (hm : (k, i) ∈ LL) : fb_cC cA ad' st k i = fb_cC cA ad st k i := by
  obtain ⟨h12, h0, h7, h6, hd⟩ := hL.1 k i hm
  have a7 : ∀ j, j < fr → ad' 7 j = ad 7 j := fun j hj => h 7 j (by omega) (by omega) (by omega)
  have a6 : ∀ j, j < fl → ad' 6 j = ad 6 j := fun j hj => h 6 j (by omega) (by omega) (by omega)
  have a5 : ∀ j, ad' 5 j = ad 5 j := fun j => h 5 j (by omega) (by omega) (by omega)
  have a11 : ∀ j, ad' 11 j = ad 11 j := fun j => h 11 j (by omega) (by omega) (by omega)
  have ro7 : ∀ F j, fb_rg fr (st F j) → fb_ro (ad' 7) (st F j) = fb_ro (ad 7) (st F j) := fun F j q => fb_ro_ad q a7
  rcases (show k = 0 ∨ k = 1 ∨ k = 2 ∨ k = 3 ∨ k = 4 ∨ k = 5 ∨ k = 6 ∨ k = 7 ∨ k = 8 ∨ k = 9 ∨ k = 10 ∨ k = 11 ∨ k = 12 by omega) with rfl | rfl | rfl | rfl | rfl | rfl | rfl | rfl | rfl | rfl | rfl | rfl | rfl
  · simp only [fb_cC]
    rw [h 1 0 (by omega) (by omega) (by omega), h 2 0 (by omega) (by omega) (by omega), h 3 0 (by omega) (by omega) (by omega), h 4 0 (by omega) (by omega) (by omega)]
  · rfl
  · simp only [fb_cC]
    rw [show ad' 5 = ad 5 from funext a5]
  · simp only [fb_cC]
    rw [show (fun j => fb_ro (ad' 6) (st 8 j)) = (fun j => fb_ro (ad 6) (st 8 j)) from funext (fun j => fb_ro_ad (fb_rgi (ok 8 j) (by omega)) a6)]
  · simp only [fb_cC]
    rw [show (fun j => fb_ro (ad' 7) (st 9 j)) = (fun j => fb_ro (ad 7) (st 9 j)) from funext (fun j => fb_ro_ad (fb_rgi (ok 9 j) (by omega)) a7)]
  · simp only [fb_cC]
    rw [h 8 i (by omega) (by omega) (by omega), h 9 i (by omega) (by omega) (by omega), h 10 i (by omega) (by omega) (by omega), a11, ro7 13 i (ok 13 i)]
  · simp only [fb_cC]
    rw [h 12 i (by omega) (by omega) (by have := h6 rfl; omega)]
  · simp only [fb_cC]
    rw [a6 _ (fb_vl (ok 36 i (h7 rfl))), ro7 44 i (ok 44 i), show ad' 5 = ad 5 from funext a5]
  · simp only [fb_cC]
    rw [show ad' 11 = ad 11 from funext a11]
  · rfl
  · rfl
  · simp only [fb_cC]
    rw [ro7 19 i (ok 19 i), ro7 20 i (ok 20 i)]
  · simp only [fb_cC]
    rw [show ad' 5 = ad 5 from funext a5]
/-- a new frame's store -/
def cf_newK (fr : Nat) (num z n : Int32) (s : fb_S) : fb_S :=
  fb_up (fb_up (fb_up (fb_up (fb_up (fb_up (fb_up (fb_up (fb_up (fb_up s 35 fr num) 36 fr z) 37 fr n) 38 fr 1) 39 fr (-1)) 40 fr 0) 41 fr 0) 42 fr (-1)) 43 fr 0) 44 fr (-1)
theorem cf_newK_other {fr : Nat} {num z n : Int32} {s : fb_S} {F j : Nat} (h : F < 35 ∨ j ≠ fr) : cf_newK fr num z n s F j = s F j := by
  have key : ∀ (x : fb_S) (G : Nat) (v : Int32), 35 ≤ G → fb_up x G fr v F j = x F j := fun x G v hG => by
    rcases h with h | h
    · exact fb_up_F x _ _ v (by omega)
    · exact fb_up_i x _ _ v h
  unfold cf_newK
  rw [key _ 44 _ (by omega), key _ 43 _ (by omega), key _ 42 _ (by omega), key _ 41 _ (by omega), key _ 40 _ (by omega), key _ 39 _ (by omega), key _ 38 _ (by omega), key _ 37 _ (by omega), key _ 36 _ (by omega), key _ 35 _ (by omega)]
theorem fb_wl_newK {cA : Nat → ClassId} {ad : Nat → Nat → Nat} {st : fb_S} {LL : fb_L} {fl fr q : Nat} {num z n : Int32} (ok : fb_okC fl fr st) (hL : fb_lvC LL fl fr) : fb_wl (fb_cC cA) (fb_ad ad 7 fr q) (cf_newK fr num z n st) (LL ++ [(7, fr)]) = fb_wl (fb_cC cA) ad st LL ++ [(q, .inr (3, [.int num, .ref (ad 6 (fb_n z)), .int n, .int 1, .int (-1), .int 0, .int 0, .null, .int 0, .null]))] := by
  have hfl : fl ≤ 12 := hL.2.2.2.2.2.2.1
  have hfr : fr ≤ 100 := hL.2.2.2.2.2.2.2
  unfold fb_wl
  rw [List.map_append]
  congr 1
  · refine List.map_congr_left (fun x hx => ?_)
    obtain ⟨k, i⟩ := x
    obtain ⟨h12, h0, h7, h6, hd⟩ := hL.1 k i hx
    have e1 : fb_ad ad 7 fr q k i = ad k i := fb_ad_ne (fun e => by have := h7 e.1; omega)
    have e2 : fb_cC cA (fb_ad ad 7 fr q) (cf_newK fr num z n st) k i = fb_cC cA (fb_ad ad 7 fr q) st k i := by
      refine fb_cC_congr h0 (fun F j hF hj => cf_newK_other ?_) h12
      by_cases c : F < 35
      · exact Or.inl c
      · refine Or.inr ?_
        have e7 : fb_ow F = 7 := by
          unfold fb_ow
          repeat rw [if_neg (by omega)]
        have ej : fb_ix F j = j := by
          unfold fb_ix
          repeat rw [if_neg (by omega)]
        have := h7 (by rw [← hF, e7])
        omega
    have e3 : fb_cC cA (fb_ad ad 7 fr q) st k i = fb_cC cA ad st k i := fb_cC_ad ok hfl hfr hL (fun k i a _ _ => fb_ad_ne (fun e => a ⟨e.1, by omega⟩)) hx
    simp only [e1, e2, e3]
  · simp only [List.map_cons, List.map_nil, fb_ad_eq]
    refine congrArg (fun x => [(q, x)]) ?_
    show (Sum.inr (3, [.int (cf_newK fr num z n st 35 fr), .ref (fb_ad ad 7 fr q 6 (fb_n (cf_newK fr num z n st 36 fr))), .int (cf_newK fr num z n st 37 fr), .int (cf_newK fr num z n st 38 fr), .int (cf_newK fr num z n st 39 fr), .int (cf_newK fr num z n st 40 fr), .int (cf_newK fr num z n st 41 fr), va_rf (fb_ro (fb_ad ad 7 fr q 5) (cf_newK fr num z n st 42 fr)), .int (cf_newK fr num z n st 43 fr), va_rf (fb_ro (fb_ad ad 7 fr q 7) (cf_newK fr num z n st 44 fr))]) : va_E) = _
    simp [cf_newK, fb_up, fb_ad, fb_ro, va_rf]
/-- what lives behind it -/
theorem fb_lvC_newK {LL : fb_L} {fl fr : Nat} (hL : fb_lvC LL fl fr) (h : fr < 100) : fb_lvC (LL ++ [(7, fr)]) fl (fr + 1) := by
  obtain ⟨h1, h2, h3, h4, h5, h6, h7, h8⟩ := hL
  refine ⟨fun k i hm => ?_, fun k hk => List.mem_append_left _ (h2 k hk), fun i hi => ?_, fun j hj => List.mem_append_left _ (h4 j hj), fun f hf => ?_, fun k hk => ?_, h7, by omega⟩
  · rcases List.mem_append.mp hm with hm | hm
    · obtain ⟨a, b, c, d, e⟩ := h1 k i hm
      exact ⟨a, b, fun q => by have := c q; omega, d, e⟩
    · simp only [List.mem_cons, List.not_mem_nil, or_false, Prod.mk.injEq] at hm
      obtain ⟨rfl, rfl⟩ := hm
      exact ⟨by omega, by omega, by omega, by omega, by omega⟩
  · obtain ⟨a, b, c, d⟩ := h3 i hi
    exact ⟨List.mem_append_left _ a, List.mem_append_left _ b, List.mem_append_left _ c, List.mem_append_left _ d⟩
  · obtain ⟨a, b⟩ := h5 f hf
    exact ⟨List.mem_append_left _ a, List.mem_append_left _ b⟩
  · by_cases e : k = fr
    · subst e
      exact List.mem_append_right _ (by simp)
    · exact List.mem_append_left _ (h6 k (by omega))
end
section
/-! new cells, second part: stores into arrays of references, ranges behind a new frame or flow -/
section FBN
variable {p : Program} {l : Launch} {e : Env} {R : Room} {s : State} {m : MethodId} {args : Array Value} {below : List Frame} {meth : Method} {c : Code} {H : Heap} {locs : List Loc} {cells slots : Nat} {Q : State → Prop}
variable {cc : ByteArray} {pc : Nat} {ls : Array Slot} {rest : List Value} {D : va_G} {cl : List vw_C} {A : Nat → Prop} {tys : List (ClassId × FieldType)} {H0 : Heap} {cn : fb_C} {ad : Nat → Nat → Nat} {st : fb_S} {LL : fb_L} {k i k2 i2 : Nat}
theorem pw_aast (hexec : p.tables.exec = Jvm.exec) (hb : c.code = cc) (hK : va_K D cl tys s) (hP : va_P D cl (fb_wl cn ad st LL) H) (hD : va_D A (fb_wl cn ad st LL)) (hS : va_S A H0 H locs) (hm : (k, i) ∈ LL) (t0 : Nat) {cA : ClassId} {n : Nat} {f : Nat → Option Nat} (he : cn ad st k i = .inl (cA, n, .inr (.inr (.inr (.inr f))))) {r : vw_C} (ht : tys[t0]? = some (cA, .object r.1)) (hm2 : (k2, i2) ∈ LL) {ci : Nat} {vs : List Value} (he2 : cn ad st k2 i2 = .inr (ci, vs)) (hc : cl[ci]? = some r) {z : Int32} (hin : vp_in z n)
    (st' : fb_S) (hs : cn ad st' k i = .inl (cA, n, .inr (.inr (.inr (.inr (va_up f z.toNatClampNeg (some (ad k2 i2)))))))) (ho : ∀ k' i' : Nat, (k', i') ∈ LL → ¬ (k' = k ∧ i' = i) → cn ad st' k' i' = cn ad st k' i') (hdg : decode cc pc = .ok (.aastore, 1))
    (kk : ∀ (H1 : Heap) (locs1 : List Loc), va_P D cl (fb_wl cn ad st' LL) H1 → va_D A (fb_wl cn ad st' LL) → va_S A H0 H1 locs1 → W p l e R s m args below meth c H1 locs1 cells slots Q (F0 m (pc + 1) ls rest)) : W p l e R s m args below meth c H locs cells slots Q (F0 m pc ls (.ref (ad k2 i2) :: .int z :: .ref (ad k i) :: rest)) := by
  obtain ⟨q0, hL, hq⟩ := fb_get (cn := cn) (ad := ad) (st := st) hm
  obtain ⟨q2, hL2, hq2⟩ := fb_get (cn := cn) (ad := ad) (st := st) hm2
  have hset := fb_set hD hL hs.symm ho
  rw [he] at hq
  rw [he2] at hq2
  refine va_astq hexec hb hK hP hD hS q0 t0 q2 ci hq ht hq2 hc hin hdg (fun H1 locs1 h1 h2 h3 => ?_)
  rw [hset] at h1 h2
  exact kk H1 locs1 h1 h2 h3
end FBN
theorem fb_AA {cn : fb_C} {ad : Nat → Nat → Nat} {st : fb_S} {LL : fb_L} {A : Nat → Prop} {z : Nat} (hD : va_D A (fb_wl cn ad st LL)) (hA : ∀ q, z ≤ q → A q) : ∀ q, fb_A ad LL z q → A q := by
  rintro q (⟨x, hx, rfl⟩ | h)
  · obtain ⟨q0, -, h0⟩ := fb_get (cn := cn) (ad := ad) (st := st) (LL := LL) (k := x.1) (i := x.2) hx
    exact hD.2 q0 _ h0
  · exact hA q h
theorem pq_C9 {cA : Nat → ClassId} {ad : Nat → Nat → Nat} (st : fb_S) {j : Nat} (h : j < 2 ^ 31) : fb_cC cA ad (fb_up st 9 j (nI j)) 4 0 = .inl (cA 3, 100, .inr (.inr (.inr (.inr (va_up (fun q => fb_ro (ad 7) (st 9 q)) j (some (ad 7 j))))))) := by
  show (Sum.inl (cA 3, 100, .inr (.inr (.inr (.inr (fun q => fb_ro (ad 7) (fb_up st 9 j (nI j) 9 q)))))) : va_E) = _
  rw [show (fun q => fb_ro (ad 7) (fb_up st 9 j (nI j) 9 q)) = va_up (fun q => fb_ro (ad 7) (st 9 q)) j (some (ad 7 j)) from funext (fun q => by
    unfold va_up
    by_cases e : q = j
    · subst e
      rw [if_pos rfl, fb_up_same, fb_ro_k h]
    · rw [if_neg e, fb_up_i _ _ _ _ e])]
theorem pq_C8 {cA : Nat → ClassId} {ad : Nat → Nat → Nat} (st : fb_S) {j : Nat} (h : j < 2 ^ 31) : fb_cC cA ad (fb_up st 8 j (nI j)) 3 0 = .inl (cA 2, 12, .inr (.inr (.inr (.inr (va_up (fun q => fb_ro (ad 6) (st 8 q)) j (some (ad 6 j))))))) := by
  show (Sum.inl (cA 2, 12, .inr (.inr (.inr (.inr (fun q => fb_ro (ad 6) (fb_up st 8 j (nI j) 8 q)))))) : va_E) = _
  rw [show (fun q => fb_ro (ad 6) (fb_up st 8 j (nI j) 8 q)) = va_up (fun q => fb_ro (ad 6) (st 8 q)) j (some (ad 6 j)) from funext (fun q => by
    unfold va_up
    by_cases e : q = j
    · subst e
      rw [if_pos rfl, fb_up_same, fb_ro_k h]
    · rw [if_neg e, fb_up_i _ _ _ _ e])]
theorem fb_rgm {a b : Nat} {v : Int32} (h : fb_rg a v) (hab : a ≤ b) : fb_rg b v := h.imp id (fun q => q ∘ fun r => r.elim Or.inl (fun r => Or.inr (Nat.le_trans hab r)))
theorem fb_rC_fr {fl fr F j : Nat} {v : Int32} (h : fb_rC fl fr F j v) (h5 : F ≠ 5) (h9 : F ≠ 9) (hj : j ≠ fr ∨ F < 35) : fb_rC fl (fr + 1) F j v := by
  unfold fb_rC at h ⊢
  split
  all_goals first
    | exact trivial
    | exact absurd rfl h5
    | exact absurd rfl h9
    | exact h
    | exact fb_rgm h (by omega)
    | (intro q; exact h (by omega))
theorem cf_newK_at {fr : Nat} {num z n : Int32} {s : fb_S} : cf_newK fr num z n s 36 fr = z ∧ cf_newK fr num z n s 37 fr = n ∧ cf_newK fr num z n s 40 fr = 0 ∧ cf_newK fr num z n s 42 fr = -1 ∧ cf_newK fr num z n s 44 fr = -1 := by
  simp [cf_newK, fb_up]
theorem fb_okC_newK {fl fr : Nat} {st : fb_S} {z n : Int32} (ok : fb_okC fl fr st) (hz : vp_in z fl) (hn : 1 ≤ n ∧ n ≤ 4) : fb_okC fl (fr + 1) (fb_up (fb_up (cf_newK fr (st 5 0) z n st) 9 fr (nI fr)) 5 0 (fb_up (cf_newK fr (st 5 0) z n st) 9 fr (nI fr) 5 0 + 1)) := by
  have h5 : st 5 0 = nI fr := ok 5 0 rfl
  obtain ⟨e36, e37, e40, e42, e44⟩ := cf_newK_at (fr := fr) (num := st 5 0) (z := z) (n := n) (s := st)
  intro F j
  by_cases f5 : F = 5
  · subst f5
    intro hj
    subst hj
    rw [fb_up_same, fb_up_F _ _ _ _ (by decide), cf_newK_other (Or.inl (by decide)), h5, nI_1]
  · rw [fb_up_F _ _ _ _ f5]
    by_cases f9 : F = 9
    · subst f9
      show fb_up (cf_newK fr (st 5 0) z n st) 9 fr (nI fr) 9 j = if j < fr + 1 then nI j else -1
      by_cases e : j = fr
      · subst e
        rw [fb_up_same, if_pos (by omega)]
      · rw [fb_up_i _ _ _ _ e, cf_newK_other (Or.inl (by decide)), show st 9 j = if j < fr then nI j else -1 from ok 9 j]
        by_cases q : j < fr
        · rw [if_pos q, if_pos (by omega)]
        · rw [if_neg q, if_neg (by omega)]
    · rw [fb_up_F _ _ _ _ f9]
      by_cases c : j ≠ fr ∨ F < 35
      · rw [cf_newK_other (c.symm)]
        exact fb_rC_fr (ok F j) f5 f9 c
      · have ej : j = fr := by omega
        subst ej
        have h35 : 35 ≤ F := by omega
        rcases (show F = 36 ∨ F = 37 ∨ F = 40 ∨ F = 42 ∨ F = 44 ∨ (F ≠ 36 ∧ F ≠ 37 ∧ F ≠ 40 ∧ F ≠ 42 ∧ F ≠ 44) by omega) with rfl | rfl | rfl | rfl | rfl | q
        · rw [e36]; exact fun _ => hz
        · rw [e37]; exact fun _ => hn
        · rw [e40]; exact Or.inl rfl
        · rw [e42]; exact Or.inl rfl
        · rw [e44]; exact Or.inl rfl
        · unfold fb_rC
          split
          all_goals first
            | exact trivial
            | omega
/-- a new flow's store -/
def cf_newF (fl : Nat) (pr len r0 r1 r2 r3 : Int32) (s : fb_S) : fb_S :=
  let a := fb_up (fb_up (fb_up (fb_up (fb_up (fb_up s 22 fl pr) 23 fl 64) 24 fl 64) 25 fl 64) 26 fl 0) 27 fl 0
  let b := fb_up (fb_up (fb_up (fb_up (fb_up a 28 fl 0) 29 fl 0) 30 fl 0) 31 fl 0) 32 fl (-1)
  fb_up (fb_up (fb_up (fb_up (fb_up b 34 fl len) 33 (4 * fl) r0) 33 (4 * fl + 1) r1) 33 (4 * fl + 2) r2) 33 (4 * fl + 3) r3
theorem cf_newF_other {fl : Nat} {pr len r0 r1 r2 r3 : Int32} {s : fb_S} {F j : Nat} (h : F < 22 ∨ 34 < F ∨ (F ≠ 33 ∧ j ≠ fl) ∨ (F = 33 ∧ j / 4 ≠ fl)) : cf_newF fl pr len r0 r1 r2 r3 s F j = s F j := by
  have key : ∀ (x : fb_S) (G : Nat) (v : Int32), 22 ≤ G → G ≤ 34 → G ≠ 33 → fb_up x G fl v F j = x F j := fun x G v hG hG2 hG3 => by
    by_cases e : F = G
    · exact fb_up_i x _ _ v (by omega)
    · exact fb_up_F x _ _ v e
  have key3 : ∀ (x : fb_S) (t : Nat) (v : Int32), t < 4 → fb_up x 33 (4 * fl + t) v F j = x F j := fun x t v ht => by
    by_cases e : F = 33
    · exact fb_up_i x _ _ v (by omega)
    · exact fb_up_F x _ _ v e
  simp only [cf_newF]
  rw [key3 _ 3 _ (by omega), key3 _ 2 _ (by omega), key3 _ 1 _ (by omega), show 4 * fl = 4 * fl + 0 from rfl, key3 _ 0 _ (by omega), key _ 34 _ (by omega) (by omega) (by omega), key _ 32 _ (by omega) (by omega) (by omega), key _ 31 _ (by omega) (by omega) (by omega), key _ 30 _ (by omega) (by omega) (by omega), key _ 29 _ (by omega) (by omega) (by omega), key _ 28 _ (by omega) (by omega) (by omega), key _ 27 _ (by omega) (by omega) (by omega), key _ 26 _ (by omega) (by omega) (by omega), key _ 25 _ (by omega) (by omega) (by omega), key _ 24 _ (by omega) (by omega) (by omega), key _ 23 _ (by omega) (by omega) (by omega), key _ 22 _ (by omega) (by omega) (by omega)]
theorem fb_wl_newF {cA : Nat → ClassId} {ad : Nat → Nat → Nat} {st : fb_S} {LL : fb_L} {fl fr q r N : Nat} {pr : Int32} {rt : Nat → Int32} (ok : fb_okC fl fr st) (hL : fb_lvC LL fl fr) (hN : N < 2 ^ 31) (hrt : ∀ j, 4 ≤ j → rt j = -1) : fb_wl (fb_cC cA) (fb_ad (fb_ad ad 12 fl r) 6 fl q) (cf_newF fl pr (nI N) (rt 0) (rt 1) (rt 2) (rt 3) st) (LL ++ [(12, fl), (6, fl)]) = fb_wl (fb_cC cA) ad st LL ++ [(r, .inl (cA 1, N, .inr (.inr (.inr (.inr (fun j => fb_ro (ad 5) (rt j))))))), (q, .inr (2, [.int pr, .ref r, .int 64, .int 64, .int 64, .int 0, .int 0, .int 0, .int 0, .int 0, .int 0, .int (-1)]))] := by
  have hfl : fl ≤ 12 := hL.2.2.2.2.2.2.1
  have hfr : fr ≤ 100 := hL.2.2.2.2.2.2.2
  unfold fb_wl
  rw [List.map_append]
  congr 1
  · refine List.map_congr_left (fun x hx => ?_)
    obtain ⟨k, i⟩ := x
    obtain ⟨h12, h0, h7, h6, hd⟩ := hL.1 k i hx
    have e1 : fb_ad (fb_ad ad 12 fl r) 6 fl q k i = ad k i := by
      rw [fb_ad_ne (fun e => by have := h6 e.1; omega), fb_ad_ne (fun e => by have := hd e.1; omega)]
    have e2 : fb_cC cA (fb_ad (fb_ad ad 12 fl r) 6 fl q) (cf_newF fl pr (nI N) (rt 0) (rt 1) (rt 2) (rt 3) st) k i = fb_cC cA (fb_ad (fb_ad ad 12 fl r) 6 fl q) st k i := by
      refine fb_cC_congr h0 (fun F j hF hj => cf_newF_other ?_) h12
      by_cases c1 : F < 22
      · exact Or.inl c1
      · by_cases c2 : 34 < F
        · exact Or.inr (Or.inl c2)
        · refine Or.inr (Or.inr ?_)
          by_cases c3 : F = 33
          · subst c3
            rw [ow_33] at hF
            rw [ix_33] at hj
            have := hd hF.symm
            exact Or.inr ⟨rfl, by omega⟩
          · by_cases c4 : F = 34
            · subst c4
              rw [ow_34] at hF
              rw [ix_34] at hj
              have := hd hF.symm
              exact Or.inl ⟨c3, by omega⟩
            · have e6 : fb_ow F = 6 := by
                unfold fb_ow
                repeat rw [if_neg (by omega)]
                rw [if_pos (by omega)]
              have ej : fb_ix F j = j := by
                unfold fb_ix
                repeat rw [if_neg (by omega)]
              have := h6 (by rw [← hF, e6])
              exact Or.inl ⟨c3, by omega⟩
    have e3 : fb_cC cA (fb_ad (fb_ad ad 12 fl r) 6 fl q) st k i = fb_cC cA ad st k i := fb_cC_ad ok hfl hfr hL (fun k i _ b d => by rw [fb_ad_ne (fun e => b ⟨e.1, by omega⟩), fb_ad_ne (fun e => d ⟨e.1, by omega⟩)]) hx
    simp only [e1, e2, e3]
  · simp only [List.map_cons, List.map_nil]
    have a12 : fb_ad (fb_ad ad 12 fl r) 6 fl q 12 fl = r := by rw [fb_ad_ne (by omega)]; exact fb_ad_eq
    have a5 : fb_ad (fb_ad ad 12 fl r) 6 fl q 5 = ad 5 := by funext j; rw [fb_ad_ne (by omega), fb_ad_ne (by omega)]
    rw [a12, fb_ad_eq]
    have x34 : cf_newF fl pr (nI N) (rt 0) (rt 1) (rt 2) (rt 3) st 34 fl = nI N := by simp [cf_newF, fb_up]
    have x33 : ∀ j, (if j < 4 then cf_newF fl pr (nI N) (rt 0) (rt 1) (rt 2) (rt 3) st 33 (4 * fl + j) else -1) = rt j := fun j => by
      by_cases hj : j < 4
      · rw [if_pos hj]
        rcases (show j = 0 ∨ j = 1 ∨ j = 2 ∨ j = 3 by omega) with rfl | rfl | rfl | rfl <;> simp [cf_newF, fb_up]
      · rw [if_neg hj, hrt j (by omega)]
    have c12 : fb_cC cA (fb_ad (fb_ad ad 12 fl r) 6 fl q) (cf_newF fl pr (nI N) (rt 0) (rt 1) (rt 2) (rt 3) st) 12 fl = .inl (cA 1, N, .inr (.inr (.inr (.inr (fun j => fb_ro (ad 5) (rt j)))))) := by
      simp only [fb_cC]
      rw [x34, fb_nI hN, a5]
      simp only [x33]
    have c6 : fb_cC cA (fb_ad (fb_ad ad 12 fl r) 6 fl q) (cf_newF fl pr (nI N) (rt 0) (rt 1) (rt 2) (rt 3) st) 6 fl = .inr (2, [.int pr, .ref r, .int 64, .int 64, .int 64, .int 0, .int 0, .int 0, .int 0, .int 0, .int 0, .int (-1)]) := by
      simp only [fb_cC]
      rw [a12]
      simp [cf_newF, fb_up]
    rw [c12, c6]
theorem fb_lvC_newF {LL : fb_L} {fl fr : Nat} (hL : fb_lvC LL fl fr) (h : fl < 12) : fb_lvC (LL ++ [(12, fl), (6, fl)]) (fl + 1) fr := by
  obtain ⟨h1, h2, h3, h4, h5, h6, h7, h8⟩ := hL
  refine ⟨fun k i hm => ?_, fun k hk => List.mem_append_left _ (h2 k hk), fun i hi => ?_, fun j hj => List.mem_append_left _ (h4 j hj), fun f hf => ?_, fun k hk => List.mem_append_left _ (h6 k hk), by omega, h8⟩
  · rcases List.mem_append.mp hm with hm | hm
    · obtain ⟨a, b, c, d, e⟩ := h1 k i hm
      exact ⟨a, b, c, fun q => by have := d q; omega, fun q => by have := e q; omega⟩
    · simp only [List.mem_cons, List.not_mem_nil, or_false, Prod.mk.injEq] at hm
      rcases hm with ⟨rfl, rfl⟩ | ⟨rfl, rfl⟩
      · exact ⟨by omega, by omega, by omega, by omega, by omega⟩
      · exact ⟨by omega, by omega, by omega, by omega, by omega⟩
  · obtain ⟨a, b, c, d⟩ := h3 i hi
    exact ⟨List.mem_append_left _ a, List.mem_append_left _ b, List.mem_append_left _ c, List.mem_append_left _ d⟩
  · by_cases e : f = fl
    · subst e
      exact ⟨List.mem_append_right _ (by simp), List.mem_append_right _ (by simp)⟩
    · obtain ⟨a, b⟩ := h5 f (by omega)
      exact ⟨List.mem_append_left _ a, List.mem_append_left _ b⟩
theorem fb_rC_fl {fl fr F j : Nat} {v : Int32} (h : fb_rC fl fr F j v) (h4 : F ≠ 4) (h8 : F ≠ 8) (hj : j ≠ fl ∨ F < 22 ∨ 34 < F) : fb_rC (fl + 1) fr F j v := by
  unfold fb_rC at h ⊢
  split
  all_goals first
    | exact trivial
    | exact absurd rfl h4
    | exact absurd rfl h8
    | exact h
    | (intro q; exact h (by omega))
    | (intro q; exact fb_vle (h q) (by omega))
theorem fb_okC_newF {fl fr : Nat} {st : fb_S} {pr r0 r1 r2 r3 : Int32} {N : Nat} (ok : fb_okC fl fr st) (hpr : pr = 0 ∨ pr = 1) (hN : N = 2 ∨ N = 4) (g0 : fb_rg 32 r0) (g1 : fb_rg 32 r1) (g2 : fb_rg 32 r2) (g3 : fb_rg 32 r3) : fb_okC (fl + 1) fr (fb_up (fb_up (cf_newF fl pr (nI N) r0 r1 r2 r3 st) 8 fl (nI fl)) 4 0 (fb_up (cf_newF fl pr (nI N) r0 r1 r2 r3 st) 8 fl (nI fl) 4 0 + 1)) := by
  have h4 : st 4 0 = nI fl := ok 4 0 rfl
  have a64 : (1 : Int32) ≤ 64 ∧ (64 : Int32) ≤ 64 := ⟨by decide, by decide⟩
  have b64 : (0 : Int32) ≤ 64 ∧ (64 : Int32) ≤ 64 := ⟨by decide, by decide⟩
  have hlen : (nI N : Int32) = 2 ∨ (nI N : Int32) = 4 := by
    rcases hN with rfl | rfl
    · exact Or.inl rfl
    · exact Or.inr rfl
  intro F j
  by_cases f4 : F = 4
  · subst f4
    intro hj
    subst hj
    rw [fb_up_same, fb_up_F _ _ _ _ (by decide), cf_newF_other (Or.inl (by decide)), h4, nI_1]
  · rw [fb_up_F _ _ _ _ f4]
    by_cases f8 : F = 8
    · subst f8
      show fb_up (cf_newF fl pr (nI N) r0 r1 r2 r3 st) 8 fl (nI fl) 8 j = if j < fl + 1 then nI j else -1
      by_cases e : j = fl
      · subst e
        rw [fb_up_same, if_pos (by omega)]
      · rw [fb_up_i _ _ _ _ e, cf_newF_other (Or.inl (by decide)), show st 8 j = if j < fl then nI j else -1 from ok 8 j]
        by_cases q : j < fl
        · rw [if_pos q, if_pos (by omega)]
        · rw [if_neg q, if_neg (by omega)]
    · rw [fb_up_F _ _ _ _ f8]
      by_cases c33 : F = 33
      · subst c33
        show fb_rg 32 (cf_newF fl pr (nI N) r0 r1 r2 r3 st 33 j)
        by_cases c : j / 4 = fl
        · rcases (show j = 4 * fl ∨ j = 4 * fl + 1 ∨ j = 4 * fl + 2 ∨ j = 4 * fl + 3 by omega) with rfl | rfl | rfl | rfl
          · simpa [cf_newF, fb_up] using g0
          · simpa [cf_newF, fb_up] using g1
          · simpa [cf_newF, fb_up] using g2
          · simpa [cf_newF, fb_up] using g3
        · rw [cf_newF_other (Or.inr (Or.inr (Or.inr ⟨rfl, c⟩)))]
          exact ok 33 j
      · by_cases c : j ≠ fl ∨ F < 22 ∨ 34 < F
        · rw [cf_newF_other (by omega)]
          exact fb_rC_fl (ok F j) f4 f8 c
        · have ej : j = fl := by omega
          subst ej
          rcases (show F = 22 ∨ F = 23 ∨ F = 24 ∨ F = 25 ∨ F = 26 ∨ F = 27 ∨ F = 28 ∨ F = 29 ∨ F = 30 ∨ F = 31 ∨ F = 32 ∨ F = 34 by omega) with rfl | rfl | rfl | rfl | rfl | rfl | rfl | rfl | rfl | rfl | rfl | rfl
          · simpa [cf_newF, fb_up, fb_rC] using hpr
          · simpa [cf_newF, fb_up, fb_rC] using a64
          · simpa [cf_newF, fb_up, fb_rC] using a64
          · simpa [cf_newF, fb_up, fb_rC] using b64
          · exact trivial
          · exact trivial
          · simp [cf_newF, fb_up, fb_rC]
          · exact trivial
          · exact trivial
          · exact trivial
          · exact trivial
          · simpa [cf_newF, fb_up, fb_rC] using hlen
end
section
/-! flow and inject of the class, exactly -/
def cf_injU (fr : Nat) (z n : Int32) (s : fb_S) : fb_S :=
  let s1 := cf_newK fr (s 5 0) z n s
  let s2 := fb_up s1 9 fr (nI fr)
  let s3 := fb_up s2 5 0 (s2 5 0 + 1)
  cf_enq fr s3
def cf_inj (fr : Nat) (f n : Int32) (s : fb_S) : fb_S := if cf_flowAt s f < 0 then s else if n < 1 then s else if 4 < n then s else if s 5 0 < 100 then cf_injU fr (cf_flowAt s f) n s else s
def cf_injA (s : fb_S) (f n : Int32) : Int32 := if cf_flowAt s f < 0 then -1 else if n < 1 then -1 else if 4 < n then -1 else if s 5 0 < 100 then s 5 0 else -1
def cf_frC (s : fb_S) (fr : Nat) (f n : Int32) : Nat := if cf_flowAt s f < 0 then fr else if n < 1 then fr else if 4 < n then fr else if s 5 0 < 100 then fr + 1 else fr
def cf_flowU (fl : Nat) (u v q : Int32) (s : fb_S) : fb_S :=
  let s1 := cf_newF fl q (nI (cf_rtN u v)) (cf_rt s (s 4 0) u v 0) (cf_rt s (s 4 0) u v 1) (cf_rt s (s 4 0) u v 2) (cf_rt s (s 4 0) u v 3) s
  let s2 := fb_up s1 8 fl (nI fl)
  fb_up s2 4 0 (s2 4 0 + 1)
def cf_flow (fl : Nat) (u v q : Int32) (s : fb_S) : fb_S := if cf_host u = true then (if cf_host v = true then (if u = v then s else if cf_prio q = true then (if s 4 0 < 12 then cf_flowU fl u v q s else s) else s) else s) else s
def cf_flowA (s : fb_S) (u v q : Int32) : Int32 := if cf_host u = true then (if cf_host v = true then (if u = v then -1 else if cf_prio q = true then (if s 4 0 < 12 then s 4 0 else -1) else -1) else -1) else -1
def cf_flC (s : fb_S) (fl : Nat) (u v q : Int32) : Nat := if cf_host u = true then (if cf_host v = true then (if u = v then fl else if cf_prio q = true then (if s 4 0 < 12 then fl + 1 else fl) else fl) else fl) else fl
theorem rg_rt {s : fb_S} (num u v : Int32) (j : Nat) : fb_rg 32 (cf_rt s num u v j) := by
  unfold cf_rt
  repeat' split
  all_goals first | exact Or.inl rfl | exact rg_pb _ _ 32 0 rfl
theorem cf_rt4 {s : fb_S} (num u v : Int32) (j : Nat) (h : 4 ≤ j) : cf_rt s num u v j = -1 := by
  unfold cf_rt
  split
  · rw [if_neg (by omega), if_neg (by omega)]
  · rw [if_neg (by omega), if_neg (by omega), if_neg (by omega), if_neg (by omega)]
theorem cf_rtN24 (u v : Int32) : cf_rtN u v = 2 ∨ cf_rtN u v = 4 := by
  unfold cf_rtN
  split
  · exact Or.inl rfl
  · exact Or.inr rfl
theorem fb_prio01 {q : Int32} (h : cf_prio q = true) : q = 0 ∨ q = 1 := by
  obtain ⟨j, hj, rfl⟩ := vp_in_of (fb_prio h) (by decide)
  rcases (by omega : j = 0 ∨ j = 1) with rfl | rfl
  · exact Or.inl rfl
  · exact Or.inr rfl
end
section
/-! the route's array -/
theorem fb_t0 : (0 : Int32).toNatClampNeg = 0 := rfl
theorem fb_t1 : (1 : Int32).toNatClampNeg = 1 := rfl
theorem fb_t2 : (2 : Int32).toNatClampNeg = 2 := rfl
theorem fb_t3 : (3 : Int32).toNatClampNeg = 3 := rfl
theorem fb_rtF2 {a : Nat → Nat} {st : fb_S} {num u v : Int32} (h : cf_leaf u = cf_leaf v) : va_up (va_up (fun _ => none) (0 : Int32).toNatClampNeg (fb_ro a (cf_pb st u (cf_leaf u) 32 0))) (1 : Int32).toNatClampNeg (fb_ro a (cf_pb st (cf_leaf u) v 32 0)) = (fun j => fb_ro a (cf_rt st num u v j)) := by
  funext j
  simp only [va_up, fb_t0, fb_t1, cf_rt, if_pos h]
  by_cases h1 : j = 1
  · subst h1
    simp
  · by_cases h0 : j = 0
    · subst h0
      simp
    · simp only [if_neg h1, if_neg h0, fb_ro_n fb_m1]
theorem fb_rtF4 {a : Nat → Nat} {st : fb_S} {num u v : Int32} (h : ¬ cf_leaf u = cf_leaf v) : va_up (va_up (va_up (va_up (fun _ => none) (0 : Int32).toNatClampNeg (fb_ro a (cf_pb st u (cf_leaf u) 32 0))) (1 : Int32).toNatClampNeg (fb_ro a (cf_pb st (cf_leaf u) (12 + (cf_bits num - cf_bits num / 2 * 2)) 32 0))) (2 : Int32).toNatClampNeg (fb_ro a (cf_pb st (12 + (cf_bits num - cf_bits num / 2 * 2)) (cf_leaf v) 32 0))) (3 : Int32).toNatClampNeg (fb_ro a (cf_pb st (cf_leaf v) v 32 0)) = (fun j => fb_ro a (cf_rt st num u v j)) := by
  funext j
  simp only [va_up, fb_t0, fb_t1, fb_t2, fb_t3, cf_rt, if_neg h]
  by_cases h3 : j = 3
  · subst h3
    simp
  · by_cases h2 : j = 2
    · subst h2
      simp
    · by_cases h1 : j = 1
      · subst h1
        simp
      · by_cases h0 : j = 0
        · subst h0
          simp
        · simp only [if_neg h3, if_neg h2, if_neg h1, if_neg h0, fb_ro_n fb_m1]
end
section
/-! the making of the ports: labels, store, addresses -/
def cf_st0 (d x r k : Int32) : fb_S := fun F i => match F with
  | 0 => d
  | 1 => x
  | 2 => r
  | 3 => k
  | 7 => if i < 2 then 1 else 0
  | 8 => -1
  | 9 => -1
  | 10 => fb_tF i
  | 11 => fb_tT i
  | 13 => -1
  | 19 => -1
  | 20 => -1
  | 33 => -1
  | 42 => -1
  | 44 => -1
  | _ => 0
def fb_p1 (n : Nat) : fb_L := [(5, n), (8, n), (11, 3 * n), (11, 3 * n + 1), (9, n), (11, 3 * n + 2), (10, n)]
def fb_ps : Nat → fb_L
  | 0 => []
  | n + 1 => fb_ps n ++ fb_p1 n
theorem fb_ps_mem {n k i : Nat} (h : (k, i) ∈ fb_ps n) : ((k = 5 ∨ k = 8 ∨ k = 9 ∨ k = 10) ∧ i < n) ∨ (k = 11 ∧ i < 3 * n) := by
  induction n with
  | zero => cases h
  | succ n ih =>
    rcases List.mem_append.mp h with h | h
    · have := ih h
      omega
    · simp only [fb_p1, List.mem_cons, List.not_mem_nil, or_false, Prod.mk.injEq] at h
      omega
theorem fb_ps_in {n i : Nat} (h : i < n) : ∀ x, x ∈ fb_p1 i → x ∈ fb_ps n := by
  induction n with
  | zero => omega
  | succ n ih =>
    intro x hx
    by_cases e : i = n
    · subst e
      exact List.mem_append_right _ hx
    · exact List.mem_append_left _ (ih (by omega) x hx)
def fb_adP (ad : Nat → Nat → Nat) (c q : Nat) (u : Nat → Nat) : Nat → Nat → Nat := fun k i =>
  if k = 5 ∧ i = c then q else if k = 8 ∧ i = c then u 0 else if k = 11 ∧ i = 3 * c then u 1 else if k = 11 ∧ i = 3 * c + 1 then u 2 else if k = 9 ∧ i = c then u 3 else if k = 11 ∧ i = 3 * c + 2 then u 4 else if k = 10 ∧ i = c then u 5 else ad k i
theorem fb_adP_old {ad : Nat → Nat → Nat} {c q : Nat} {u : Nat → Nat} {k i : Nat} (h : (k ≠ 11 ∧ i < c) ∨ (k = 11 ∧ i < 3 * c) ∨ k < 5 ∨ k = 7) : fb_adP ad c q u k i = ad k i := by
  unfold fb_adP
  repeat rw [if_neg (by omega)]
theorem fb_ps_old {cA : Nat → ClassId} {ad : Nat → Nat → Nat} {d x r k0 : Int32} {c q : Nat} {u : Nat → Nat} : fb_wl (fb_cC cA) (fb_adP ad c q u) (cf_st0 d x r k0) (fb_ps c) = fb_wl (fb_cC cA) ad (cf_st0 d x r k0) (fb_ps c) := by
  unfold fb_wl
  refine List.map_congr_left (fun y hy => ?_)
  obtain ⟨k, i⟩ := y
  have hm := fb_ps_mem hy
  have e1 : fb_adP ad c q u k i = ad k i := fb_adP_old (by omega)
  have e2 : fb_cC cA (fb_adP ad c q u) (cf_st0 d x r k0) k i = fb_cC cA ad (cf_st0 d x r k0) k i := by
    rcases hm with ⟨hk, hi⟩ | ⟨rfl, hi⟩
    · rcases hk with rfl | rfl | rfl | rfl
      · simp only [fb_cC]
        rw [fb_adP_old (k := 8) (by omega), fb_adP_old (k := 9) (by omega), fb_adP_old (k := 10) (by omega), fb_adP_old (k := 11) (by omega)]
        rfl
      · simp only [fb_cC]
        rw [show (fun j => if j < 2 then some (fb_adP ad c q u 11 (3 * i + j)) else none) = (fun j => if j < 2 then some (ad 11 (3 * i + j)) else none) from funext (fun j => by
          by_cases hj : j < 2
          · rw [if_pos hj, if_pos hj, fb_adP_old (by omega)]
          · rw [if_neg hj, if_neg hj])]
      · simp only [fb_cC]
      · simp only [fb_cC]
    · rfl
  simp only [e1, e2]
theorem fb_wl_port {cA : Nat → ClassId} {ad : Nat → Nat → Nat} {d x r k0 : Int32} {c q : Nat} {u : Nat → Nat} {fm tt : Int32} (h1 : fb_tF c = fm) (h2 : fb_tT c = tt) : fb_wl (fb_cC cA) (fb_adP ad c q u) (cf_st0 d x r k0) (fb_ps (c + 1)) = fb_wl (fb_cC cA) ad (cf_st0 d x r k0) (fb_ps c) ++ [(q, .inr (1, [.int fm, .int tt, .ref (u 0), .ref (u 3), .int 0, .null, .ref (u 4), .ref (u 5), .int 0, .int 0, .int 0])), ((u 0), .inl (cA 4, 2, .inr (.inr (.inr (.inr (va_up (va_up (fun _ => none) (0 : Int32).toNatClampNeg (some (u 1))) (1 : Int32).toNatClampNeg (some (u 2)))))))), ((u 1), .inr (4, [.null, .null, .int 0])), ((u 2), .inr (4, [.null, .null, .int 0])), ((u 3), .inl (cA 0, 2, .inl (upd (upd (fun _ => 0) (0 : Int32).toNatClampNeg 0) (1 : Int32).toNatClampNeg 0))), ((u 4), .inr (4, [.null, .null, .int 0])), ((u 5), .inl (cA 0, 2, .inl (upd (upd (fun _ => 0) (0 : Int32).toNatClampNeg 0) (1 : Int32).toNatClampNeg 0)))] := by
  have a5 : fb_adP ad c q u 5 c = q := by unfold fb_adP; rw [if_pos ⟨rfl, rfl⟩]
  have a8 : fb_adP ad c q u 8 c = u 0 := by unfold fb_adP; rw [if_neg (by omega), if_pos ⟨rfl, rfl⟩]
  have a110 : fb_adP ad c q u 11 (3 * c) = u 1 := by unfold fb_adP; rw [if_neg (by omega), if_neg (by omega), if_pos ⟨rfl, rfl⟩]
  have a111 : fb_adP ad c q u 11 (3 * c + 1) = u 2 := by unfold fb_adP; rw [if_neg (by omega), if_neg (by omega), if_neg (by omega), if_pos ⟨rfl, rfl⟩]
  have a9 : fb_adP ad c q u 9 c = u 3 := by unfold fb_adP; rw [if_neg (by omega), if_neg (by omega), if_neg (by omega), if_neg (by omega), if_pos ⟨rfl, rfl⟩]
  have a112 : fb_adP ad c q u 11 (3 * c + 2) = u 4 := by unfold fb_adP; rw [if_neg (by omega), if_neg (by omega), if_neg (by omega), if_neg (by omega), if_neg (by omega), if_pos ⟨rfl, rfl⟩]
  have a10 : fb_adP ad c q u 10 c = u 5 := by unfold fb_adP; rw [if_neg (by omega), if_neg (by omega), if_neg (by omega), if_neg (by omega), if_neg (by omega), if_neg (by omega), if_pos ⟨rfl, rfl⟩]
  have nul : ∀ a : Nat → Nat, va_rf (fb_ro a (-1)) = .null := fun a => by rw [fb_ro_n fb_m1]; rfl
  have z0 : (fun j => if j < 2 then (0 : Int32) else 0) = upd (upd (fun _ => 0) (0 : Int32).toNatClampNeg 0) (1 : Int32).toNatClampNeg 0 := by
    funext j
    unfold upd
    repeat' split
    all_goals rfl
  show fb_wl (fb_cC cA) (fb_adP ad c q u) (cf_st0 d x r k0) (fb_ps c ++ fb_p1 c) = _
  rw [show fb_wl (fb_cC cA) (fb_adP ad c q u) (cf_st0 d x r k0) (fb_ps c ++ fb_p1 c) = fb_wl (fb_cC cA) (fb_adP ad c q u) (cf_st0 d x r k0) (fb_ps c) ++ fb_wl (fb_cC cA) (fb_adP ad c q u) (cf_st0 d x r k0) (fb_p1 c) from List.map_append, fb_ps_old]
  congr 1
  have c5 : fb_cC cA (fb_adP ad c q u) (cf_st0 d x r k0) 5 c = .inr (1, [.int fm, .int tt, .ref (u 0), .ref (u 3), .int 0, .null, .ref (u 4), .ref (u 5), .int 0, .int 0, .int 0]) := by
    simp only [fb_cC]
    rw [a8, a9, a10, a112]
    show (Sum.inr (1, [.int (fb_tF c), .int (fb_tT c), .ref (u 0), .ref (u 3), .int 0, va_rf (fb_ro (fb_adP ad c q u 7) (-1)), .ref (u 4), .ref (u 5), .int 0, .int 0, .int 0]) : va_E) = _
    rw [nul, h1, h2]
  have c8 : fb_cC cA (fb_adP ad c q u) (cf_st0 d x r k0) 8 c = .inl (cA 4, 2, .inr (.inr (.inr (.inr (va_up (va_up (fun _ => none) (0 : Int32).toNatClampNeg (some (u 1))) (1 : Int32).toNatClampNeg (some (u 2))))))) := by
    simp only [fb_cC]
    rw [show (fun j => if j < 2 then some (fb_adP ad c q u 11 (3 * c + j)) else none) = va_up (va_up (fun _ => none) (0 : Int32).toNatClampNeg (some (u 1))) (1 : Int32).toNatClampNeg (some (u 2)) from funext (fun j => by
      simp only [va_up, fb_t0, fb_t1]
      by_cases e1 : j = 1
      · subst e1
        simp [a111]
      · by_cases e0 : j = 0
        · subst e0
          simp [a110]
        · rw [if_neg (by omega), if_neg e1, if_neg e0])]
  have c11 : ∀ i, fb_cC cA (fb_adP ad c q u) (cf_st0 d x r k0) 11 i = .inr (4, [.null, .null, .int 0]) := fun i => by
    show (Sum.inr (4, [va_rf (fb_ro (fb_adP ad c q u 7) (-1)), va_rf (fb_ro (fb_adP ad c q u 7) (-1)), .int 0]) : va_E) = _
    rw [nul]
  have c9 : fb_cC cA (fb_adP ad c q u) (cf_st0 d x r k0) 9 c = .inl (cA 0, 2, .inl (upd (upd (fun _ => 0) (0 : Int32).toNatClampNeg 0) (1 : Int32).toNatClampNeg 0)) := by
    rw [← z0]
    rfl
  have c10 : fb_cC cA (fb_adP ad c q u) (cf_st0 d x r k0) 10 c = .inl (cA 0, 2, .inl (upd (upd (fun _ => 0) (0 : Int32).toNatClampNeg 0) (1 : Int32).toNatClampNeg 0)) := by
    rw [← z0]
    rfl
  simp only [fb_wl, fb_p1, List.map_cons, List.map_nil, a5, a8, a9, a10, a110, a111, a112, c5, c8, c9, c10, c11]
/-- how many ports among the first p pairs -/
def fb_lk (p : Nat) : Bool := cf_linked (nI (p % 14)) (nI (p / 14))
def fb_cnt : Nat → Nat
  | 0 => 0
  | p + 1 => if fb_lk p = true then fb_cnt p + 1 else fb_cnt p
/-- the same, with all counts so far (quick to reckon) -/
def fb_chk : Nat → Nat → Bool
  | _, 0 => true
  | c, d + 1 => let p := 196 - (d + 1); if fb_lk p = true then (decide (c < 32) && decide (fb_tF c = nI (p % 14)) && decide (fb_tT c = nI (p / 14)) && fb_chk (c + 1) d) else fb_chk c d
theorem fb_chk_ok : fb_chk 0 196 = true := by decide +kernel
theorem fb_chk_at : ∀ d p, p + d = 196 → fb_chk (fb_cnt p) d = true → ∀ t, p ≤ t → t < 196 → fb_lk t = true → fb_cnt t < 32 ∧ fb_tF (fb_cnt t) = nI (t % 14) ∧ fb_tT (fb_cnt t) = nI (t / 14) := by
  intro d
  induction d with
  | zero => intro p hp _ t h1 h2; omega
  | succ d ih =>
    intro p hp hc t h1 h2 hl
    have e : 196 - (d + 1) = p := by omega
    simp only [fb_chk, e] at hc
    by_cases hlp : fb_lk p = true
    · rw [if_pos hlp, Bool.and_eq_true, Bool.and_eq_true, Bool.and_eq_true] at hc
      obtain ⟨⟨⟨q1, q2⟩, q3⟩, q4⟩ := hc
      by_cases et : t = p
      · subst et
        exact ⟨of_decide_eq_true q1, of_decide_eq_true q2, of_decide_eq_true q3⟩
      · refine ih (p + 1) (by omega) ?_ t (by omega) h2 hl
        rw [show fb_cnt (p + 1) = fb_cnt p + 1 from if_pos hlp]
        exact q4
    · rw [if_neg hlp] at hc
      by_cases et : t = p
      · subst et
        exact absurd hl hlp
      · refine ih (p + 1) (by omega) ?_ t (by omega) h2 hl
        rw [show fb_cnt (p + 1) = fb_cnt p from if_neg hlp]
        exact hc
theorem fb_lk_at {t : Nat} (ht : t < 196) (hl : fb_lk t = true) : fb_cnt t < 32 ∧ fb_tF (fb_cnt t) = nI (t % 14) ∧ fb_tT (fb_cnt t) = nI (t / 14) := fb_chk_at 196 0 rfl fb_chk_ok t (Nat.zero_le _) ht hl
def fb_cnd : Nat → Nat → Nat
  | c, 0 => c
  | c, d + 1 => fb_cnd (if fb_lk (196 - (d + 1)) = true then c + 1 else c) d
theorem fb_cnd_ok : fb_cnd 0 196 = 32 := by decide +kernel
theorem fb_cnd_at : ∀ d p, p + d = 196 → fb_cnd (fb_cnt p) d = fb_cnt 196 := by
  intro d
  induction d with
  | zero => intro p hp; rw [show p = 196 by omega]; rfl
  | succ d ih =>
    intro p hp
    simp only [fb_cnd, show 196 - (d + 1) = p by omega]
    exact ih (p + 1) (by omega)
theorem fb_cnt196 : fb_cnt 196 = 32 := (fb_cnd_at 196 0 rfl).symm.trans fb_cnd_ok
theorem fb_cnt_le : ∀ d p, p + d = 196 → fb_cnt p ≤ 32 := by
  intro d
  induction d with
  | zero => intro p hp; rw [show p = 196 by omega, fb_cnt196]; omega
  | succ d ih =>
    intro p hp
    have h := ih (p + 1) (by omega)
    have : fb_cnt p ≤ fb_cnt (p + 1) := by
      simp only [fb_cnt]
      split <;> omega
    omega
/-- a loop in which cells are made -/
theorem pw_loopC {p : Program} {l : Launch} {e : Env} {R : Room} {s : State} {m : MethodId} {args : Array Value} {below : List Frame} {meth : Method} {c : Code} {H : Heap} {locs : List Loc} {Q : State → Prop} {pc : Nat} {ls : Array Slot} {rest : List Value} {n : Nat} {Inv : Nat → Heap → List Loc → Array Slot → Prop} {fc fs : Nat → Nat} (hstep : ∀ i, i < n → ∀ (H : Heap) (locs : List Loc) (ls : Array Slot), Inv i H locs ls → (∀ (H : Heap) (locs : List Loc) (ls : Array Slot), Inv (i + 1) H locs ls → W p l e R s m args below meth c H locs (fc (i + 1)) (fs (i + 1)) Q (F0 m pc ls rest)) → W p l e R s m args below meth c H locs (fc i) (fs i) Q (F0 m pc ls rest))
    (hend : ∀ (H : Heap) (locs : List Loc) (ls : Array Slot), Inv n H locs ls → W p l e R s m args below meth c H locs (fc n) (fs n) Q (F0 m pc ls rest)) (h0 : Inv 0 H locs ls) : W p l e R s m args below meth c H locs (fc 0) (fs 0) Q (F0 m pc ls rest) := by
  have key : ∀ (d i : Nat), i + d = n → ∀ (H : Heap) (locs : List Loc) (ls : Array Slot), Inv i H locs ls → W p l e R s m args below meth c H locs (fc i) (fs i) Q (F0 m pc ls rest) := by
    intro d
    induction d with
    | zero =>
      intro i hi H locs ls h
      have hin : i = n := by omega
      subst hin
      exact hend H locs ls h
    | succ d ih =>
      intro i hi H locs ls h
      exact hstep i (by omega) H locs ls h (fun H locs ls h => ih (i + 1) (by omega) H locs ls h)
  exact key n 0 (by omega) H locs ls h0
end
section
/-! pure: the 32 ports -/
def fb_pU (i : Nat) : Nat := ([8, 8, 9, 9, 10, 10, 11, 11, 0, 1, 12, 13, 2, 3, 12, 13, 4, 5, 12, 13, 6, 7, 12, 13, 8, 9, 10, 11, 8, 9, 10, 11] : List Nat).getD i 0
def fb_pV (i : Nat) : Nat := ([0, 1, 2, 3, 4, 5, 6, 7, 8, 8, 8, 8, 9, 9, 9, 9, 10, 10, 10, 10, 11, 11, 11, 11, 12, 12, 12, 12, 13, 13, 13, 13] : List Nat).getD i 0
def fb_g (i : Nat) : Nat := 14 * fb_pU i + fb_pV i
theorem tb_F : ∀ i, i < 32 → fb_tF i = nI (fb_pU i) := by decide +kernel
theorem tb_T : ∀ i, i < 32 → fb_tT i = nI (fb_pV i) := by decide +kernel
theorem tb_lt : ∀ i, i < 32 → fb_pU i < 14 ∧ fb_pV i < 14 := by decide +kernel
theorem tb_inj : ∀ i, i < 32 → ∀ j, j < 32 → fb_pU i = fb_pU j → fb_pV i = fb_pV j → i = j := by decide +kernel
theorem tb_g : ∀ i, i < 32 → ∀ j, j < 32 → fb_g i = fb_g j → i = j := by decide +kernel
theorem tb_port : ∀ u, u < 14 → ∀ v, v < 14 → mf_port (nI u) (nI v) = (List.range 32).any (fun i => fb_pU i == u && fb_pV i == v) := by decide +kernel
theorem tb_prt : ∀ i, i < 32 → mf_port (nI (fb_pU i)) (nI (fb_pV i)) = true := by decide +kernel
theorem tb_FT {i j : Nat} (hi : i < 32) (hj : j < 32) (hF : fb_tF i = fb_tF j) (hT : fb_tT i = fb_tT j) : i = j := by
  rw [tb_F i hi, tb_F j hj] at hF
  rw [tb_T i hi, tb_T j hj] at hT
  have a := tb_lt i hi
  have b := tb_lt j hj
  exact tb_inj i hi j hj ((nI_eq (by omega) (by omega)).mp hF) ((nI_eq (by omega) (by omega)).mp hT)
/-- a port of the reference is one of the 32 -/
theorem tb_of {u v : Int32} (h : mf_port u v = true) : ∃ i, i < 32 ∧ u = fb_tF i ∧ v = fb_tT i := by
  obtain ⟨hu, hv⟩ := fb_prt h
  obtain ⟨a, ha, rfl⟩ := vp_in_of hu (by decide)
  obtain ⟨b, hb, rfl⟩ := vp_in_of hv (by decide)
  rw [tb_port a ha b hb, List.any_eq_true] at h
  obtain ⟨i, hi, h2⟩ := h
  have hi := List.mem_range.mp hi
  rw [Bool.and_eq_true, beq_iff_eq, beq_iff_eq] at h2
  exact ⟨i, hi, by rw [tb_F i hi, h2.1], by rw [tb_T i hi, h2.2]⟩
theorem tb_is {i : Nat} (hi : i < 32) : mf_port (fb_tF i) (fb_tT i) = true := by
  rw [tb_F i hi, tb_T i hi]
  exact tb_prt i hi
/-- portBetween finds the first that fits -/
theorem pb_some {s : fb_S} {u v : Int32} {j : Nat} (h1 : s 10 j = u) (h2 : s 11 j = v) : ∀ d i, i ≤ j → j < i + d → (∀ k, i ≤ k → k < j → ¬ (s 10 k = u ∧ s 11 k = v)) → cf_pb s u v d i = nI j := by
  intro d
  induction d with
  | zero => intro i a b _; omega
  | succ d ih =>
    intro i a b hn
    simp only [cf_pb]
    by_cases e : i = j
    · subst e
      rw [if_pos h1, if_pos h2]
    · have hr := ih (i + 1) (by omega) (by omega) (fun k k1 k2 => hn k (by omega) k2)
      by_cases c1 : s 10 i = u
      · by_cases c2 : s 11 i = v
        · exact absurd ⟨c1, c2⟩ (hn i (Nat.le_refl _) (by omega))
        · rw [if_pos c1, if_neg c2]
          exact hr
      · rw [if_neg c1]
        exact hr
theorem pb_none {s : fb_S} {u v : Int32} : ∀ d i, (∀ k, i ≤ k → k < i + d → ¬ (s 10 k = u ∧ s 11 k = v)) → cf_pb s u v d i = -1 := by
  intro d
  induction d with
  | zero => intro i _; rfl
  | succ d ih =>
    intro i hn
    simp only [cf_pb]
    have hr := ih (i + 1) (fun k k1 k2 => hn k (by omega) (by omega))
    by_cases c1 : s 10 i = u
    · by_cases c2 : s 11 i = v
      · exact absurd ⟨c1, c2⟩ (hn i (Nat.le_refl _) (by omega))
      · rw [if_pos c1, if_neg c2]
        exact hr
    · rw [if_neg c1]
      exact hr
theorem pb_at {fl fr : Nat} {s : fb_S} (h : fb_okC fl fr s) {i : Nat} (hi : i < 32) : cf_pb s (fb_tF i) (fb_tT i) 32 0 = nI i := by
  refine pb_some (h 10 i hi) (h 11 i hi) 32 0 (Nat.zero_le _) (by omega) (fun k _ k2 hk => ?_)
  have a : s 10 k = fb_tF k := h 10 k (by omega)
  have b : s 11 k = fb_tT k := h 11 k (by omega)
  have := tb_FT (i := k) (j := i) (by omega) hi (a.symm.trans hk.1) (b.symm.trans hk.2)
  omega
theorem pb_spec {fl fr : Nat} {s : fb_S} (h : fb_okC fl fr s) (u v : Int32) : (¬ mf_port u v = true ∧ cf_pb s u v 32 0 = -1) ∨ ∃ i, i < 32 ∧ u = fb_tF i ∧ v = fb_tT i ∧ mf_port u v = true ∧ cf_pb s u v 32 0 = nI i := by
  by_cases hp : mf_port u v = true
  · obtain ⟨i, hi, rfl, rfl⟩ := tb_of hp
    exact Or.inr ⟨i, hi, rfl, rfl, hp, pb_at h hi⟩
  · refine Or.inl ⟨hp, pb_none 32 0 (fun k _ k2 hk => hp ?_)⟩
    have a : s 10 k = fb_tF k := h 10 k (by omega)
    have b : s 11 k = fb_tT k := h 11 k (by omega)
    rw [← hk.1, ← hk.2, a, b]
    exact tb_is (by omega)
end
section
/-! pure: loops, sums, queues chained through the frames -/
theorem fb_it_inv {α : Type} {f : Nat → α → α} (I : Nat → α → Prop) {n : Nat} {s : α} (h0 : I 0 s) (hs : ∀ i x, i < n → I i x → I (i + 1) (f i x)) : I n (fb_it f n s) := by
  have h : ∀ k, k ≤ n → I k (fb_it f k s) := by
    intro k
    induction k with
    | zero => exact fun _ => h0
    | succ k ih => exact fun hk => hs k _ (by omega) (ih (by omega))
  exact h n (Nat.le_refl n)
theorem fb_it_congr {α : Type} {f g : Nat → α → α} {n : Nat} {s : α} (h : ∀ i x, i < n → f i x = g i x) : fb_it f n s = fb_it g n s := by
  induction n with
  | zero => rfl
  | succ n ih =>
    show f n (fb_it f n s) = g n (fb_it g n s)
    rw [ih (fun i x hi => h i x (by omega)), h n _ (by omega)]
/-- a field that no step touches -/
theorem fb_it_keep {f : Nat → fb_S → fb_S} {n : Nat} {s : fb_S} (F j : Nat) (h : ∀ i x, i < n → f i x F j = x F j) : fb_it f n s F j = s F j :=
  fb_it_inv (I := fun _ x => x F j = s F j) rfl (fun i x hi hx => (h i x hi).trans hx)
/-- a sum of Nats -/
def fb_sum (g : Nat → Nat) : Nat → Nat
  | 0 => 0
  | n + 1 => fb_sum g n + g n
theorem fb_sum_congr {g h : Nat → Nat} {n : Nat} (e : ∀ k, k < n → g k = h k) : fb_sum g n = fb_sum h n := by
  induction n with
  | zero => rfl
  | succ n ih => simp only [fb_sum]; rw [ih (fun k hk => e k (by omega)), e n (by omega)]
theorem fb_sum_one {g h : Nat → Nat} {n k0 : Nat} (hk : k0 < n) (e : ∀ k, k < n → k ≠ k0 → h k = g k) : fb_sum h n + g k0 = fb_sum g n + h k0 := by
  induction n with
  | zero => omega
  | succ n ih =>
    simp only [fb_sum]
    by_cases hn : k0 = n
    · subst hn
      rw [fb_sum_congr (g := h) (h := g) (fun k hk' => e k (by omega) (by omega))]
      omega
    · have h1 := ih (by omega) (fun k hk' hne => e k (by omega) hne)
      rw [e n (by omega) (Ne.symm hn)]
      omega
theorem fb_sum_le {g : Nat → Nat} {n b : Nat} (h : ∀ k, k < n → g k ≤ b) : fb_sum g n ≤ b * n := by
  induction n with
  | zero => simp [fb_sum]
  | succ n ih =>
    simp only [fb_sum]
    have h1 := ih (fun k hk => h k (by omega))
    have h2 := h n (by omega)
    rw [Nat.mul_succ]
    omega
/-- the queue j holds the frames L, in their order: 19 first, 20 end, 44 next -/
def fb_hd (L : List Nat) : Int32 := match L with
  | [] => -1
  | k :: _ => nI k
def fb_ch (s : fb_S) : List Nat → Prop
  | [] => True
  | k :: r => s 44 k = fb_hd r ∧ fb_ch s r
def fb_qu (s : fb_S) (j : Nat) (L : List Nat) : Prop := fb_ch s L ∧ s 19 j = fb_hd L ∧ s 20 j = fb_hd L.reverse
theorem fb_ch_congr {s t : fb_S} {L : List Nat} (h : ∀ k, k ∈ L → t 44 k = s 44 k) (hs : fb_ch s L) : fb_ch t L := by
  induction L with
  | nil => trivial
  | cons k r ih => exact ⟨(h k (by simp)).trans hs.1, ih (fun x hx => h x (by simp [hx])) hs.2⟩
theorem fb_qu_congr {s t : fb_S} {j : Nat} {L : List Nat} (h : ∀ k, k ∈ L → t 44 k = s 44 k) (h1 : t 19 j = s 19 j) (h2 : t 20 j = s 20 j) (hs : fb_qu s j L) : fb_qu t j L :=
  ⟨fb_ch_congr h hs.1, h1.trans hs.2.1, h2.trans hs.2.2⟩
theorem fb_hd_neg {L : List Nat} (hL : ∀ k, k ∈ L → k < 2 ^ 31) : fb_hd L < 0 ↔ L = [] := by
  cases L with
  | nil => exact ⟨fun _ => rfl, fun _ => fb_m1⟩
  | cons k r => exact ⟨fun h => absurd h (nI_pos (hL k (by simp))), fun h => (by cases h)⟩
/-- what add touches -/
theorem cf_add_keep {j k : Nat} {s : fb_S} {F i : Nat} (hF : F ≠ 44) (h19 : F = 19 → i ≠ j) (h20 : F = 20 → i ≠ j) (h21 : F = 21 → i ≠ j) : cf_add j k s F i = s F i := by
  have a : ∀ (x : fb_S) (v : Int32), fb_up x 21 j v F i = x F i := fun x v => by
    by_cases e : F = 21
    · exact fb_up_i x _ _ v (h21 e)
    · exact fb_up_F x _ _ v e
  have b : ∀ (x : fb_S) (v : Int32), fb_up x 20 j v F i = x F i := fun x v => by
    by_cases e : F = 20
    · exact fb_up_i x _ _ v (h20 e)
    · exact fb_up_F x _ _ v e
  have d : ∀ (x : fb_S) (v : Int32), fb_up x 19 j v F i = x F i := fun x v => by
    by_cases e : F = 19
    · exact fb_up_i x _ _ v (h19 e)
    · exact fb_up_F x _ _ v e
  simp only [cf_add]
  rw [a, b]
  split
  · rw [d, fb_up_F _ _ _ _ hF]
  · rw [fb_up_F _ _ _ _ hF, fb_up_F _ _ _ _ hF]
theorem cf_rem_keep {j : Nat} {s : fb_S} {F i : Nat} (hF : F ≠ 44) (h19 : F = 19 → i ≠ j) (h20 : F = 20 → i ≠ j) (h21 : F = 21 → i ≠ j) : cf_rem j s F i = s F i := by
  have a : ∀ (x : fb_S) (v : Int32), fb_up x 21 j v F i = x F i := fun x v => by
    by_cases e : F = 21
    · exact fb_up_i x _ _ v (h21 e)
    · exact fb_up_F x _ _ v e
  have b : ∀ (x : fb_S) (v : Int32), fb_up x 20 j v F i = x F i := fun x v => by
    by_cases e : F = 20
    · exact fb_up_i x _ _ v (h20 e)
    · exact fb_up_F x _ _ v e
  have d : ∀ (x : fb_S) (v : Int32), fb_up x 19 j v F i = x F i := fun x v => by
    by_cases e : F = 19
    · exact fb_up_i x _ _ v (h19 e)
    · exact fb_up_F x _ _ v e
  simp only [cf_rem]
  split
  · rfl
  · rw [a, fb_up_F _ _ _ _ hF]
    split
    · rw [b, d]
    · rw [d]
/-- next of the frames, behind add: k has none, the last one has k -/
theorem cf_add_44 {j k : Nat} {s : fb_S} {x : Nat} (hx : x ≠ k) (he : ¬ s 20 j < 0 → x ≠ fb_n (s 20 j)) : cf_add j k s 44 x = s 44 x := by
  simp only [cf_add]
  rw [fb_up_F _ _ _ _ (by decide), fb_up_F _ _ _ _ (by decide), fb_up_F s k j _ (show (20 : Nat) ≠ 44 by decide)]
  · split
    · rw [fb_up_F _ _ _ _ (by decide), fb_up_i _ _ _ _ hx]
    · rename_i h
      rw [fb_up_i _ _ _ _ (he h), fb_up_i _ _ _ _ hx]
theorem fb_ch_snoc {s t : fb_S} {k e : Nat} : ∀ L : List Nat, fb_ch s (L ++ [e]) → (∀ x, x ∈ L → t 44 x = s 44 x) → t 44 e = nI k → t 44 k = -1 → fb_ch t (L ++ [e] ++ [k])
  | [], _, _, h1, h2 => ⟨h1, h2, trivial⟩
  | a :: r, hs, hx, h1, h2 => by
    refine ⟨?_, fb_ch_snoc r hs.2 (fun x q => hx x (by simp [q])) h1 h2⟩
    rw [hx a (by simp)]
    have h0 : s 44 a = fb_hd (r ++ [e]) := hs.1
    rw [h0]
    cases r with
    | nil => rfl
    | cons b r => rfl
theorem fb_hd_rev (L : List Nat) (e : Nat) : fb_hd (L ++ [e]).reverse = nI e := by
  rw [List.reverse_append]
  rfl
theorem qu_add {s : fb_S} {j k : Nat} {L : List Nat} (hq : fb_qu s j L) (hk : k ∉ L) (hn : L.Nodup) (h31 : ∀ x, x ∈ L → x < 2 ^ 31) : fb_qu (cf_add j k s) j (L ++ [k]) := by
  obtain ⟨hc, h1, h2⟩ := hq
  rcases List.eq_nil_or_concat L with rfl | ⟨r, e, rfl⟩
  · have h20 : s 20 j < 0 := by rw [h2]; exact fb_m1
    simp only [cf_add]
    rw [if_pos (by rw [fb_up_F _ _ _ _ (by decide)]; exact h20)]
    refine ⟨⟨?_, trivial⟩, ?_, ?_⟩
    · rw [fb_up_F _ _ _ _ (by decide), fb_up_F _ _ _ _ (by decide), fb_up_F _ _ _ _ (by decide), fb_up_same]; rfl
    · rw [fb_up_F _ _ _ _ (by decide), fb_up_F _ _ _ _ (by decide), fb_up_same]; rfl
    · rw [fb_up_F _ _ _ _ (by decide), fb_up_same]; rfl
  · rw [List.concat_eq_append] at *
    have he : s 20 j = nI e := h2.trans (fb_hd_rev r e)
    have he31 : e < 2 ^ 31 := h31 e (by simp)
    have hne : ¬ s 20 j < 0 := by rw [he]; exact nI_pos he31
    have hce : fb_n (s 20 j) = e := by rw [he]; exact nI_clamp he31
    have hek : e ≠ k := fun q => hk (by simp [q])
    have hr : ∀ x, x ∈ r → x ≠ e := fun x hx q => by
      have := List.nodup_append.mp hn
      exact this.2.2 x hx e (by simp) q
    refine ⟨fb_ch_snoc r hc (fun x hx => cf_add_44 (fun q => hk (by simp [← q, hx])) (fun _ => by rw [hce]; exact hr x hx)) ?_ ?_, ?_, ?_⟩
    · simp only [cf_add]
      rw [fb_up_F _ _ _ _ (by decide), fb_up_F _ _ _ _ (by decide), if_neg (by rw [fb_up_F _ _ _ _ (by decide)]; exact hne), fb_up_F s _ _ _ (show (20 : Nat) ≠ 44 by decide), hce, fb_up_same]
    · simp only [cf_add]
      rw [fb_up_F _ _ _ _ (by decide), fb_up_F _ _ _ _ (by decide), if_neg (by rw [fb_up_F _ _ _ _ (by decide)]; exact hne), fb_up_F s _ _ _ (show (20 : Nat) ≠ 44 by decide), hce, fb_up_i _ _ _ _ (Ne.symm hek), fb_up_same]
    · simp only [cf_add]
      rw [fb_up_F _ _ _ _ (by decide), fb_up_F _ _ _ _ (by decide), if_neg (by rw [fb_up_F _ _ _ _ (by decide)]; exact hne), fb_up_F _ _ _ _ (by decide), fb_up_F _ _ _ _ (by decide), h1]
      cases r with
      | nil => rfl
      | cons b r => rfl
    · rw [fb_hd_rev]
      simp only [cf_add]
      rw [fb_up_F _ _ _ _ (by decide), fb_up_same]
theorem cf_rem_44 {j : Nat} {s : fb_S} {x : Nat} (hx : ¬ s 19 j < 0 → x ≠ fb_n (s 19 j)) : cf_rem j s 44 x = s 44 x := by
  simp only [cf_rem]
  split
  · rfl
  · rename_i h
    rw [fb_up_F _ _ _ _ (by decide), fb_up_i _ _ _ _ (hx h)]
    split
    · rw [fb_up_F _ _ _ _ (by decide), fb_up_F _ _ _ _ (by decide)]
    · rw [fb_up_F _ _ _ _ (by decide)]
theorem qu_rem {s : fb_S} {j k : Nat} {L : List Nat} (hq : fb_qu s j (k :: L)) (hn : (k :: L).Nodup) (h31 : ∀ x, x ∈ k :: L → x < 2 ^ 31) : fb_qu (cf_rem j s) j L := by
  obtain ⟨hc, h1, h2⟩ := hq
  have h19 : s 19 j = nI k := h1
  have hk31 : k < 2 ^ 31 := h31 k (by simp)
  have hne : ¬ s 19 j < 0 := by rw [h19]; exact nI_pos hk31
  have hck : fb_n (s 19 j) = k := by rw [h19]; exact nI_clamp hk31
  have hkL : k ∉ L := (List.nodup_cons.mp hn).1
  have hLn := fb_hd_neg (L := L) (fun x hx => h31 x (by simp [hx]))
  have e44 : s 44 k = fb_hd L := hc.1
  refine ⟨fb_ch_congr (fun x hx => cf_rem_44 (fun _ => by rw [hck]; exact fun q => hkL (q ▸ hx))) hc.2, ?_, ?_⟩
  · simp only [cf_rem]
    rw [if_neg hne, hck, e44]
    rw [fb_up_F _ _ _ _ (by decide), fb_up_F _ _ _ _ (by decide)]
    split
    · rw [fb_up_F _ _ _ _ (by decide), fb_up_same]
    · rw [fb_up_same]
  · simp only [cf_rem]
    rw [if_neg hne, hck, e44]
    rw [fb_up_F _ _ _ _ (by decide), fb_up_F _ _ _ _ (by decide), fb_up_same]
    by_cases c : L = []
    · rw [if_pos (hLn.mpr c), fb_up_same, c]
      rfl
    · rw [if_neg (fun q => c (hLn.mp q)), fb_up_F _ _ _ _ (by decide), h2]
      rw [List.reverse_cons]
      cases hr : L.reverse with
      | nil => exact absurd (List.reverse_eq_nil_iff.mp hr) c
      | cons b r => rfl
end
section
/-! pure: the class's store against the reference's -/
/-- where a frame is: the port of its route at its hop; its priority; its length -/
def fb_loc (s : fb_S) (k : Nat) : Int32 := s 33 (4 * fb_n (s 36 k) + fb_n (s 41 k))
def fb_prk (s : fb_S) (k : Nat) : Int32 := s 22 (fb_n (s 36 k))
def cp_G (s m : fb_S) : Prop := s 0 0 = m 0 0 ∧ s 1 0 = m 1 0 ∧ s 2 0 = m 2 0 ∧ s 3 0 = m 3 0 ∧ s 6 0 = m 4 0 ∧ s 7 0 = m 25 0 ∧ s 7 1 = m 25 1
def cp_P (s m : fb_S) : Prop := ∀ i, i < 32 → s 12 i = m 23 (fb_g i) ∧ s 17 (2 * i) = m 24 (2 * fb_g i) ∧ s 17 (2 * i + 1) = m 24 (2 * fb_g i + 1) ∧ s 14 i = m 26 (fb_g i)
def cp_F (fl : Nat) (s m : fb_S) : Prop := ∀ f, f < fl → s 22 f = m 9 f ∧ s 23 f = m 10 f ∧ s 24 f = m 11 f ∧ s 25 f = m 12 f ∧ s 26 f = m 13 f ∧ s 27 f = m 14 f
/-- the routes -/
def cp_R (fl : Nat) (s m : fb_S) : Prop := ∀ f, f < fl → s 34 f = mf_end m (nI f) ∧ ∀ h : Nat, h < 4 → nI h < s 34 f → ∃ i, i < 32 ∧ s 33 (4 * f + h) = nI i ∧ mf_node m (nI f) (nI h) = fb_tF i ∧ mf_node m (nI f) (nI (h + 1)) = fb_tT i ∧ (8 ≤ fb_tT i ↔ nI (h + 1) < s 34 f) ∧ (8 ≤ fb_tF i ↔ h ≠ 0)
/-- a frame on its way, h ports behind it -/
def cp_way (s m : fb_S) (k h : Nat) : Prop := h < 4 ∧ m 19 k = nI h ∧ s 41 k = nI h ∧ nI h < s 34 (fb_n (s 36 k)) ∧ (m 18 k < 3 → s 42 k = if h = 0 then -1 else s 33 (4 * fb_n (s 36 k) + (h - 1))) ∧ (m 18 k = 2 → s 43 k = m 21 k) ∧ (m 18 k = 3 → s 43 k = m 21 k + m 0 0)
def cp_K (fr : Nat) (s m : fb_S) : Prop := ∀ k, k < fr → s 36 k = m 16 k ∧ s 37 k = m 17 k ∧ s 38 k = m 18 k ∧ s 40 k = m 22 k ∧ s 35 k = nI k ∧ s 39 k = mf_node m (m 16 k) (m 19 k) ∧ (m 18 k = 1 ∨ m 18 k = 2 ∨ m 18 k = 3 ∨ m 18 k = 4 ∨ m 18 k = 5) ∧ (m 18 k < 4 → ∃ h, cp_way s m k h)
section CPL
variable {fl fr : Nat} {s m : fb_S}
/-- a frame's flow as a number -/
theorem cp_flow (ok : fb_okC fl fr s) (hfl : fl ≤ 12) {k : Nat} (hk : k < fr) : ∃ f, f < fl ∧ s 36 k = nI f ∧ fb_n (s 36 k) = f := by
  have h := ok 36 k hk
  obtain ⟨f, hf, e⟩ := vp_in_of h (by omega)
  exact ⟨f, hf, e, by rw [e]; exact nI_clamp (by omega)⟩
/-- the port at which a frame on its way is -/
theorem cp_at (ok : fb_okC fl fr s) (hfl : fl ≤ 12) (hR : cp_R fl s m) (hK : cp_K fr s m) {k h : Nat} (hk : k < fr) (hw : cp_way s m k h) : ∃ i, i < 32 ∧ fb_loc s k = nI i ∧ mf_node m (m 16 k) (m 19 k) = fb_tF i ∧ mf_node m (m 16 k) (m 19 k + 1) = fb_tT i := by
  obtain ⟨f, hf, e, en⟩ := cp_flow ok hfl hk
  obtain ⟨h4, h19, h41, hlt, -⟩ := hw
  rw [en] at hlt
  obtain ⟨i, hi, e1, e2, e3, -⟩ := (hR f hf).2 h h4 hlt
  have e16 : m 16 k = nI f := (hK k hk).1 ▸ e
  refine ⟨i, hi, ?_, ?_, ?_⟩
  · unfold fb_loc
    rw [en, h41, show fb_n (nI h) = h from nI_clamp (by omega)]
    exact e1
  · rw [e16, h19]; exact e2
  · rw [e16, h19, nI_1]; exact e3
theorem cp_btw (ok : fb_okC fl fr s) (hfl : fl ≤ 12) (hR : cp_R fl s m) (hK : cp_K fr s m) {k i : Nat} (hk : k < fr) (hi : i < 32) (hs : m 18 k < 4) : mf_btw m k (fb_tF i) (fb_tT i) = true ↔ fb_loc s k = nI i := by
  obtain ⟨h, hw⟩ := (hK k hk).2.2.2.2.2.2.2 hs
  obtain ⟨j, hj, e0, e1, e2⟩ := cp_at ok hfl hR hK hk hw
  have hn : ¬ (4 : Int32) ≤ m 18 k := Int32.not_le.mpr hs
  simp only [mf_btw, if_neg hn, e1, e2, e0]
  constructor
  · intro q
    by_cases c1 : fb_tF j = fb_tF i
    · by_cases c2 : fb_tT j = fb_tT i
      · rw [tb_FT hj hi c1 c2]
      · rw [if_pos c1, if_neg c2] at q; cases q
    · rw [if_neg c1] at q; cases q
  · intro q
    have : j = i := (nI_eq (by omega) (by omega)).mp q
    subst this
    rw [if_pos rfl, if_pos rfl]
theorem cp_btw4 {k : Nat} {u v : Int32} (hs : ¬ m 18 k < 4) : mf_btw m k u v = false := by
  simp only [mf_btw, if_pos (Int32.not_lt.mp hs)]
theorem cp_here (ok : fb_okC fl fr s) (hfl : fl ≤ 12) (hF : cp_F fl s m) (hR : cp_R fl s m) (hK : cp_K fr s m) {k i : Nat} {q : Int32} (hk : k < fr) (hi : i < 32) : mf_here m (fb_tF i) (fb_tT i) q k = true ↔ s 38 k = 1 ∧ fb_prk s k = q ∧ fb_loc s k = nI i := by
  obtain ⟨f, hf, e, en⟩ := cp_flow ok hfl hk
  have k1 := hK k hk
  have e9 : m 9 (fb_n (m 16 k)) = fb_prk s k := by
    unfold fb_prk
    rw [← k1.1, en]
    exact (hF f hf).1.symm
  simp only [mf_here, ← k1.2.2.1, e9]
  by_cases c1 : s 38 k = 1
  · rw [if_pos c1]
    have hs : m 18 k < 4 := by rw [← k1.2.2.1, c1]; decide
    by_cases c2 : fb_prk s k = q
    · rw [if_pos c2]
      by_cases c3 : mf_btw m k (fb_tF i) (fb_tT i) = true
      · rw [if_pos c3]
        exact ⟨fun _ => ⟨c1, c2, (cp_btw ok hfl hR hK hk hi hs).mp c3⟩, fun _ => rfl⟩
      · rw [if_neg c3]
        exact ⟨fun h => (by cases h), fun h => absurd ((cp_btw ok hfl hR hK hk hi hs).mpr h.2.2) c3⟩
    · rw [if_neg c2]
      exact ⟨fun h => (by cases h), fun h => absurd h.2.1 c2⟩
  · rw [if_neg c1]
    exact ⟨fun h => (by cases h), fun h => absurd h.1 c1⟩
/-- lengths as Nats -/
def fb_ln (s : fb_S) (k : Nat) : Nat := fb_n (s 37 k)
theorem fb_lnI (ok : fb_okC fl fr s) {k : Nat} (hk : k < fr) : s 37 k = nI (fb_ln s k) ∧ 1 ≤ fb_ln s k ∧ fb_ln s k ≤ 4 := by
  have h := ok 37 k hk
  obtain ⟨j, hj, e⟩ := nI_of2 (x := s 37 k) (M := 4) (n := 4) (by decide) (fb_pos1 h.1) h.2
  have e2 : fb_ln s k = j := by unfold fb_ln; rw [e]; exact nI_clamp (by omega)
  refine ⟨by rw [e2]; exact e, ?_, by omega⟩
  rcases Nat.eq_zero_or_pos j with rfl | q
  · rw [e] at h
    exact absurd h.1 (by decide)
  · omega
/-- what lies in a queue, what is held, among the first n frames -/
def cp_q (s : fb_S) (i : Nat) (q : Int32) (n : Nat) : Nat := fb_sum (fun k => if s 38 k = 1 ∧ fb_prk s k = q ∧ fb_loc s k = nI i then fb_ln s k else 0) n
def cp_h (s m : fb_S) (i : Nat) (q : Int32) (n : Nat) : Nat := fb_sum (fun k => if (m 18 k = 1 ∨ m 18 k = 2) ∧ fb_prk s k = q ∧ s 42 k = nI i then fb_ln s k else 0) n
theorem cp_qlen (ok : fb_okC fl fr s) (hfl : fl ≤ 12) (hF : cp_F fl s m) (hR : cp_R fl s m) (hK : cp_K fr s m) {i : Nat} (q : Int32) (hi : i < 32) : ∀ n, n ≤ fr → mf_qlen m (fb_tF i) (fb_tT i) q n = nI (cp_q s i q n) := by
  intro n
  induction n with
  | zero => intro _; rfl
  | succ n ih =>
    intro hn
    have ih := ih (by omega)
    have hh := cp_here ok hfl hF hR hK (k := n) (i := i) (q := q) (by omega) hi
    simp only [mf_qlen, cp_q, fb_sum]
    by_cases c : mf_here m (fb_tF i) (fb_tT i) q n = true
    · rw [if_pos c, if_pos (hh.mp c), ih, ← (hK n (by omega)).2.1, (fb_lnI ok (k := n) (by omega)).1, nI_add]
      rfl
    · rw [if_neg c, if_neg (fun h => c (hh.mpr h)), ih]
      rfl
/-- a frame behind its first port: it came by port i -/
theorem cp_came (ok : fb_okC fl fr s) (hfl : fl ≤ 12) (hR : cp_R fl s m) (hK : cp_K fr s m) {k i : Nat} (hk : k < fr) (hi : i < 32) (hs : m 18 k = 1 ∨ m 18 k = 2) : (¬ m 19 k ≤ 0 ∧ mf_node m (m 16 k) (m 19 k) = fb_tT i ∧ mf_node m (m 16 k) (m 19 k - 1) = fb_tF i) ↔ s 42 k = nI i := by
  have h4 : m 18 k < 4 := by rcases hs with e | e <;> rw [e] <;> decide
  have h3 : m 18 k < 3 := by rcases hs with e | e <;> rw [e] <;> decide
  obtain ⟨h, hh4, h19, h41, hlt, h42, -⟩ := (hK k hk).2.2.2.2.2.2.2 h4
  obtain ⟨f, hf, e, en⟩ := cp_flow ok hfl hk
  have e16 : m 16 k = nI f := (hK k hk).1 ▸ e
  have h42 := h42 h3
  rw [en] at hlt h42
  rw [e16, h19]
  rcases Nat.eq_zero_or_pos h with rfl | hp
  · rw [if_pos rfl] at h42
    constructor
    · intro q
      exact absurd (by decide) q.1
    · intro q
      rw [h42] at q
      exact absurd (q ▸ fb_m1) (nI_pos (by omega))
  · obtain ⟨g, rfl⟩ : ∃ g, h = g + 1 := ⟨h - 1, by omega⟩
    rw [if_neg (by omega), Nat.add_sub_cancel] at h42
    obtain ⟨hl0, hr⟩ := hR f hf
    have hltg : nI g < s 34 f := by
      have a := Int32.lt_iff_toInt_lt.mp hlt
      refine Int32.lt_iff_toInt_lt.mpr ?_
      rw [nI_toInt (by omega)] at a ⊢
      omega
    obtain ⟨j, hj, e1, e2, e3, -⟩ := hr g (by omega) hltg
    rw [nI_pred, e2, e3, h42, e1]
    constructor
    · rintro ⟨-, a, b⟩
      rw [tb_FT hj hi b a]
    · intro q
      have : j = i := (nI_eq (by omega) (by omega)).mp q
      subst this
      refine ⟨fun q2 => ?_, rfl, rfl⟩
      exact absurd q2 (nI_nle (by omega) (by omega))
/-- the reference's holds, also where some frames have gone from SENDING to SENT -/
theorem cp_holds (ok : fb_okC fl fr s) (hfl : fl ≤ 12) (hF : cp_F fl s m) (hR : cp_R fl s m) (hK : cp_K fr s m) {m' : fb_S} (ha : ∀ F j, F ≠ 18 → F ≠ 26 → m' F j = m F j) (hst : ∀ k, k < fr → (m' 18 k = 1 ∨ m' 18 k = 2) → (m 18 k = 1 ∨ m 18 k = 2)) {i : Nat} (q : Int32) (hi : i < 32) : ∀ n, n ≤ fr → mf_holds m' (fb_tF i) (fb_tT i) q n = nI (cp_h s m' i q n) := by
  have hend : ∀ f, mf_end m' f = mf_end m f := fun f => by simp only [mf_end, ha 7 _ (by decide) (by decide), ha 8 _ (by decide) (by decide)]
  have hnode : ∀ f x, mf_node m' f x = mf_node m f x := fun f x => by simp only [mf_node, hend, ha 7 _ (by decide) (by decide), ha 8 _ (by decide) (by decide)]
  intro n
  induction n with
  | zero => intro _; rfl
  | succ n ih =>
    intro hn
    have ih := ih (by omega)
    have hk : n < fr := by omega
    obtain ⟨f, hf, e, en⟩ := cp_flow ok hfl hk
    have e9 : m 9 (fb_n (m 16 n)) = fb_prk s n := by
      unfold fb_prk
      rw [← (hK n hk).1, en]
      exact (hF f hf).1.symm
    simp only [mf_holds, cp_h, fb_sum, mf_isin, hnode, ha 19 _ (by decide) (by decide), ha 9 _ (by decide) (by decide), ha 16 _ (by decide) (by decide), ha 17 _ (by decide) (by decide), e9]
    have key : ∀ (a : m' 18 n = 1 ∨ m' 18 n = 2), (if (if m 19 n ≤ 0 then false else if fb_prk s n = q then true else false) = true then (if mf_node m (m 16 n) (m 19 n) = fb_tT i then (if mf_node m (m 16 n) (m 19 n - 1) = fb_tF i then mf_holds m' (fb_tF i) (fb_tT i) q n + m 17 n else mf_holds m' (fb_tF i) (fb_tT i) q n) else mf_holds m' (fb_tF i) (fb_tT i) q n) else mf_holds m' (fb_tF i) (fb_tT i) q n) = nI (cp_h s m' i q n + if (m' 18 n = 1 ∨ m' 18 n = 2) ∧ fb_prk s n = q ∧ s 42 n = nI i then fb_ln s n else 0) := by
      intro a
      have hc := cp_came ok hfl hR hK hk hi (hst n hk a)
      by_cases c : (m' 18 n = 1 ∨ m' 18 n = 2) ∧ fb_prk s n = q ∧ s 42 n = nI i
      · obtain ⟨c1, c2, c3⟩ := c
        obtain ⟨d1, d2, d3⟩ := hc.mpr c3
        rw [if_neg d1, if_pos c2, if_pos rfl, if_pos d2, if_pos d3, if_pos ⟨c1, c2, c3⟩, ih, ← (hK n hk).2.1, (fb_lnI ok hk).1, nI_add]
      · rw [if_neg c, ih, Nat.add_zero]
        by_cases d1 : m 19 n ≤ 0
        · rw [if_pos d1, if_neg (by decide)]
        · rw [if_neg d1]
          by_cases c2 : fb_prk s n = q
          · rw [if_pos c2, if_pos rfl]
            by_cases d2 : mf_node m (m 16 n) (m 19 n) = fb_tT i
            · rw [if_pos d2]
              by_cases d3 : mf_node m (m 16 n) (m 19 n - 1) = fb_tF i
              · exact absurd ⟨a, c2, hc.mp ⟨d1, d2, d3⟩⟩ c
              · rw [if_neg d3]
            · rw [if_neg d2]
          · rw [if_neg c2, if_neg (by decide)]
    by_cases a1 : m' 18 n = 1
    · rw [if_pos a1]
      exact key (Or.inl a1)
    · rw [if_neg a1]
      by_cases a2 : m' 18 n = 2
      · rw [if_pos a2]
        exact key (Or.inr a2)
      · rw [if_neg a2, if_neg (by decide), if_neg (fun h => h.1.elim a1 a2), ih, Nat.add_zero]
        rfl
/-- first: none, or the one that came first -/
theorem cp_first (ok : fb_okC fl fr s) (hfl : fl ≤ 12) (hF : cp_F fl s m) (hR : cp_R fl s m) (hK : cp_K fr s m) {i : Nat} (q : Int32) (hi : i < 32) (hfr : fr ≤ 100) : ∀ n, n ≤ fr → (mf_first m (fb_tF i) (fb_tT i) q n = -1 ∧ ∀ k, k < n → ¬ (s 38 k = 1 ∧ fb_prk s k = q ∧ fb_loc s k = nI i)) ∨ ∃ k, k < n ∧ mf_first m (fb_tF i) (fb_tT i) q n = nI k ∧ (s 38 k = 1 ∧ fb_prk s k = q ∧ fb_loc s k = nI i) ∧ ∀ k', k' < n → (s 38 k' = 1 ∧ fb_prk s k' = q ∧ fb_loc s k' = nI i) → m 20 k ≤ m 20 k' := by
  intro n
  induction n with
  | zero => intro _; exact Or.inl ⟨rfl, fun k hk => by omega⟩
  | succ n ih =>
    intro hn
    have hh := cp_here ok hfl hF hR hK (k := n) (i := i) (q := q) (by omega) hi
    simp only [mf_first]
    rcases ih (by omega) with ⟨e, hno⟩ | ⟨k, hk, e, hp, hmin⟩
    · by_cases c : mf_here m (fb_tF i) (fb_tT i) q n = true
      · rw [if_pos c, e, if_pos fb_m1]
        refine Or.inr ⟨n, by omega, rfl, hh.mp c, fun k' hk' h' => ?_⟩
        by_cases en : k' = n
        · subst en; exact Int32.le_refl _
        · exact absurd h' (hno k' (by omega))
      · rw [if_neg c]
        refine Or.inl ⟨e, fun k hk h => ?_⟩
        by_cases en : k = n
        · subst en; exact c (hh.mpr h)
        · exact hno k (by omega) h
    · have hnk : ¬ nI k < 0 := nI_pos (by omega)
      have hck : fb_n (nI k) = k := nI_clamp (by omega)
      by_cases c : mf_here m (fb_tF i) (fb_tT i) q n = true
      · rw [if_pos c, e, if_neg hnk, hck]
        by_cases le : m 20 k ≤ m 20 n
        · rw [if_pos le]
          refine Or.inr ⟨k, by omega, rfl, hp, fun k' hk' h' => ?_⟩
          by_cases en : k' = n
          · subst en; exact le
          · exact hmin k' (by omega) h'
        · rw [if_neg le]
          refine Or.inr ⟨n, by omega, rfl, hh.mp c, fun k' hk' h' => ?_⟩
          have lt := Int32.not_le.mp le
          by_cases en : k' = n
          · subst en; exact Int32.le_refl _
          · have h1 := hmin k' (by omega) h'
            have a := Int32.lt_iff_toInt_lt.mp lt
            have b := Int32.le_iff_toInt_le.mp h1
            exact Int32.le_iff_toInt_le.mpr (by omega)
      · rw [if_neg c]
        refine Or.inr ⟨k, by omega, e, hp, fun k' hk' h' => ?_⟩
        by_cases en : k' = n
        · subst en; exact absurd (hh.mpr h') c
        · exact hmin k' (by omega) h'
/-- sends -/
theorem cp_sends (ok : fb_okC fl fr s) (hfl : fl ≤ 12) (hR : cp_R fl s m) (hK : cp_K fr s m) {i : Nat} (hi : i < 32) : ∀ n, n ≤ fr → (mf_sends m (fb_tF i) (fb_tT i) n = true ↔ ∃ k, k < n ∧ s 38 k = 2 ∧ fb_loc s k = nI i) := by
  intro n
  induction n with
  | zero => intro _; exact ⟨fun h => (by cases h), fun ⟨k, hk, _⟩ => by omega⟩
  | succ n ih =>
    intro hn
    have ih := ih (by omega)
    have e18 := (hK n (by omega)).2.2.1
    simp only [mf_sends]
    by_cases c : mf_sends m (fb_tF i) (fb_tT i) n = true
    · rw [if_pos c]
      obtain ⟨k, hk, h⟩ := ih.mp c
      exact ⟨fun _ => ⟨k, by omega, h⟩, fun _ => rfl⟩
    · rw [if_neg c, ← e18]
      have no : ∀ k, k < n → ¬ (s 38 k = 2 ∧ fb_loc s k = nI i) := fun k hk h => c (ih.mpr ⟨k, hk, h⟩)
      by_cases c2 : s 38 n = 2
      · have hs : m 18 n < 4 := by rw [← e18, c2]; decide
        have hb := cp_btw ok hfl hR hK (k := n) (by omega) hi hs
        rw [if_pos c2]
        by_cases c3 : mf_btw m n (fb_tF i) (fb_tT i) = true
        · rw [if_pos c3]
          exact ⟨fun _ => ⟨n, by omega, c2, hb.mp c3⟩, fun _ => rfl⟩
        · rw [if_neg c3]
          refine ⟨fun h => (by cases h), fun ⟨k, hk, h1, h2⟩ => ?_⟩
          by_cases en : k = n
          · subst en; exact absurd (hb.mpr h2) c3
          · exact absurd ⟨h1, h2⟩ (no k (by omega))
      · rw [if_neg c2]
        refine ⟨fun h => (by cases h), fun ⟨k, hk, h1, h2⟩ => ?_⟩
        by_cases en : k = n
        · subst en; exact absurd h1 c2
        · exact absurd ⟨h1, h2⟩ (no k (by omega))
end CPL
end
section
/-! pure: the class's own invariant. A frame has a code: where it is (c: below 96 the queue or wire it lies in, 96 + i sent by port i, else 200), a code by whom it is held (d: 2 i + q or 200) and a length (l) -/
def fb_cu (c : Nat → Nat) (k b : Nat) : Nat → Nat := fun x => if x = k then b else c x
def fb_Qu (Q : Nat → List Nat) (j : Nat) (L : List Nat) : Nat → List Nat := fun x => if x = j then L else Q x
def ci_q (fr : Nat) (s : fb_S) (c : Nat → Nat) (Q : Nat → List Nat) : Prop := ∀ j, j < 96 → fb_qu s j (Q j) ∧ (Q j).Nodup ∧ ∀ k, k ∈ Q j ↔ (k < fr ∧ c k = j)
def ci_sum (c l : Nat → Nat) (j n : Nat) : Nat := fb_sum (fun k => if c k = j then l k else 0) n
def ci_l (fr : Nat) (s : fb_S) (c l : Nat → Nat) : Prop := ∀ j, j < 96 → s 21 j = nI (ci_sum c l j fr)
def ci_s (fr : Nat) (s : fb_S) (c : Nat → Nat) : Prop := ∀ i, i < 32 → ∀ k, k < fr → (s 13 i = nI k ↔ c k = 96 + i)
def ci_h (fr : Nat) (s : fb_S) (d l : Nat → Nat) : Prop := ∀ j, j < 64 → s 18 j = nI (ci_sum d l j fr)
theorem ci_q_congr {fr : Nat} {s t : fb_S} {c c' : Nat → Nat} {Q : Nat → List Nat} (h : ci_q fr s c Q) (e19 : ∀ j, t 19 j = s 19 j) (e20 : ∀ j, t 20 j = s 20 j) (e44 : ∀ x, t 44 x = s 44 x) (ec : ∀ k, k < fr → c' k = c k) : ci_q fr t c' Q := fun j hj => by
  obtain ⟨a, b, d⟩ := h j hj
  refine ⟨fb_qu_congr (fun k _ => e44 k) (e19 j) (e20 j) a, b, fun k => ?_⟩
  rw [d k]
  exact ⟨fun q => ⟨q.1, (ec k q.1).trans q.2⟩, fun q => ⟨q.1, (ec k q.1).symm.trans q.2⟩⟩
theorem ci_31 {fr : Nat} {s : fb_S} {c : Nat → Nat} {Q : Nat → List Nat} (h : ci_q fr s c Q) (hfr : fr ≤ 100) {j : Nat} (hj : j < 96) : ∀ x, x ∈ Q j → x < 2 ^ 31 := fun x hx => by
  have := (((h j hj).2.2 x).mp hx).1
  omega
theorem ci_q_add {fr : Nat} {s t : fb_S} {c : Nat → Nat} {Q : Nat → List Nat} {k b : Nat} (h : ci_q fr s c Q) (hfr : fr ≤ 100) (hb : b < 96) (hk : k < fr) (hc : 96 ≤ c k) (e19 : ∀ j, t 19 j = cf_add b k s 19 j) (e20 : ∀ j, t 20 j = cf_add b k s 20 j) (e44 : ∀ x, t 44 x = cf_add b k s 44 x) : ci_q fr t (fb_cu c k b) (fb_Qu Q b (Q b ++ [k])) := by
  have hno : ∀ j, j < 96 → k ∉ Q j := fun j hj hm => by
    have := (((h j hj).2.2 k).mp hm).2
    omega
  intro j hj
  obtain ⟨hq, hn, hm⟩ := h j hj
  by_cases e : j = b
  · subst e
    have q1 : fb_qu (cf_add j k s) j (Q j ++ [k]) := qu_add hq (hno j hj) hn (ci_31 h hfr hj)
    have eQ : fb_Qu Q j (Q j ++ [k]) j = Q j ++ [k] := if_pos rfl
    rw [eQ]
    refine ⟨fb_qu_congr (fun x _ => e44 x) (e19 j) (e20 j) q1, ?_, fun x => ?_⟩
    · refine List.nodup_append.mpr ⟨hn, by simp, fun x hx y hy => ?_⟩
      have : y = k := by simpa using hy
      subst this
      exact fun q => hno j hj (q ▸ hx)
    · rw [List.mem_append, hm x]
      unfold fb_cu
      by_cases ex : x = k
      · subst ex
        rw [if_pos rfl]
        exact ⟨fun _ => ⟨hk, rfl⟩, fun _ => Or.inr (by simp)⟩
      · rw [if_neg ex]
        exact ⟨fun q => q.elim id (fun q => absurd (by simpa using q) ex), Or.inl⟩
  · have eQ : fb_Qu Q b (Q b ++ [k]) j = Q j := if_neg e
    rw [eQ]
    obtain ⟨hq2, hn2, hm2⟩ := h b hb
    refine ⟨fb_qu_congr (s := cf_add b k s) (fun x _ => e44 x) (e19 j) (e20 j) (fb_qu_congr (fun x hx => cf_add_44 (fun q => hno j hj (q ▸ hx)) (fun hpos q => ?_)) (cf_add_keep (by decide) (fun _ => e) (fun h9 => absurd h9 (by decide)) (fun h9 => absurd h9 (by decide))) (cf_add_keep (by decide) (fun h9 => absurd h9 (by decide)) (fun _ => e) (fun h9 => absurd h9 (by decide))) hq), hn, fun x => ?_⟩
    · rcases List.eq_nil_or_concat (Q b) with en | ⟨r, z, ez⟩
      · rw [hq2.2.2, en] at hpos
        exact hpos fb_m1
      · rw [List.concat_eq_append] at ez
        have hz : z ∈ Q b := by rw [ez]; simp
        have e20z : s 20 b = nI z := by rw [hq2.2.2, ez]; exact fb_hd_rev r z
        rw [e20z, show fb_n (nI z) = z from nI_clamp (ci_31 h hfr hb z hz)] at q
        have a1 := ((hm2 z).mp hz).2
        have a2 := ((hm x).mp hx).2
        rw [q] at a2
        omega
    · rw [hm x]
      unfold fb_cu
      by_cases ex : x = k
      · subst ex
        rw [if_pos rfl]
        exact ⟨fun q => by omega, fun q => absurd q.2.symm e⟩
      · rw [if_neg ex]
theorem ci_q_rem {fr : Nat} {s t : fb_S} {c : Nat → Nat} {Q : Nat → List Nat} {k a x0 : Nat} {L : List Nat} (h : ci_q fr s c Q) (hfr : fr ≤ 100) (ha : a < 96) (hQ : Q a = k :: L) (hx0 : 96 ≤ x0) (e19 : ∀ j, t 19 j = cf_rem a s 19 j) (e20 : ∀ j, t 20 j = cf_rem a s 20 j) (e44 : ∀ x, t 44 x = cf_rem a s 44 x) : ci_q fr t (fb_cu c k x0) (fb_Qu Q a L) := by
  obtain ⟨hqa, hna, hma⟩ := h a ha
  rw [hQ] at hqa hna
  have hka : c k = a := ((hma k).mp (by rw [hQ]; simp)).2
  have hkL : k ∉ L := (List.nodup_cons.mp hna).1
  have h31 : ∀ x, x ∈ k :: L → x < 2 ^ 31 := fun x hx => ci_31 h hfr ha x (by rw [hQ]; exact hx)
  intro j hj
  obtain ⟨hq, hn, hm⟩ := h j hj
  by_cases e : j = a
  · subst e
    have eQ : fb_Qu Q j L j = L := if_pos rfl
    rw [eQ]
    refine ⟨fb_qu_congr (fun x _ => e44 x) (e19 j) (e20 j) (qu_rem hqa hna h31), (List.nodup_cons.mp hna).2, fun x => ?_⟩
    unfold fb_cu
    by_cases ex : x = k
    · subst ex
      rw [if_pos rfl]
      exact ⟨fun q => absurd q hkL, fun q => by omega⟩
    · rw [if_neg ex, ← hm x, hQ]
      exact ⟨fun q => List.mem_cons_of_mem _ q, fun q => (List.mem_cons.mp q).resolve_left ex⟩
  · have eQ : fb_Qu Q a L j = Q j := if_neg e
    rw [eQ]
    refine ⟨fb_qu_congr (s := cf_rem a s) (fun x _ => e44 x) (e19 j) (e20 j) (fb_qu_congr (fun x hx => cf_rem_44 (fun _ q => ?_)) (cf_rem_keep (by decide) (fun _ => e) (fun h9 => absurd h9 (by decide)) (fun h9 => absurd h9 (by decide))) (cf_rem_keep (by decide) (fun h9 => absurd h9 (by decide)) (fun _ => e) (fun h9 => absurd h9 (by decide))) hq), hn, fun x => ?_⟩
    · have e19k : s 19 a = nI k := hqa.2.1
      rw [e19k, show fb_n (nI k) = k from nI_clamp (h31 k (by simp))] at q
      have := ((hm x).mp hx).2
      rw [q] at this
      omega
    · rw [hm x]
      unfold fb_cu
      by_cases ex : x = k
      · subst ex
        rw [if_pos rfl]
        exact ⟨fun q => by omega, fun q => by omega⟩
      · rw [if_neg ex]
/-- sums where one code changes -/
theorem ci_sum_mv {c l : Nat → Nat} {k b j n : Nat} (hk : k < n) : ci_sum (fb_cu c k b) l j n + (if c k = j then l k else 0) = ci_sum c l j n + (if b = j then l k else 0) := by
  have h := fb_sum_one (g := fun x => if c x = j then l x else 0) (h := fun x => if fb_cu c k b x = j then l x else 0) (n := n) (k0 := k) hk (fun x _ hne => by simp only [fb_cu, if_neg hne])
  have e : (if fb_cu c k b k = j then l k else 0) = if b = j then l k else 0 := by simp only [fb_cu, if_pos]
  simp only [e] at h
  exact h
theorem ci_sum_le {c l : Nat → Nat} {j n : Nat} (h : ∀ k, k < n → l k ≤ 4) : ci_sum c l j n ≤ 4 * n := by
  refine fb_sum_le (fun k hk => ?_)
  split
  · exact h k hk
  · omega
theorem ci_sum_congr {c c' l l' : Nat → Nat} {j n : Nat} (h : ∀ k, k < n → c k = c' k ∧ l k = l' k) : ci_sum c l j n = ci_sum c' l' j n := fb_sum_congr (fun k hk => by simp only [(h k hk).1, (h k hk).2])
end
section
/-! the coupling of the two sides between two calls, and what the law needs of it -/
/-- the codes of a frame, out of the class's store -/
def fb_lc (s : fb_S) (k : Nat) : Nat := if s 38 k = 1 then 3 * fb_n (fb_loc s k) + fb_n (fb_prk s k) else if s 38 k = 2 then 96 + fb_n (fb_loc s k) else if s 38 k = 3 then 3 * fb_n (fb_loc s k) + 2 else 200
def fb_hb (s : fb_S) (k : Nat) : Nat := if s 42 k < 0 then 200 else if s 38 k = 1 then 2 * fb_n (s 42 k) + fb_n (fb_prk s k) else if s 38 k = 2 then 2 * fb_n (s 42 k) + fb_n (fb_prk s k) else 200
/-- the class's own: queues Q, sums, what is sent -/
def cp_C (fr : Nat) (s : fb_S) (Q : Nat → List Nat) : Prop := ci_q fr s (fb_lc s) Q ∧ ci_l fr s (fb_lc s) (fb_ln s) ∧ ci_s fr s (fb_lc s) ∧ ci_h fr s (fb_hb s) (fb_ln s)
/-- orders: frames in a queue by when they came, on a wire by when they arrive -/
def cp_O (fr : Nat) (s m : fb_S) (Q : Nat → List Nat) : Prop := (∀ k, k < fr → ¬ m 20 k < 0 ∧ m 20 k < m 5 0) ∧ (∀ i q, i < 32 → q < 2 → (Q (3 * i + q)).Pairwise (fun a b => m 20 a < m 20 b)) ∧ ∀ i, i < 32 → (Q (3 * i + 2)).Pairwise (fun a b => s 43 a < s 43 b)
/-- times: sending ends later, what is sent arrives later -/
def cp_T (fr T : Nat) (s m : fb_S) : Prop := (∀ k, k < fr → (m 18 k = 2 → ∃ w, m 21 k = nI w ∧ T < w ∧ w ≤ T + 4) ∧ (m 18 k = 3 → ∃ w, m 21 k = nI w ∧ w ≤ T ∧ T < w + fb_n (s 0 0)) ∧ (m 18 k = 4 → ∃ w, m 21 k = nI w ∧ w ≤ T)) ∧ ∃ o, m 5 0 = nI o ∧ o ≤ 100 * (T + 1)
/-- histories -/
def cp_A (T : Nat) (s m : fb_S) : Prop := ∀ i, i < 32 → s 16 i = fb_b (mf_paused m (fb_tF i) (fb_tT i)) ∧ ∃ h : Nat, h < 256 ∧ s 15 i = nI h ∧ ∀ j, j < 8 → (h.testBit j = true ↔ j < T ∧ ¬ m 27 (((T - j) % 9) * 196 + fb_g i) = 0)
def cp_B (fl fr T : Nat) (s m : fb_S) : Prop := ∀ f, f < fl → s 28 f = 0 ∧ ∃ h : Nat, h < 256 ∧ s 29 f = nI h ∧ ∀ j, j < 8 → (h.testBit j = true ↔ ∃ k, k < fr ∧ m 16 k = nI f ∧ m 18 k = 4 ∧ ¬ m 22 k = 0 ∧ j < T ∧ m 21 k = nI (T - j))
/-- counts -/
def cp_N (fl fr : Nat) (s m : fb_S) : Prop := ∀ f, f < fl → s 30 f = mf_count m (nI f) 4 fr ∧ s 31 f = mf_count m (nI f) 5 fr ∧ s 32 f = mf_last m (nI f) fr
/-- start and goal of the flows are different hosts; what a port's credit may be -/
def cp_E (fl : Nat) (m : fb_S) : Prop := ∀ f, f < fl → ¬ m 7 f = m 8 f
def cp_cr (s : fb_S) : Prop := ∀ j, j < 64 → 0 ≤ s 17 j ∧ s 17 j ≤ 11
def CP (fl fr T : Nat) (s m : fb_S) : Prop := ∃ Q : Nat → List Nat, cp_G s m ∧ cp_P s m ∧ cp_F fl s m ∧ cp_R fl s m ∧ cp_K fr s m ∧ cp_C fr s Q ∧ cp_O fr s m Q ∧ cp_T fr T s m ∧ cp_A T s m ∧ cp_B fl fr T s m ∧ cp_N fl fr s m ∧ cp_E fl m ∧ cp_cr s
/-- the reference's store at its start -/
def mf_st0 (d x r k : Int32) : fb_S := fun F i => match F with
  | 0 => d
  | 1 => x
  | 2 => r
  | 3 => k
  | 25 => if i < 2 then 1 else 0
  | _ => 0
/-- both sides' ranges and what lives -/
def CO (fl fr T : Nat) (s m : fb_S) : Prop := fb_okC fl fr s ∧ fb_okM fl fr T m ∧ fl ≤ 12 ∧ fr ≤ 100 ∧ T ≤ 20000 ∧ CP fl fr T s m
theorem co_init (d x r k : Int32) : CP 0 0 0 (cf_st0 (cf_near d 1 8) (cf_near x 4 40) (cf_near r 0 40) (cf_near k 1 40)) (mf_st0 (mf_near d 1 8) (mf_near x 4 40) (mf_near r 0 40) (mf_near k 1 40)) := by
  sorry
theorem co_flow {fl fr T : Nat} {s m : fb_S} (h : CO fl fr T s m) (u v q : Int32) : cf_flowA s u v q = mf_flowA m u v q ∧ cf_flC s fl u v q = mf_flC m fl u v q ∧ CP (cf_flC s fl u v q) fr T (cf_flow fl u v q s) (mf_flow fl u v q m) := by
  sorry
theorem co_share {fl fr T : Nat} {s m : fb_S} (h : CO fl fr T s m) (q x : Int32) : cf_shareA q x = mf_shareA q x ∧ CP fl fr T (cf_share q x s) (mf_share q x m) := by
  sorry
theorem co_inject {fl fr T : Nat} {s m : fb_S} (h : CO fl fr T s m) (f n : Int32) : cf_injA s f n = mf_injA m f n ∧ cf_frC s fr f n = mf_frC m fr f n ∧ CP fl (cf_frC s fr f n) T (cf_inj fr f n s) (mf_inj fr f n m) := by
  sorry
theorem co_tick {fl fr T : Nat} {s m : fb_S} (h : CO fl fr T s m) (n : Int32) : cf_tickA fl n s = mf_tickA fl fr n m ∧ CP fl fr (mf_T T n) (cf_tickS fl n s) (mf_tickS fl fr n m) := by
  sorry
theorem co_clock {fl fr T : Nat} {s m : fb_S} (h : CO fl fr T s m) : s 6 0 = m 4 0 := by
  obtain ⟨-, -, -, -, -, Q, hG, -⟩ := h
  exact hG.2.2.2.2.1
theorem co_state {fl fr T : Nat} {s m : fb_S} (h : CO fl fr T s m) (k : Int32) : cf_qK s 38 k = mf_state m k := by
  sorry
theorem co_node {fl fr T : Nat} {s m : fb_S} (h : CO fl fr T s m) (k : Int32) : cf_qK s 39 k = mf_nodeQ m k := by
  sorry
theorem co_marked {fl fr T : Nat} {s m : fb_S} (h : CO fl fr T s m) (k : Int32) : cf_qM s k = mf_marked m k := by
  sorry
theorem co_queued {fl fr T : Nat} {s m : fb_S} (h : CO fl fr T s m) (u v q : Int32) : cf_queued s u v q = mf_queued m fr u v q := by
  sorry
theorem co_held {fl fr T : Nat} {s m : fb_S} (h : CO fl fr T s m) (u v q : Int32) : cf_held s u v q = mf_held m fr u v q := by
  sorry
theorem co_asks {fl fr T : Nat} {s m : fb_S} (h : CO fl fr T s m) (u v : Int32) : cf_qP s 14 u v = mf_asks m u v := by
  sorry
theorem co_paused {fl fr T : Nat} {s m : fb_S} (h : CO fl fr T s m) (u v : Int32) : cf_qP s 16 u v = mf_pausedQ m u v := by
  sorry
theorem co_rate {fl fr T : Nat} {s m : fb_S} (h : CO fl fr T s m) (f : Int32) : cf_qF s 23 f 0 = mf_rate m 10 f := by
  sorry
theorem co_alpha {fl fr T : Nat} {s m : fb_S} (h : CO fl fr T s m) (f : Int32) : cf_qF s 25 f 0 = mf_rate m 12 f := by
  sorry
theorem co_received {fl fr T : Nat} {s m : fb_S} (h : CO fl fr T s m) (f : Int32) : cf_qF s 30 f 0 = mf_cnt m fr f 4 := by
  sorry
theorem co_dropped {fl fr T : Nat} {s m : fb_S} (h : CO fl fr T s m) (f : Int32) : cf_qF s 31 f 0 = mf_cnt m fr f 5 := by
  sorry
theorem co_last {fl fr T : Nat} {s m : fb_S} (h : CO fl fr T s m) (f : Int32) : cf_qF s 32 f (-1) = mf_last m f fr := by
  sorry
end
section
/-! the law: what is known at its start; its helper (by program) -/
theorem lw_K {s : State} {b : Nat} (hts : ∀ w ∈ lw_tbl, w.before #[Value.ref b] s = true) : ∃ (D : va_G) (cA : Nat → ClassId), va_K D fb_cl (fb_tys cA) s := by
  have hT : ∀ w ∈ lw_gd, w.before #[Value.ref b] s = true := fun w h => hts w (List.mem_filter.mp h).1
  obtain ⟨c0, i0, h0⟩ := u_known (C := "PausedFabric") (T := zT_X) (N := 11) hT zin_X (hT _ zi_10)
  obtain ⟨c1, i1, h1⟩ := u_known (C := "PausedFabric$Port") (T := zT_P) (N := 11) hT zin_P (hT _ zi_37)
  obtain ⟨c2, i2, h2⟩ := u_known (C := "PausedFabric$Flow") (T := zT_F) (N := 12) hT zin_F (hT _ zi_155)
  obtain ⟨c3, i3, h3⟩ := u_known (C := "PausedFabric$Frame") (T := zT_K) (N := 10) hT zin_K (hT _ zi_232)
  obtain ⟨c4, i4, h4⟩ := u_known (C := "PausedFabric$FrameQueue") (T := zT_Q) (N := 3) hT zin_Q (hT _ zi_44)
  obtain ⟨c5, i5, h5⟩ := u_known (C := "PausedFabricModel") (T := zT_M) (N := 28) hT zin_M (hT _ zi_428)
  obtain ⟨a0, k0, p0, f0, g0, e0⟩ := Cond.arrayClass_spec (hT _ zi_61)
  obtain ⟨a5, k5, p5, f5, g5, e5⟩ := Cond.arrayClass_spec (hT _ zi_521)
  obtain ⟨p1, a1, k1, x1, -, g1, e1, f1⟩ := Cond.arrayOver_spec (hts _ zj_21)
  obtain ⟨p2, a2, k2, x2, -, g2, e2, f2⟩ := Cond.arrayOver_spec (hts _ zj_108)
  obtain ⟨p3, a3, k3, x3, -, g3, e3, f3⟩ := Cond.arrayOver_spec (hts _ zj_110)
  obtain ⟨p4, a4, k4, x4, -, g4, e4, f4⟩ := Cond.arrayOver_spec (hts _ zj_43)
  refine ⟨(fun c => match c with | 0 => c0 | 1 => c1 | 2 => c2 | 3 => c3 | 4 => c4 | _ => c5, fun c => match c with | 0 => i0 | 1 => i1 | 2 => i2 | 3 => i3 | 4 => i4 | _ => i5), (fun c => match c with | 0 => a0 | 1 => a1 | 2 => a2 | 3 => a3 | 4 => a4 | _ => a5), fun c q hq => ?_, fun c q hq => ?_⟩
  · match c, hq with
    | 0, hq => cases hq; exact h0
    | 1, hq => cases hq; exact h1
    | 2, hq => cases hq; exact h2
    | 3, hq => cases hq; exact h3
    | 4, hq => cases hq; exact h4
    | 5, hq => cases hq; exact h5
  · match c, hq with
    | 0, hq => cases hq; exact ⟨fun N z => ⟨(fun k h => by cases h), k0, g0, p0, e0⟩, f0⟩
    | 1, hq => cases hq; exact ⟨fun N z => ⟨(fun k h => by cases h), k1, g1, p1, e1⟩, k1, p1, g1, e1, x1, f1⟩
    | 2, hq => cases hq; exact ⟨fun N z => ⟨(fun k h => by cases h), k2, g2, p2, e2⟩, k2, p2, g2, e2, x2, f2⟩
    | 3, hq => cases hq; exact ⟨fun N z => ⟨(fun k h => by cases h), k3, g3, p3, e3⟩, k3, p3, g3, e3, x3, f3⟩
    | 4, hq => cases hq; exact ⟨fun N z => ⟨(fun k h => by cases h), k4, g4, p4, e4⟩, k4, p4, g4, e4, x4, f4⟩
    | 5, hq => cases hq; exact ⟨fun N z => ⟨(fun k h => by cases h), k5, g5, p5, e5⟩, f5⟩
theorem lw_ao {s : State} {b : Nat} (hts : ∀ w ∈ lw_tbl, w.before #[Value.ref b] s = true) : va_AO "PausedFabric$Port" s ∧ va_AO "PausedFabric$FrameQueue" s ∧ va_AO "PausedFabric$Flow" s ∧ va_AO "PausedFabric$Frame" s ∧ va_Nw (.methodLinkNest "PausedFabric$Port" 9 zy_Q_init "PausedFabric") s := ⟨va_AO.of (hts _ zj_21), va_AO.of (hts _ zj_43), va_AO.of (hts _ zj_108), va_AO.of (hts _ zj_110), va_Nw.of rfl (hts _ zj_45)⟩
def lw_cell (L : Nat) (xs : Nat → Int32) (k : Int32) : Int32 := if Int32.ofNat L ≤ k then 0 else xs k.toNatClampNeg
set_option maxHeartbeats 4000000 in
set_option maxRecDepth 100000 in
theorem c_L_cell (l : Launch) (b L : Nat) (xs : Nat → Int32) (k : Int32) (hk : ¬ k < 0) (hL : L < 2 ^ 31) (sz : Nat) : Met l zy_L_cell (zw_L_cell :: lw_gd) { frames := 0, cells := 0, slots := 0, locals := 0 } (va_Pc [.ref b, .int k] (fun U => U.heap.size = sz ∧ b < sz ∧ va_X b L xs U U.heap)) (va_Qi (fun r (_ : Unit) => r = lw_cell L xs k) (fun _ _ => True) (fun q => sz ≤ q)) 0 0 (fun q => sz ≤ q) := by
  refine Met.ofW (cc := zb_L_cell) (maxL := 2) (ret := (some .int)) (by decide) rfl ?_
  intro p e s m args below meth c s₁ B hml hv
  obtain ⟨rfl, hsz, hbl, hX⟩ := hv
  have hx := B.exec
  have hb := B.bytes
  have hr := B.returns
  have hlocks := B.notSynchronized
  subst hsz
  have hS : va_S (fun q => s.heap.size ≤ q) s.heap s.heap [] := va_S.rf
  have hbA : ¬ s.heap.size ≤ b := by omega
  have hl := lv_entry ([.ref b, .int k]) (n := 2) (Nat.le_of_ble_eq_true rfl)
  rw [lg_entry_eq]
  generalize (lg_sl ([.ref b, .int k]) ++ List.replicate (2 - (lg_sl ([.ref b, .int k])).length) Slot.unset).toArray = ls at hl ⊢
  have hl : lv_has ls 2 [(0, .ref b), (1, .int k)] := hl
  refine lv_iload_n hx hb zd_L_cell_0 rfl (lv_at hl 1 rfl) ?_
  refine lv_aload_n hx hb zd_L_cell_1 rfl (lv_at hl 0 rfl) ?_
  refine va_slen (A := fun q => s.heap.size ≤ q) hx hb hX hbl hbA hS zd_L_cell_2 ?_
  refine lv_icmp_ge (tgt := 12) hx hb zd_L_cell_3 (by decide) (fun h1 => ?_) (fun h1 => ?_)
  · refine lv_iconst (v := 0) hx hb zd_L_cell_12 (by decide) ?_
    exact W.iret (v := 0) hx hb hr (fun t ht hW => ⟨⟨0, (), rfl, (if_pos h1).symm, trivial⟩, hS.F ht⟩) hS.2.2 zd_L_cell_13
  · refine lv_aload_n hx hb zd_L_cell_6 rfl (lv_at hl 0 rfl) ?_
    refine lv_iload_n hx hb zd_L_cell_7 rfl (lv_at hl 1 rfl) ?_
    refine va_sld (A := fun q => s.heap.size ≤ q) hx hb hX hbl hbA hS (fb_inI hk h1 rfl (Nat.le_refl _) hL) zd_L_cell_8 ?_
    refine lv_goto (tgt := 13) hx hb zd_L_cell_9 (by decide) ?_
    exact W.iret (v := xs k.toNatClampNeg) hx hb hr (fun t ht hW => ⟨⟨xs k.toNatClampNeg, (), rfl, (if_neg h1).symm, trivial⟩, hS.F ht⟩) hS.2.2 zd_L_cell_13
def fb_adM (b : Nat) (u : Nat → Nat) : Nat → Nat → Nat := fun k _ => if k = 0 then b else if k < 15 then u (k - 7) else u (k - 8)
theorem fb_wl_minit {cA : Nat → ClassId} {b : Nat} {u : Nat → Nat} {d x r k : Int32} : fb_wl (fb_cM cA) (fb_adM b u) (mf_st0 d x r k) fb_LM = [(b, .inr (5, [.int d, .int x, .int r, .int k, .int 0, .int 0, .int 0, .ref (u 0), .ref (u 1), .ref (u 2), .ref (u 3), .ref (u 4), .ref (u 5), .ref (u 6), .ref (u 7), .int 0, .ref (u 8), .ref (u 9), .ref (u 10), .ref (u 11), .ref (u 12), .ref (u 13), .ref (u 14), .ref (u 15), .ref (u 16), .ref (u 17), .ref (u 18), .ref (u 19)])), ((u 0), .inl (cA 0, 12, .inl (fun _ => 0))), ((u 1), .inl (cA 0, 12, .inl (fun _ => 0))), ((u 2), .inl (cA 0, 12, .inl (fun _ => 0))), ((u 3), .inl (cA 0, 12, .inl (fun _ => 0))), ((u 4), .inl (cA 0, 12, .inl (fun _ => 0))), ((u 5), .inl (cA 0, 12, .inl (fun _ => 0))), ((u 6), .inl (cA 0, 12, .inl (fun _ => 0))), ((u 7), .inl (cA 0, 12, .inl (fun _ => 0))), ((u 8), .inl (cA 0, 100, .inl (fun _ => 0))), ((u 9), .inl (cA 0, 100, .inl (fun _ => 0))), ((u 10), .inl (cA 0, 100, .inl (fun _ => 0))), ((u 11), .inl (cA 0, 100, .inl (fun _ => 0))), ((u 12), .inl (cA 0, 100, .inl (fun _ => 0))), ((u 13), .inl (cA 0, 100, .inl (fun _ => 0))), ((u 14), .inl (cA 5, 100, .inl (fun _ => 0))), ((u 15), .inl (cA 0, 196, .inl (fun _ => 0))), ((u 16), .inl (cA 0, 392, .inl (fun _ => 0))), ((u 17), .inl (cA 0, 2, .inl (upd (upd (fun _ => 0) (0 : Int32).toNatClampNeg 1) (1 : Int32).toNatClampNeg 1))), ((u 18), .inl (cA 5, 196, .inl (fun _ => 0))), ((u 19), .inl (cA 5, 1764, .inl (fun _ => 0)))] := by
  have hq : mf_st0 d x r k 25 = upd (upd (fun _ => 0) (0 : Int32).toNatClampNeg 1) (1 : Int32).toNatClampNeg 1 := by
    funext i
    show (if i < 2 then (1 : Int32) else 0) = _
    simp only [upd, fb_t0, fb_t1]
    by_cases e1 : i = 1
    · subst e1
      simp
    · by_cases e0 : i = 0
      · subst e0
        simp
      · rw [if_neg (by omega), if_neg e1, if_neg e0]
  unfold fb_wl fb_LM
  simp only [List.map_cons, List.map_nil, fb_cM, hq]
  rfl
theorem fb_okM0 {d x r k : Int32} (hd : 1 ≤ d ∧ d ≤ 8) (hx : 4 ≤ x ∧ x ≤ 40) (hr : 0 ≤ r ∧ r ≤ 40) (hk : 1 ≤ k ∧ k ≤ 40) : fb_okM 0 0 0 (mf_st0 d x r k) := by
  intro F i
  unfold fb_rM mf_st0
  split
  all_goals first
    | exact trivial
    | exact hd
    | exact hx
    | exact hr
    | exact hk
    | exact fun _ => rfl
    | exact Or.inl rfl
    | exact (by decide : (0 : Int32) ≤ 0 ∧ (0 : Int32) ≤ 7)
    | exact fun h => (show 1 ≤ (if i < 2 then (1 : Int32) else 0) ∧ (if i < 2 then (1 : Int32) else 0) ≤ 8 from by rw [if_pos h]; decide)
    | (intro h; omega)
    | exact ⟨vp_in_nI (n := 0) (by decide) (by decide), fun h => by omega⟩
theorem near_rg {v lo hi : Int32} (h : lo ≤ hi) : cf_near v lo hi = mf_near v lo hi ∧ lo ≤ mf_near v lo hi ∧ mf_near v lo hi ≤ hi := by
  unfold cf_near mf_near
  simp only [Int32.lt_iff_toInt_lt, Int32.le_iff_toInt_le] at *
  refine ⟨?_, ?_, ?_⟩
  all_goals
    repeat' split
    all_goals first | rfl | omega | exact Int32.toInt_inj.mp (by omega)
theorem lw_and31 (x : Int32) : ∃ t : Nat, t < 32 ∧ x &&& 31 = nI t := by
  refine ⟨(x &&& 31).toBitVec.toNat, ?_, Int32.toBitVec_inj.mp (by show _ = BitVec.ofNat 32 _; simp)⟩
  rw [Int32.toBitVec_and, BitVec.toNat_and]
  exact Nat.lt_of_le_of_lt Nat.and_le_right (by decide)
theorem lw_inc (j : Nat) : nI (4 + 4 * j) + Int32.ofInt 4 = nI (4 + 4 * (j + 1)) := by
  rw [show Int32.ofInt 4 = nI 4 from rfl, nI_add]
  congr 1
theorem lw_in {j L t : Nat} (h : 4 + 4 * j + 4 ≤ L) (ht : t < 4) (hL : L < 2 ^ 31) : vp_in (nI (4 + 4 * j) + nI t) L := by
  rw [nI_add]
  exact vp_in_nI (by omega) hL
theorem lw_go {j L : Nat} (hj : j < (L - 4) / 4) (hL : L ≤ 2052) : ¬ Int32.ofNat L - 4 < nI (4 + 4 * j) := by
  rw [show Int32.ofNat L - 4 = nI (L - 4) from fb_sub (a := L) (b := 4) (by omega)]
  exact nI_nlt (by omega) (by omega)
theorem lw_stop {L : Nat} (hL : L ≤ 2052) : Int32.ofNat L - 4 < nI (4 + 4 * ((L - 4) / 4)) := by
  by_cases h : 4 ≤ L
  · rw [show Int32.ofNat L - 4 = nI (L - 4) from fb_sub (a := L) (b := 4) h]
    exact nI_lt (by omega) (by omega)
  · rcases (show L = 0 ∨ L = 1 ∨ L = 2 ∨ L = 3 by omega) with rfl | rfl | rfl | rfl <;> decide
theorem mf_T_le (T : Nat) (n : Int32) : mf_T T n ≤ T + 20 := by
  unfold mf_T
  split
  · omega
  · rename_i h1
    split
    · rename_i h2
      obtain ⟨t, ht, e⟩ := fb_to20 h1 h2
      rw [e, fb_nI (by omega)]
      omega
    · omega
end
