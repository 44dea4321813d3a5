/-! names, words (by program) -/
def lw_gd : List Cond := lw_tbl.filter goodWord
theorem fb_tm {i : Nat} {c : Cond} (h : tables_1[i]? = some c) (hg : goodWord c = true) : c ∈ lw_gd := List.mem_filter.mpr ⟨List.mem_append_right _ (List.mem_of_getElem? h), hg⟩
theorem fb_tb {i : Nat} {c : Cond} (h : tables_1[i]? = some c) : c ∈ lw_tbl := List.mem_append_right _ (List.mem_of_getElem? h)
theorem fb_sm {i : Nat} {c : Cond} (h : (k2_sels lw_privs)[i]? = some c) (hg : goodWord c = true) : c ∈ lw_gd := List.mem_filter.mpr ⟨List.mem_append_left _ (List.mem_of_getElem? h), hg⟩
abbrev zb_X_init : ByteArray := prog_1_method_1_code
abbrev zy_X_init : MethodName := ⟨"PausedFabric", "<init>", "(IIII)V"⟩
abbrev zw_X_init : Cond := .code zy_X_init zb_X_init 5 none
theorem zc_X_init : zw_X_init ∈ lw_gd := fb_tm (i := 13) (by decide +kernel) (by decide +kernel)
theorem zc_O_init : (Cond.code Lib.objectInit ⟨#[0xb1]⟩ 1 none : Cond) ∈ lw_gd := fb_tm (i := 16) (by decide +kernel) (by decide +kernel)
abbrev zb_X_makePorts : ByteArray := prog_1_method_24_code
abbrev zy_X_makePorts : MethodName := ⟨"PausedFabric", "makePorts", "()[LPausedFabric$Port;"⟩
abbrev zw_X_makePorts : Cond := .code zy_X_makePorts zb_X_makePorts 4 (some (.array (.object "PausedFabric$Port")))
theorem zc_X_makePorts : zw_X_makePorts ∈ lw_gd := fb_tm (i := 19) (by decide +kernel) (by decide +kernel)
abbrev zb_X_areLinked : ByteArray := prog_1_method_23_code
abbrev zy_X_areLinked : MethodName := ⟨"PausedFabric", "areLinked", "(II)Z"⟩
abbrev zw_X_areLinked : Cond := .code zy_X_areLinked zb_X_areLinked 4 (some .boolean)
theorem zc_X_areLinked : zw_X_areLinked ∈ lw_gd := fb_tm (i := 24) (by decide +kernel) (by decide +kernel)
abbrev zb_J_min : ByteArray := prog_9_method_69_code
abbrev zy_J_min : MethodName := ⟨"java/lang/Math", "min", "(II)I"⟩
abbrev zw_J_min : Cond := .code zy_J_min zb_J_min 2 (some .int)
theorem zc_J_min : zw_J_min ∈ lw_gd := fb_tm (i := 27) (by decide +kernel) (by decide +kernel)
abbrev zb_J_max : ByteArray := prog_9_method_65_code
abbrev zy_J_max : MethodName := ⟨"java/lang/Math", "max", "(II)I"⟩
abbrev zw_J_max : Cond := .code zy_J_max zb_J_max 2 (some .int)
theorem zc_J_max : zw_J_max ∈ lw_gd := fb_tm (i := 30) (by decide +kernel) (by decide +kernel)
abbrev zb_X_isHost : ByteArray := prog_1_method_20_code
abbrev zy_X_isHost : MethodName := ⟨"PausedFabric", "isHost", "(I)Z"⟩
abbrev zw_X_isHost : Cond := .code zy_X_isHost zb_X_isHost 1 (some .boolean)
theorem zc_X_isHost : zw_X_isHost ∈ lw_gd := fb_tm (i := 33) (by decide +kernel) (by decide +kernel)
abbrev zb_X_leafOf : ByteArray := prog_1_method_22_code
abbrev zy_X_leafOf : MethodName := ⟨"PausedFabric", "leafOf", "(I)I"⟩
abbrev zw_X_leafOf : Cond := .code zy_X_leafOf zb_X_leafOf 1 (some .int)
theorem zc_X_leafOf : zw_X_leafOf ∈ lw_gd := fb_tm (i := 36) (by decide +kernel) (by decide +kernel)
abbrev zb_P_init : ByteArray := prog_5_method_1_code
abbrev zy_P_init : MethodName := ⟨"PausedFabric$Port", "<init>", "(II)V"⟩
abbrev zw_P_init : Cond := .code zy_P_init zb_P_init 3 none
theorem zc_P_init : zw_P_init ∈ lw_gd := fb_tm (i := 40) (by decide +kernel) (by decide +kernel)
abbrev zb_Q_init : ByteArray := prog_4_method_1_code
abbrev zy_Q_init : MethodName := ⟨"PausedFabric$FrameQueue", "<init>", "()V"⟩
abbrev zw_Q_init : Cond := .code zy_Q_init zb_Q_init 1 none
theorem zc_Q_init : zw_Q_init ∈ lw_gd := fb_tm (i := 47) (by decide +kernel) (by decide +kernel)
abbrev zb_X_nearest : ByteArray := prog_1_method_19_code
abbrev zy_X_nearest : MethodName := ⟨"PausedFabric", "nearest", "(III)I"⟩
abbrev zw_X_nearest : Cond := .code zy_X_nearest zb_X_nearest 3 (some .int)
theorem zc_X_nearest : zw_X_nearest ∈ lw_gd := fb_tm (i := 113) (by decide +kernel) (by decide +kernel)
abbrev zb_X_flow : ByteArray := prog_1_method_2_code
abbrev zy_X_flow : MethodName := ⟨"PausedFabric", "flow", "(III)I"⟩
abbrev zw_X_flow : Cond := .code zy_X_flow zb_X_flow 5 (some .int)
theorem zc_X_flow : zw_X_flow ∈ lw_gd := fb_tm (i := 151) (by decide +kernel) (by decide +kernel)
abbrev zb_X_isPriority : ByteArray := prog_1_method_21_code
abbrev zy_X_isPriority : MethodName := ⟨"PausedFabric", "isPriority", "(I)Z"⟩
abbrev zw_X_isPriority : Cond := .code zy_X_isPriority zb_X_isPriority 1 (some .boolean)
theorem zc_X_isPriority : zw_X_isPriority ∈ lw_gd := fb_tm (i := 154) (by decide +kernel) (by decide +kernel)
abbrev zb_X_routeOf : ByteArray := prog_1_method_28_code
abbrev zy_X_routeOf : MethodName := ⟨"PausedFabric", "routeOf", "(III)[LPausedFabric$Port;"⟩
abbrev zw_X_routeOf : Cond := .code zy_X_routeOf zb_X_routeOf 7 (some (.array (.object "PausedFabric$Port")))
theorem zc_X_routeOf : zw_X_routeOf ∈ lw_gd := fb_tm (i := 159) (by decide +kernel) (by decide +kernel)
abbrev zb_X_portBetween : ByteArray := prog_1_method_25_code
abbrev zy_X_portBetween : MethodName := ⟨"PausedFabric", "portBetween", "(II)LPausedFabric$Port;"⟩
abbrev zw_X_portBetween : Cond := .code zy_X_portBetween zb_X_portBetween 7 (some (.object "PausedFabric$Port"))
theorem zc_X_portBetween : zw_X_portBetween ∈ lw_gd := fb_tm (i := 163) (by decide +kernel) (by decide +kernel)
abbrev zb_J_bitCount : ByteArray := prog_8_method_49_code
abbrev zy_J_bitCount : MethodName := ⟨"java/lang/Integer", "bitCount", "(I)I"⟩
abbrev zw_J_bitCount : Cond := .code zy_J_bitCount zb_J_bitCount 1 (some .int)
theorem zc_J_bitCount : zw_J_bitCount ∈ lw_gd := fb_tm (i := 166) (by decide +kernel) (by decide +kernel)
abbrev zb_F_init : ByteArray := prog_2_method_1_code
abbrev zy_F_init : MethodName := ⟨"PausedFabric$Flow", "<init>", "(I[LPausedFabric$Port;)V"⟩
abbrev zw_F_init : Cond := .code zy_F_init zb_F_init 3 none
theorem zc_F_init : zw_F_init ∈ lw_gd := fb_tm (i := 172) (by decide +kernel) (by decide +kernel)
abbrev zb_X_share : ByteArray := prog_1_method_3_code
abbrev zy_X_share : MethodName := ⟨"PausedFabric", "share", "(II)Z"⟩
abbrev zw_X_share : Cond := .code zy_X_share zb_X_share 3 (some .boolean)
theorem zc_X_share : zw_X_share ∈ lw_gd := fb_tm (i := 223) (by decide +kernel) (by decide +kernel)
abbrev zb_X_inject : ByteArray := prog_1_method_4_code
abbrev zy_X_inject : MethodName := ⟨"PausedFabric", "inject", "(II)I"⟩
abbrev zw_X_inject : Cond := .code zy_X_inject zb_X_inject 6 (some .int)
theorem zc_X_inject : zw_X_inject ∈ lw_gd := fb_tm (i := 227) (by decide +kernel) (by decide +kernel)
abbrev zb_X_flowAt : ByteArray := prog_1_method_26_code
abbrev zy_X_flowAt : MethodName := ⟨"PausedFabric", "flowAt", "(I)LPausedFabric$Flow;"⟩
abbrev zw_X_flowAt : Cond := .code zy_X_flowAt zb_X_flowAt 2 (some (.object "PausedFabric$Flow"))
theorem zc_X_flowAt : zw_X_flowAt ∈ lw_gd := fb_tm (i := 231) (by decide +kernel) (by decide +kernel)
abbrev zb_K_init : ByteArray := prog_3_method_1_code
abbrev zy_K_init : MethodName := ⟨"PausedFabric$Frame", "<init>", "(ILPausedFabric$Flow;I)V"⟩
abbrev zw_K_init : Cond := .code zy_K_init zb_K_init 4 none
theorem zc_K_init : zw_K_init ∈ lw_gd := fb_tm (i := 235) (by decide +kernel) (by decide +kernel)
abbrev zb_X_enqueue : ByteArray := prog_1_method_40_code
abbrev zy_X_enqueue : MethodName := ⟨"PausedFabric", "enqueue", "(LPausedFabric$Frame;)I"⟩
abbrev zw_X_enqueue : Cond := .code zy_X_enqueue zb_X_enqueue 3 (some .int)
theorem zc_X_enqueue : zw_X_enqueue ∈ lw_gd := fb_tm (i := 281) (by decide +kernel) (by decide +kernel)
abbrev zb_F_portAt : ByteArray := prog_2_method_2_code
abbrev zy_F_portAt : MethodName := ⟨"PausedFabric$Flow", "portAt", "(I)LPausedFabric$Port;"⟩
abbrev zw_F_portAt : Cond := .code zy_F_portAt zb_F_portAt 2 (some (.object "PausedFabric$Port"))
theorem zc_F_portAt : zw_F_portAt ∈ lw_gd := fb_tm (i := 285) (by decide +kernel) (by decide +kernel)
abbrev zb_Q_add : ByteArray := prog_4_method_2_code
abbrev zy_Q_add : MethodName := ⟨"PausedFabric$FrameQueue", "add", "(LPausedFabric$Frame;)V"⟩
abbrev zw_Q_add : Cond := .code zy_Q_add zb_Q_add 2 none
theorem zc_Q_add : zw_Q_add ∈ lw_gd := fb_tm (i := 289) (by decide +kernel) (by decide +kernel)
abbrev zb_X_tick : ByteArray := prog_1_method_5_code
abbrev zy_X_tick : MethodName := ⟨"PausedFabric", "tick", "(I)I"⟩
abbrev zw_X_tick : Cond := .code zy_X_tick zb_X_tick 4 (some .int)
theorem zc_X_tick : zw_X_tick ∈ lw_gd := fb_tm (i := 293) (by decide +kernel) (by decide +kernel)
abbrev zb_X_makeTick : ByteArray := prog_1_method_29_code
abbrev zy_X_makeTick : MethodName := ⟨"PausedFabric", "makeTick", "()I"⟩
abbrev zw_X_makeTick : Cond := .code zy_X_makeTick zb_X_makeTick 6 (some .int)
theorem zc_X_makeTick : zw_X_makeTick ∈ lw_gd := fb_tm (i := 297) (by decide +kernel) (by decide +kernel)
abbrev zb_X_wasSo : ByteArray := prog_1_method_30_code
abbrev zy_X_wasSo : MethodName := ⟨"PausedFabric", "wasSo", "(I)Z"⟩
abbrev zw_X_wasSo : Cond := .code zy_X_wasSo zb_X_wasSo 2 (some .boolean)
theorem zc_X_wasSo : zw_X_wasSo ∈ lw_gd := fb_tm (i := 301) (by decide +kernel) (by decide +kernel)
abbrev zb_X_endSending : ByteArray := prog_1_method_33_code
abbrev zy_X_endSending : MethodName := ⟨"PausedFabric", "endSending", "(LPausedFabric$Port;)V"⟩
abbrev zw_X_endSending : Cond := .code zy_X_endSending zb_X_endSending 3 none
theorem zc_X_endSending : zw_X_endSending ∈ lw_gd := fb_tm (i := 305) (by decide +kernel) (by decide +kernel)
abbrev zb_X_release : ByteArray := prog_1_method_34_code
abbrev zy_X_release : MethodName := ⟨"PausedFabric", "release", "(LPausedFabric$Frame;LPausedFabric$Port;)V"⟩
abbrev zw_X_release : Cond := .code zy_X_release zb_X_release 4 none
theorem zc_X_release : zw_X_release ∈ lw_gd := fb_tm (i := 309) (by decide +kernel) (by decide +kernel)
abbrev zb_F_adjustRate : ByteArray := prog_2_method_4_code
abbrev zy_F_adjustRate : MethodName := ⟨"PausedFabric$Flow", "adjustRate", "(Z)V"⟩
abbrev zw_F_adjustRate : Cond := .code zy_F_adjustRate zb_F_adjustRate 2 none
theorem zc_F_adjustRate : zw_F_adjustRate ∈ lw_gd := fb_tm (i := 313) (by decide +kernel) (by decide +kernel)
abbrev zb_F_slowDown : ByteArray := prog_2_method_5_code
abbrev zy_F_slowDown : MethodName := ⟨"PausedFabric$Flow", "slowDown", "()V"⟩
abbrev zw_F_slowDown : Cond := .code zy_F_slowDown zb_F_slowDown 1 none
theorem zc_F_slowDown : zw_F_slowDown ∈ lw_gd := fb_tm (i := 317) (by decide +kernel) (by decide +kernel)
abbrev zb_F_recover : ByteArray := prog_2_method_6_code
abbrev zy_F_recover : MethodName := ⟨"PausedFabric$Flow", "recover", "()V"⟩
abbrev zw_F_recover : Cond := .code zy_F_recover zb_F_recover 1 none
theorem zc_F_recover : zw_F_recover ∈ lw_gd := fb_tm (i := 322) (by decide +kernel) (by decide +kernel)
abbrev zb_X_deliver : ByteArray := prog_1_method_35_code
abbrev zy_X_deliver : MethodName := ⟨"PausedFabric", "deliver", "(LPausedFabric$Port;)I"⟩
abbrev zw_X_deliver : Cond := .code zy_X_deliver zb_X_deliver 3 (some .int)
theorem zc_X_deliver : zw_X_deliver ∈ lw_gd := fb_tm (i := 326) (by decide +kernel) (by decide +kernel)
abbrev zb_Q_removeFirst : ByteArray := prog_4_method_3_code
abbrev zy_Q_removeFirst : MethodName := ⟨"PausedFabric$FrameQueue", "removeFirst", "()V"⟩
abbrev zw_Q_removeFirst : Cond := .code zy_Q_removeFirst zb_Q_removeFirst 2 none
theorem zc_Q_removeFirst : zw_Q_removeFirst ∈ lw_gd := fb_tm (i := 330) (by decide +kernel) (by decide +kernel)
abbrev zb_X_receive : ByteArray := prog_1_method_36_code
abbrev zy_X_receive : MethodName := ⟨"PausedFabric", "receive", "(LPausedFabric$Frame;)V"⟩
abbrev zw_X_receive : Cond := .code zy_X_receive zb_X_receive 2 none
theorem zc_X_receive : zw_X_receive ∈ lw_gd := fb_tm (i := 333) (by decide +kernel) (by decide +kernel)
abbrev zb_X_hasPlace : ByteArray := prog_1_method_38_code
abbrev zy_X_hasPlace : MethodName := ⟨"PausedFabric", "hasPlace", "(LPausedFabric$Port;LPausedFabric$Frame;)Z"⟩
abbrev zw_X_hasPlace : Cond := .code zy_X_hasPlace zb_X_hasPlace 5 (some .boolean)
theorem zc_X_hasPlace : zw_X_hasPlace ∈ lw_gd := fb_tm (i := 337) (by decide +kernel) (by decide +kernel)
abbrev zb_X_hold : ByteArray := prog_1_method_39_code
abbrev zy_X_hold : MethodName := ⟨"PausedFabric", "hold", "(LPausedFabric$Port;LPausedFabric$Frame;)V"⟩
abbrev zw_X_hold : Cond := .code zy_X_hold zb_X_hold 4 none
theorem zc_X_hold : zw_X_hold ∈ lw_gd := fb_tm (i := 341) (by decide +kernel) (by decide +kernel)
abbrev zb_X_drop : ByteArray := prog_1_method_37_code
abbrev zy_X_drop : MethodName := ⟨"PausedFabric", "drop", "(LPausedFabric$Frame;)V"⟩
abbrev zw_X_drop : Cond := .code zy_X_drop zb_X_drop 1 none
theorem zc_X_drop : zw_X_drop ∈ lw_gd := fb_tm (i := 344) (by decide +kernel) (by decide +kernel)
abbrev zb_X_choose : ByteArray := prog_1_method_41_code
abbrev zy_X_choose : MethodName := ⟨"PausedFabric", "choose", "(LPausedFabric$Port;)V"⟩
abbrev zw_X_choose : Cond := .code zy_X_choose zb_X_choose 7 none
theorem zc_X_choose : zw_X_choose ∈ lw_gd := fb_tm (i := 348) (by decide +kernel) (by decide +kernel)
abbrev zb_X_readyFrame : ByteArray := prog_1_method_42_code
abbrev zy_X_readyFrame : MethodName := ⟨"PausedFabric", "readyFrame", "(LPausedFabric$Port;I)LPausedFabric$Frame;"⟩
abbrev zw_X_readyFrame : Cond := .code zy_X_readyFrame zb_X_readyFrame 4 (some (.object "PausedFabric$Frame"))
theorem zc_X_readyFrame : zw_X_readyFrame ∈ lw_gd := fb_tm (i := 352) (by decide +kernel) (by decide +kernel)
abbrev zb_X_beginSending : ByteArray := prog_1_method_43_code
abbrev zy_X_beginSending : MethodName := ⟨"PausedFabric", "beginSending", "(LPausedFabric$Port;LPausedFabric$Frame;)V"⟩
abbrev zw_X_beginSending : Cond := .code zy_X_beginSending zb_X_beginSending 4 none
theorem zc_X_beginSending : zw_X_beginSending ∈ lw_gd := fb_tm (i := 356) (by decide +kernel) (by decide +kernel)
abbrev zb_F_waitFrom : ByteArray := prog_2_method_3_code
abbrev zy_F_waitFrom : MethodName := ⟨"PausedFabric$Flow", "waitFrom", "(II)V"⟩
abbrev zw_F_waitFrom : Cond := .code zy_F_waitFrom zb_F_waitFrom 3 none
theorem zc_F_waitFrom : zw_F_waitFrom ∈ lw_gd := fb_tm (i := 360) (by decide +kernel) (by decide +kernel)
abbrev zb_X_remember : ByteArray := prog_1_method_32_code
abbrev zy_X_remember : MethodName := ⟨"PausedFabric", "remember", "()V"⟩
abbrev zw_X_remember : Cond := .code zy_X_remember zb_X_remember 5 none
theorem zc_X_remember : zw_X_remember ∈ lw_gd := fb_tm (i := 364) (by decide +kernel) (by decide +kernel)
abbrev zb_X_withLatest : ByteArray := prog_1_method_31_code
abbrev zy_X_withLatest : MethodName := ⟨"PausedFabric", "withLatest", "(IZ)I"⟩
abbrev zw_X_withLatest : Cond := .code zy_X_withLatest zb_X_withLatest 3 (some .int)
theorem zc_X_withLatest : zw_X_withLatest ∈ lw_gd := fb_tm (i := 367) (by decide +kernel) (by decide +kernel)
abbrev zb_X_clock : ByteArray := prog_1_method_6_code
abbrev zy_X_clock : MethodName := ⟨"PausedFabric", "clock", "()I"⟩
abbrev zw_X_clock : Cond := .code zy_X_clock zb_X_clock 1 (some .int)
theorem zc_X_clock : zw_X_clock ∈ lw_gd := fb_tm (i := 371) (by decide +kernel) (by decide +kernel)
abbrev zb_X_state : ByteArray := prog_1_method_7_code
abbrev zy_X_state : MethodName := ⟨"PausedFabric", "state", "(I)I"⟩
abbrev zw_X_state : Cond := .code zy_X_state zb_X_state 3 (some .int)
theorem zc_X_state : zw_X_state ∈ lw_gd := fb_tm (i := 375) (by decide +kernel) (by decide +kernel)
abbrev zb_X_frameAt : ByteArray := prog_1_method_27_code
abbrev zy_X_frameAt : MethodName := ⟨"PausedFabric", "frameAt", "(I)LPausedFabric$Frame;"⟩
abbrev zw_X_frameAt : Cond := .code zy_X_frameAt zb_X_frameAt 2 (some (.object "PausedFabric$Frame"))
theorem zc_X_frameAt : zw_X_frameAt ∈ lw_gd := fb_tm (i := 379) (by decide +kernel) (by decide +kernel)
abbrev zb_X_node : ByteArray := prog_1_method_8_code
abbrev zy_X_node : MethodName := ⟨"PausedFabric", "node", "(I)I"⟩
abbrev zw_X_node : Cond := .code zy_X_node zb_X_node 3 (some .int)
theorem zc_X_node : zw_X_node ∈ lw_gd := fb_tm (i := 383) (by decide +kernel) (by decide +kernel)
abbrev zb_X_marked : ByteArray := prog_1_method_9_code
abbrev zy_X_marked : MethodName := ⟨"PausedFabric", "marked", "(I)Z"⟩
abbrev zw_X_marked : Cond := .code zy_X_marked zb_X_marked 3 (some .boolean)
theorem zc_X_marked : zw_X_marked ∈ lw_gd := fb_tm (i := 387) (by decide +kernel) (by decide +kernel)
abbrev zb_X_queued : ByteArray := prog_1_method_10_code
abbrev zy_X_queued : MethodName := ⟨"PausedFabric", "queued", "(III)I"⟩
abbrev zw_X_queued : Cond := .code zy_X_queued zb_X_queued 5 (some .int)
theorem zc_X_queued : zw_X_queued ∈ lw_gd := fb_tm (i := 391) (by decide +kernel) (by decide +kernel)
abbrev zb_X_held : ByteArray := prog_1_method_11_code
abbrev zy_X_held : MethodName := ⟨"PausedFabric", "held", "(III)I"⟩
abbrev zw_X_held : Cond := .code zy_X_held zb_X_held 5 (some .int)
theorem zc_X_held : zw_X_held ∈ lw_gd := fb_tm (i := 395) (by decide +kernel) (by decide +kernel)
abbrev zb_X_asks : ByteArray := prog_1_method_12_code
abbrev zy_X_asks : MethodName := ⟨"PausedFabric", "asks", "(II)Z"⟩
abbrev zw_X_asks : Cond := .code zy_X_asks zb_X_asks 4 (some .boolean)
theorem zc_X_asks : zw_X_asks ∈ lw_gd := fb_tm (i := 399) (by decide +kernel) (by decide +kernel)
abbrev zb_X_paused : ByteArray := prog_1_method_13_code
abbrev zy_X_paused : MethodName := ⟨"PausedFabric", "paused", "(II)Z"⟩
abbrev zw_X_paused : Cond := .code zy_X_paused zb_X_paused 4 (some .boolean)
theorem zc_X_paused : zw_X_paused ∈ lw_gd := fb_tm (i := 403) (by decide +kernel) (by decide +kernel)
abbrev zb_X_rate : ByteArray := prog_1_method_14_code
abbrev zy_X_rate : MethodName := ⟨"PausedFabric", "rate", "(I)I"⟩
abbrev zw_X_rate : Cond := .code zy_X_rate zb_X_rate 3 (some .int)
theorem zc_X_rate : zw_X_rate ∈ lw_gd := fb_tm (i := 407) (by decide +kernel) (by decide +kernel)
abbrev zb_X_alpha : ByteArray := prog_1_method_15_code
abbrev zy_X_alpha : MethodName := ⟨"PausedFabric", "alpha", "(I)I"⟩
abbrev zw_X_alpha : Cond := .code zy_X_alpha zb_X_alpha 3 (some .int)
theorem zc_X_alpha : zw_X_alpha ∈ lw_gd := fb_tm (i := 411) (by decide +kernel) (by decide +kernel)
abbrev zb_X_received : ByteArray := prog_1_method_16_code
abbrev zy_X_received : MethodName := ⟨"PausedFabric", "received", "(I)I"⟩
abbrev zw_X_received : Cond := .code zy_X_received zb_X_received 3 (some .int)
theorem zc_X_received : zw_X_received ∈ lw_gd := fb_tm (i := 415) (by decide +kernel) (by decide +kernel)
abbrev zb_X_dropped : ByteArray := prog_1_method_17_code
abbrev zy_X_dropped : MethodName := ⟨"PausedFabric", "dropped", "(I)I"⟩
abbrev zw_X_dropped : Cond := .code zy_X_dropped zb_X_dropped 3 (some .int)
theorem zc_X_dropped : zw_X_dropped ∈ lw_gd := fb_tm (i := 419) (by decide +kernel) (by decide +kernel)
abbrev zb_X_last : ByteArray := prog_1_method_18_code
abbrev zy_X_last : MethodName := ⟨"PausedFabric", "last", "(I)I"⟩
abbrev zw_X_last : Cond := .code zy_X_last zb_X_last 3 (some .int)
theorem zc_X_last : zw_X_last ∈ lw_gd := fb_tm (i := 423) (by decide +kernel) (by decide +kernel)
abbrev zb_L_cell : ByteArray := method_2_code
abbrev zy_L_cell : MethodName := ⟨"PausedFabricLaw", "cell", "([II)I"⟩
abbrev zw_L_cell : Cond := .code zy_L_cell zb_L_cell 2 (some .int)
theorem zc_L_cell : zw_L_cell ∈ lw_gd := fb_tm (i := 426) (by decide +kernel) (by decide +kernel)
abbrev zb_M_init : ByteArray := prog_7_method_1_code
abbrev zy_M_init : MethodName := ⟨"PausedFabricModel", "<init>", "(IIII)V"⟩
abbrev zw_M_init : Cond := .code zy_M_init zb_M_init 5 none
theorem zc_M_init : zw_M_init ∈ lw_gd := fb_tm (i := 431) (by decide +kernel) (by decide +kernel)
abbrev zb_M_nearest : ByteArray := prog_7_method_2_code
abbrev zy_M_nearest : MethodName := ⟨"PausedFabricModel", "nearest", "(III)I"⟩
abbrev zw_M_nearest : Cond := .code zy_M_nearest zb_M_nearest 3 (some .int)
theorem zc_M_nearest : zw_M_nearest ∈ lw_gd := fb_tm (i := 435) (by decide +kernel) (by decide +kernel)
abbrev zb_M_flow : ByteArray := prog_7_method_14_code
abbrev zy_M_flow : MethodName := ⟨"PausedFabricModel", "flow", "(III)I"⟩
abbrev zw_M_flow : Cond := .code zy_M_flow zb_M_flow 4 (some .int)
theorem zc_M_flow : zw_M_flow ∈ lw_gd := fb_tm (i := 525) (by decide +kernel) (by decide +kernel)
abbrev zb_M_share : ByteArray := prog_7_method_15_code
abbrev zy_M_share : MethodName := ⟨"PausedFabricModel", "share", "(II)Z"⟩
abbrev zw_M_share : Cond := .code zy_M_share zb_M_share 3 (some .boolean)
theorem zc_M_share : zw_M_share ∈ lw_gd := fb_tm (i := 529) (by decide +kernel) (by decide +kernel)
abbrev zb_M_inject : ByteArray := prog_7_method_17_code
abbrev zy_M_inject : MethodName := ⟨"PausedFabricModel", "inject", "(II)I"⟩
abbrev zw_M_inject : Cond := .code zy_M_inject zb_M_inject 3 (some .int)
theorem zc_M_inject : zw_M_inject ∈ lw_gd := fb_tm (i := 533) (by decide +kernel) (by decide +kernel)
abbrev zb_M_isFlow : ByteArray := prog_7_method_4_code
abbrev zy_M_isFlow : MethodName := ⟨"PausedFabricModel", "isFlow", "(I)Z"⟩
abbrev zw_M_isFlow : Cond := .code zy_M_isFlow zb_M_isFlow 2 (some .boolean)
theorem zc_M_isFlow : zw_M_isFlow ∈ lw_gd := fb_tm (i := 537) (by decide +kernel) (by decide +kernel)
abbrev zb_M_enqueue : ByteArray := prog_7_method_16_code
abbrev zy_M_enqueue : MethodName := ⟨"PausedFabricModel", "enqueue", "(I)V"⟩
abbrev zw_M_enqueue : Cond := .code zy_M_enqueue zb_M_enqueue 2 none
theorem zc_M_enqueue : zw_M_enqueue ∈ lw_gd := fb_tm (i := 541) (by decide +kernel) (by decide +kernel)
abbrev zb_M_tick : ByteArray := prog_7_method_26_code
abbrev zy_M_tick : MethodName := ⟨"PausedFabricModel", "tick", "(I)I"⟩
abbrev zw_M_tick : Cond := .code zy_M_tick zb_M_tick 5 (some .int)
theorem zc_M_tick : zw_M_tick ∈ lw_gd := fb_tm (i := 545) (by decide +kernel) (by decide +kernel)
abbrev zb_M_arrived : ByteArray := prog_7_method_27_code
abbrev zy_M_arrived : MethodName := ⟨"PausedFabricModel", "arrived", "()I"⟩
abbrev zw_M_arrived : Cond := .code zy_M_arrived zb_M_arrived 3 (some .int)
theorem zc_M_arrived : zw_M_arrived ∈ lw_gd := fb_tm (i := 549) (by decide +kernel) (by decide +kernel)
abbrev zb_M_endSending : ByteArray := prog_7_method_18_code
abbrev zy_M_endSending : MethodName := ⟨"PausedFabricModel", "endSending", "()V"⟩
abbrev zw_M_endSending : Cond := .code zy_M_endSending zb_M_endSending 5 none
theorem zc_M_endSending : zw_M_endSending ∈ lw_gd := fb_tm (i := 553) (by decide +kernel) (by decide +kernel)
abbrev zb_M_nodeAt : ByteArray := prog_7_method_7_code
abbrev zy_M_nodeAt : MethodName := ⟨"PausedFabricModel", "nodeAt", "(II)I"⟩
abbrev zw_M_nodeAt : Cond := .code zy_M_nodeAt zb_M_nodeAt 4 (some .int)
theorem zc_M_nodeAt : zw_M_nodeAt ∈ lw_gd := fb_tm (i := 557) (by decide +kernel) (by decide +kernel)
abbrev zb_M_end : ByteArray := prog_7_method_6_code
abbrev zy_M_end : MethodName := ⟨"PausedFabricModel", "end", "(I)I"⟩
abbrev zw_M_end : Cond := .code zy_M_end zb_M_end 2 (some .int)
theorem zc_M_end : zw_M_end ∈ lw_gd := fb_tm (i := 561) (by decide +kernel) (by decide +kernel)
abbrev zb_M_holds : ByteArray := prog_7_method_12_code
abbrev zy_M_holds : MethodName := ⟨"PausedFabricModel", "holds", "(III)I"⟩
abbrev zw_M_holds : Cond := .code zy_M_holds zb_M_holds 9 (some .int)
theorem zc_M_holds : zw_M_holds ∈ lw_gd := fb_tm (i := 565) (by decide +kernel) (by decide +kernel)
abbrev zb_M_slow : ByteArray := prog_7_method_20_code
abbrev zy_M_slow : MethodName := ⟨"PausedFabricModel", "slow", "(I)V"⟩
abbrev zw_M_slow : Cond := .code zy_M_slow zb_M_slow 3 none
theorem zc_M_slow : zw_M_slow ∈ lw_gd := fb_tm (i := 569) (by decide +kernel) (by decide +kernel)
abbrev zb_M_told : ByteArray := prog_7_method_19_code
abbrev zy_M_told : MethodName := ⟨"PausedFabricModel", "told", "(I)Z"⟩
abbrev zw_M_told : Cond := .code zy_M_told zb_M_told 4 (some .boolean)
theorem zc_M_told : zw_M_told ∈ lw_gd := fb_tm (i := 573) (by decide +kernel) (by decide +kernel)
abbrev zb_M_arrivals : ByteArray := prog_7_method_22_code
abbrev zy_M_arrivals : MethodName := ⟨"PausedFabricModel", "arrivals", "()V"⟩
abbrev zw_M_arrivals : Cond := .code zy_M_arrivals zb_M_arrivals 4 none
theorem zc_M_arrivals : zw_M_arrivals ∈ lw_gd := fb_tm (i := 577) (by decide +kernel) (by decide +kernel)
abbrev zb_M_isPort : ByteArray := prog_7_method_3_code
abbrev zy_M_isPort : MethodName := ⟨"PausedFabricModel", "isPort", "(II)Z"⟩
abbrev zw_M_isPort : Cond := .code zy_M_isPort zb_M_isPort 4 (some .boolean)
theorem zc_M_isPort : zw_M_isPort ∈ lw_gd := fb_tm (i := 580) (by decide +kernel) (by decide +kernel)
abbrev zb_M_between : ByteArray := prog_7_method_8_code
abbrev zy_M_between : MethodName := ⟨"PausedFabricModel", "between", "(III)Z"⟩
abbrev zw_M_between : Cond := .code zy_M_between zb_M_between 6 (some .boolean)
theorem zc_M_between : zw_M_between ∈ lw_gd := fb_tm (i := 584) (by decide +kernel) (by decide +kernel)
abbrev zb_M_arrive : ByteArray := prog_7_method_21_code
abbrev zy_M_arrive : MethodName := ⟨"PausedFabricModel", "arrive", "(III)V"⟩
abbrev zw_M_arrive : Cond := .code zy_M_arrive zb_M_arrive 8 none
theorem zc_M_arrive : zw_M_arrive ∈ lw_gd := fb_tm (i := 588) (by decide +kernel) (by decide +kernel)
abbrev zb_M_queueLength : ByteArray := prog_7_method_10_code
abbrev zy_M_queueLength : MethodName := ⟨"PausedFabricModel", "queueLength", "(III)I"⟩
abbrev zw_M_queueLength : Cond := .code zy_M_queueLength zb_M_queueLength 7 (some .int)
theorem zc_M_queueLength : zw_M_queueLength ∈ lw_gd := fb_tm (i := 592) (by decide +kernel) (by decide +kernel)
abbrev zb_M_sends : ByteArray := prog_7_method_11_code
abbrev zy_M_sends : MethodName := ⟨"PausedFabricModel", "sends", "(II)Z"⟩
abbrev zw_M_sends : Cond := .code zy_M_sends zb_M_sends 5 (some .boolean)
theorem zc_M_sends : zw_M_sends ∈ lw_gd := fb_tm (i := 596) (by decide +kernel) (by decide +kernel)
abbrev zb_M_choose : ByteArray := prog_7_method_24_code
abbrev zy_M_choose : MethodName := ⟨"PausedFabricModel", "choose", "(II)V"⟩
abbrev zw_M_choose : Cond := .code zy_M_choose zb_M_choose 13 none
theorem zc_M_choose : zw_M_choose ∈ lw_gd := fb_tm (i := 600) (by decide +kernel) (by decide +kernel)
abbrev zb_M_ready : ByteArray := prog_7_method_23_code
abbrev zy_M_ready : MethodName := ⟨"PausedFabricModel", "ready", "(III)Z"⟩
abbrev zw_M_ready : Cond := .code zy_M_ready zb_M_ready 5 (some .boolean)
theorem zc_M_ready : zw_M_ready ∈ lw_gd := fb_tm (i := 604) (by decide +kernel) (by decide +kernel)
abbrev zb_M_first : ByteArray := prog_7_method_9_code
abbrev zy_M_first : MethodName := ⟨"PausedFabricModel", "first", "(III)I"⟩
abbrev zw_M_first : Cond := .code zy_M_first zb_M_first 7 (some .int)
theorem zc_M_first : zw_M_first ∈ lw_gd := fb_tm (i := 608) (by decide +kernel) (by decide +kernel)
abbrev zb_M_isPaused : ByteArray := prog_7_method_13_code
abbrev zy_M_isPaused : MethodName := ⟨"PausedFabricModel", "isPaused", "(II)Z"⟩
abbrev zw_M_isPaused : Cond := .code zy_M_isPaused zb_M_isPaused 3 (some .boolean)
theorem zc_M_isPaused : zw_M_isPaused ∈ lw_gd := fb_tm (i := 612) (by decide +kernel) (by decide +kernel)
abbrev zb_M_begin : ByteArray := prog_7_method_25_code
abbrev zy_M_begin : MethodName := ⟨"PausedFabricModel", "begin", "(II)V"⟩
abbrev zw_M_begin : Cond := .code zy_M_begin zb_M_begin 4 none
theorem zc_M_begin : zw_M_begin ∈ lw_gd := fb_tm (i := 616) (by decide +kernel) (by decide +kernel)
abbrev zb_M_clock : ByteArray := prog_7_method_28_code
abbrev zy_M_clock : MethodName := ⟨"PausedFabricModel", "clock", "()I"⟩
abbrev zw_M_clock : Cond := .code zy_M_clock zb_M_clock 1 (some .int)
theorem zc_M_clock : zw_M_clock ∈ lw_gd := fb_tm (i := 620) (by decide +kernel) (by decide +kernel)
abbrev zb_M_state : ByteArray := prog_7_method_29_code
abbrev zy_M_state : MethodName := ⟨"PausedFabricModel", "state", "(I)I"⟩
abbrev zw_M_state : Cond := .code zy_M_state zb_M_state 2 (some .int)
theorem zc_M_state : zw_M_state ∈ lw_gd := fb_tm (i := 624) (by decide +kernel) (by decide +kernel)
abbrev zb_M_isFrame : ByteArray := prog_7_method_5_code
abbrev zy_M_isFrame : MethodName := ⟨"PausedFabricModel", "isFrame", "(I)Z"⟩
abbrev zw_M_isFrame : Cond := .code zy_M_isFrame zb_M_isFrame 2 (some .boolean)
theorem zc_M_isFrame : zw_M_isFrame ∈ lw_gd := fb_tm (i := 628) (by decide +kernel) (by decide +kernel)
abbrev zb_M_node : ByteArray := prog_7_method_30_code
abbrev zy_M_node : MethodName := ⟨"PausedFabricModel", "node", "(I)I"⟩
abbrev zw_M_node : Cond := .code zy_M_node zb_M_node 2 (some .int)
theorem zc_M_node : zw_M_node ∈ lw_gd := fb_tm (i := 632) (by decide +kernel) (by decide +kernel)
abbrev zb_M_marked : ByteArray := prog_7_method_31_code
abbrev zy_M_marked : MethodName := ⟨"PausedFabricModel", "marked", "(I)Z"⟩
abbrev zw_M_marked : Cond := .code zy_M_marked zb_M_marked 2 (some .boolean)
theorem zc_M_marked : zw_M_marked ∈ lw_gd := fb_tm (i := 636) (by decide +kernel) (by decide +kernel)
abbrev zb_M_queued : ByteArray := prog_7_method_32_code
abbrev zy_M_queued : MethodName := ⟨"PausedFabricModel", "queued", "(III)I"⟩
abbrev zw_M_queued : Cond := .code zy_M_queued zb_M_queued 4 (some .int)
theorem zc_M_queued : zw_M_queued ∈ lw_gd := fb_tm (i := 640) (by decide +kernel) (by decide +kernel)
abbrev zb_M_held : ByteArray := prog_7_method_33_code
abbrev zy_M_held : MethodName := ⟨"PausedFabricModel", "held", "(III)I"⟩
abbrev zw_M_held : Cond := .code zy_M_held zb_M_held 4 (some .int)
theorem zc_M_held : zw_M_held ∈ lw_gd := fb_tm (i := 644) (by decide +kernel) (by decide +kernel)
abbrev zb_M_asks : ByteArray := prog_7_method_34_code
abbrev zy_M_asks : MethodName := ⟨"PausedFabricModel", "asks", "(II)Z"⟩
abbrev zw_M_asks : Cond := .code zy_M_asks zb_M_asks 3 (some .boolean)
theorem zc_M_asks : zw_M_asks ∈ lw_gd := fb_tm (i := 648) (by decide +kernel) (by decide +kernel)
abbrev zb_M_paused : ByteArray := prog_7_method_35_code
abbrev zy_M_paused : MethodName := ⟨"PausedFabricModel", "paused", "(II)Z"⟩
abbrev zw_M_paused : Cond := .code zy_M_paused zb_M_paused 3 (some .boolean)
theorem zc_M_paused : zw_M_paused ∈ lw_gd := fb_tm (i := 652) (by decide +kernel) (by decide +kernel)
abbrev zb_M_rate : ByteArray := prog_7_method_36_code
abbrev zy_M_rate : MethodName := ⟨"PausedFabricModel", "rate", "(I)I"⟩
abbrev zw_M_rate : Cond := .code zy_M_rate zb_M_rate 2 (some .int)
theorem zc_M_rate : zw_M_rate ∈ lw_gd := fb_tm (i := 656) (by decide +kernel) (by decide +kernel)
abbrev zb_M_alpha : ByteArray := prog_7_method_37_code
abbrev zy_M_alpha : MethodName := ⟨"PausedFabricModel", "alpha", "(I)I"⟩
abbrev zw_M_alpha : Cond := .code zy_M_alpha zb_M_alpha 2 (some .int)
theorem zc_M_alpha : zw_M_alpha ∈ lw_gd := fb_tm (i := 660) (by decide +kernel) (by decide +kernel)
abbrev zb_M_received : ByteArray := prog_7_method_39_code
abbrev zy_M_received : MethodName := ⟨"PausedFabricModel", "received", "(I)I"⟩
abbrev zw_M_received : Cond := .code zy_M_received zb_M_received 2 (some .int)
theorem zc_M_received : zw_M_received ∈ lw_gd := fb_tm (i := 664) (by decide +kernel) (by decide +kernel)
abbrev zb_M_countOf : ByteArray := prog_7_method_38_code
abbrev zy_M_countOf : MethodName := ⟨"PausedFabricModel", "countOf", "(II)I"⟩
abbrev zw_M_countOf : Cond := .code zy_M_countOf zb_M_countOf 5 (some .int)
theorem zc_M_countOf : zw_M_countOf ∈ lw_gd := fb_tm (i := 668) (by decide +kernel) (by decide +kernel)
abbrev zb_M_dropped : ByteArray := prog_7_method_40_code
abbrev zy_M_dropped : MethodName := ⟨"PausedFabricModel", "dropped", "(I)I"⟩
abbrev zw_M_dropped : Cond := .code zy_M_dropped zb_M_dropped 2 (some .int)
theorem zc_M_dropped : zw_M_dropped ∈ lw_gd := fb_tm (i := 672) (by decide +kernel) (by decide +kernel)
abbrev zb_M_last : ByteArray := prog_7_method_41_code
abbrev zy_M_last : MethodName := ⟨"PausedFabricModel", "last", "(I)I"⟩
abbrev zw_M_last : Cond := .code zy_M_last zb_M_last 5 (some .int)
theorem zc_M_last : zw_M_last ∈ lw_gd := fb_tm (i := 676) (by decide +kernel) (by decide +kernel)
abbrev zb_L_law : ByteArray := code
theorem zi_0 : (Cond.initialized "PausedFabricLaw" : Cond) ∈ lw_gd := fb_tm (i := 0) (by decide +kernel) (by decide +kernel)
theorem zi_1 : (Cond.initialized "PausedFabric" : Cond) ∈ lw_gd := fb_tm (i := 1) (by decide +kernel) (by decide +kernel)
theorem zi_2 : (Cond.initialized "java/lang/Math" : Cond) ∈ lw_gd := fb_tm (i := 2) (by decide +kernel) (by decide +kernel)
theorem zi_3 : (Cond.initialized "PausedFabric$Port" : Cond) ∈ lw_gd := fb_tm (i := 3) (by decide +kernel) (by decide +kernel)
theorem zi_4 : (Cond.initialized "PausedFabric$FrameQueue" : Cond) ∈ lw_gd := fb_tm (i := 4) (by decide +kernel) (by decide +kernel)
theorem zi_5 : (Cond.initialized "PausedFabricModel" : Cond) ∈ lw_gd := fb_tm (i := 5) (by decide +kernel) (by decide +kernel)
theorem zi_6 : (Cond.initialized "PausedFabric$Flow" : Cond) ∈ lw_gd := fb_tm (i := 6) (by decide +kernel) (by decide +kernel)
theorem zi_7 : (Cond.initialized "java/lang/Integer" : Cond) ∈ lw_gd := fb_tm (i := 7) (by decide +kernel) (by decide +kernel)
theorem zi_8 : (Cond.initialized "PausedFabric$Frame" : Cond) ∈ lw_gd := fb_tm (i := 8) (by decide +kernel) (by decide +kernel)
theorem zi_9 : (Cond.classLink "PausedFabricLaw" 7 "PausedFabric" : Cond) ∈ lw_gd := fb_tm (i := 9) (by decide +kernel) (by decide +kernel)
theorem zi_10 : (Cond.instantiable "PausedFabric" 11 : Cond) ∈ lw_gd := fb_tm (i := 10) (by decide +kernel) (by decide +kernel)
theorem zi_11 : (Cond.methodLink "PausedFabricLaw" 15 ⟨"PausedFabric", "<init>", "(IIII)V"⟩ : Cond) ∈ lw_gd := fb_tm (i := 11) (by decide +kernel) (by decide +kernel)
theorem zi_12 : (Cond.instanceMethod ⟨"PausedFabric", "<init>", "(IIII)V"⟩ : Cond) ∈ lw_gd := fb_tm (i := 12) (by decide +kernel) (by decide +kernel)
theorem zi_14 : (Cond.methodLink "PausedFabric" 1 ⟨"java/lang/Object", "<init>", "()V"⟩ : Cond) ∈ lw_gd := fb_tm (i := 14) (by decide +kernel) (by decide +kernel)
theorem zi_15 : (Cond.instanceMethod ⟨"java/lang/Object", "<init>", "()V"⟩ : Cond) ∈ lw_gd := fb_tm (i := 15) (by decide +kernel) (by decide +kernel)
theorem zi_17 : (Cond.methodLink "PausedFabric" 13 ⟨"PausedFabric", "makePorts", "()[LPausedFabric$Port;"⟩ : Cond) ∈ lw_gd := fb_tm (i := 17) (by decide +kernel) (by decide +kernel)
theorem zi_18 : (Cond.static ⟨"PausedFabric", "makePorts", "()[LPausedFabric$Port;"⟩ : Cond) ∈ lw_gd := fb_tm (i := 18) (by decide +kernel) (by decide +kernel)
theorem zi_20 : (Cond.classLink "PausedFabric" 107 "PausedFabric$Port" : Cond) ∈ lw_gd := fb_tm (i := 20) (by decide +kernel) (by decide +kernel)
theorem zj_21 : (Cond.arrayOver (.object "PausedFabric$Port") : Cond) ∈ lw_tbl := fb_tb (i := 21) (by decide +kernel)
theorem zi_22 : (Cond.methodLink "PausedFabric" 154 ⟨"PausedFabric", "areLinked", "(II)Z"⟩ : Cond) ∈ lw_gd := fb_tm (i := 22) (by decide +kernel) (by decide +kernel)
theorem zi_23 : (Cond.static ⟨"PausedFabric", "areLinked", "(II)Z"⟩ : Cond) ∈ lw_gd := fb_tm (i := 23) (by decide +kernel) (by decide +kernel)
theorem zi_25 : (Cond.methodLink "PausedFabric" 141 ⟨"java/lang/Math", "min", "(II)I"⟩ : Cond) ∈ lw_gd := fb_tm (i := 25) (by decide +kernel) (by decide +kernel)
theorem zi_26 : (Cond.static ⟨"java/lang/Math", "min", "(II)I"⟩ : Cond) ∈ lw_gd := fb_tm (i := 26) (by decide +kernel) (by decide +kernel)
theorem zi_28 : (Cond.methodLink "PausedFabric" 147 ⟨"java/lang/Math", "max", "(II)I"⟩ : Cond) ∈ lw_gd := fb_tm (i := 28) (by decide +kernel) (by decide +kernel)
theorem zi_29 : (Cond.static ⟨"java/lang/Math", "max", "(II)I"⟩ : Cond) ∈ lw_gd := fb_tm (i := 29) (by decide +kernel) (by decide +kernel)
theorem zi_31 : (Cond.methodLink "PausedFabric" 59 ⟨"PausedFabric", "isHost", "(I)Z"⟩ : Cond) ∈ lw_gd := fb_tm (i := 31) (by decide +kernel) (by decide +kernel)
theorem zi_32 : (Cond.static ⟨"PausedFabric", "isHost", "(I)Z"⟩ : Cond) ∈ lw_gd := fb_tm (i := 32) (by decide +kernel) (by decide +kernel)
theorem zi_34 : (Cond.methodLink "PausedFabric" 150 ⟨"PausedFabric", "leafOf", "(I)I"⟩ : Cond) ∈ lw_gd := fb_tm (i := 34) (by decide +kernel) (by decide +kernel)
theorem zi_35 : (Cond.static ⟨"PausedFabric", "leafOf", "(I)I"⟩ : Cond) ∈ lw_gd := fb_tm (i := 35) (by decide +kernel) (by decide +kernel)
theorem zi_37 : (Cond.instantiable "PausedFabric$Port" 11 : Cond) ∈ lw_gd := fb_tm (i := 37) (by decide +kernel) (by decide +kernel)
theorem zi_38 : (Cond.methodLink "PausedFabric" 158 ⟨"PausedFabric$Port", "<init>", "(II)V"⟩ : Cond) ∈ lw_gd := fb_tm (i := 38) (by decide +kernel) (by decide +kernel)
theorem zi_39 : (Cond.instanceMethod ⟨"PausedFabric$Port", "<init>", "(II)V"⟩ : Cond) ∈ lw_gd := fb_tm (i := 39) (by decide +kernel) (by decide +kernel)
theorem zi_41 : (Cond.methodLink "PausedFabric$Port" 1 ⟨"java/lang/Object", "<init>", "()V"⟩ : Cond) ∈ lw_gd := fb_tm (i := 41) (by decide +kernel) (by decide +kernel)
theorem zi_42 : (Cond.classLink "PausedFabric$Port" 7 "PausedFabric$FrameQueue" : Cond) ∈ lw_gd := fb_tm (i := 42) (by decide +kernel) (by decide +kernel)
theorem zj_43 : (Cond.arrayOver (.object "PausedFabric$FrameQueue") : Cond) ∈ lw_tbl := fb_tb (i := 43) (by decide +kernel)
theorem zi_44 : (Cond.instantiable "PausedFabric$FrameQueue" 3 : Cond) ∈ lw_gd := fb_tm (i := 44) (by decide +kernel) (by decide +kernel)
theorem zj_45 : (Cond.methodLinkNest "PausedFabric$Port" 9 ⟨"PausedFabric$FrameQueue", "<init>", "()V"⟩ "PausedFabric" : Cond) ∈ lw_tbl := fb_tb (i := 45) (by decide +kernel)
theorem zi_46 : (Cond.instanceMethod ⟨"PausedFabric$FrameQueue", "<init>", "()V"⟩ : Cond) ∈ lw_gd := fb_tm (i := 46) (by decide +kernel) (by decide +kernel)
theorem zi_48 : (Cond.methodLink "PausedFabric$FrameQueue" 1 ⟨"java/lang/Object", "<init>", "()V"⟩ : Cond) ∈ lw_gd := fb_tm (i := 48) (by decide +kernel) (by decide +kernel)
theorem zi_49 : (Cond.fieldLink "PausedFabric$FrameQueue" 7 "PausedFabric$FrameQueue" "first" "LPausedFabric$Frame;" : Cond) ∈ lw_gd := fb_tm (i := 49) (by decide +kernel) (by decide +kernel)
theorem zi_50 : (Cond.fieldLink "PausedFabric" 237 "PausedFabric$FrameQueue" "first" "LPausedFabric$Frame;" : Cond) ∈ lw_gd := fb_tm (i := 50) (by decide +kernel) (by decide +kernel)
theorem zi_51 : (Cond.fieldLink "PausedFabric$FrameQueue" 13 "PausedFabric$FrameQueue" "end" "LPausedFabric$Frame;" : Cond) ∈ lw_gd := fb_tm (i := 51) (by decide +kernel) (by decide +kernel)
theorem zi_52 : (Cond.fieldLink "PausedFabric$FrameQueue" 16 "PausedFabric$FrameQueue" "length" "I" : Cond) ∈ lw_gd := fb_tm (i := 52) (by decide +kernel) (by decide +kernel)
theorem zi_53 : (Cond.fieldLink "PausedFabric" 112 "PausedFabric$FrameQueue" "length" "I" : Cond) ∈ lw_gd := fb_tm (i := 53) (by decide +kernel) (by decide +kernel)
theorem zi_54 : (Cond.lays "PausedFabric$FrameQueue" "PausedFabric$FrameQueue" "first" "LPausedFabric$Frame;" : Cond) ∈ lw_gd := fb_tm (i := 54) (by decide +kernel) (by decide +kernel)
theorem zi_56 : (Cond.lays "PausedFabric$FrameQueue" "PausedFabric$FrameQueue" "end" "LPausedFabric$Frame;" : Cond) ∈ lw_gd := fb_tm (i := 56) (by decide +kernel) (by decide +kernel)
theorem zi_58 : (Cond.lays "PausedFabric$FrameQueue" "PausedFabric$FrameQueue" "length" "I" : Cond) ∈ lw_gd := fb_tm (i := 58) (by decide +kernel) (by decide +kernel)
theorem zi_61 : (Cond.arrayClass .int : Cond) ∈ lw_gd := fb_tm (i := 61) (by decide +kernel) (by decide +kernel)
theorem zi_62 : (Cond.fieldLink "PausedFabric$Port" 45 "PausedFabric$Port" "from" "I" : Cond) ∈ lw_gd := fb_tm (i := 62) (by decide +kernel) (by decide +kernel)
theorem zi_63 : (Cond.fieldLink "PausedFabric" 161 "PausedFabric$Port" "from" "I" : Cond) ∈ lw_gd := fb_tm (i := 63) (by decide +kernel) (by decide +kernel)
theorem zi_64 : (Cond.fieldLink "PausedFabric$Port" 48 "PausedFabric$Port" "to" "I" : Cond) ∈ lw_gd := fb_tm (i := 64) (by decide +kernel) (by decide +kernel)
theorem zi_65 : (Cond.fieldLink "PausedFabric" 164 "PausedFabric$Port" "to" "I" : Cond) ∈ lw_gd := fb_tm (i := 65) (by decide +kernel) (by decide +kernel)
theorem zi_66 : (Cond.fieldLink "PausedFabric$Port" 10 "PausedFabric$Port" "queues" "[LPausedFabric$FrameQueue;" : Cond) ∈ lw_gd := fb_tm (i := 66) (by decide +kernel) (by decide +kernel)
theorem zi_67 : (Cond.fieldLink "PausedFabric" 106 "PausedFabric$Port" "queues" "[LPausedFabric$FrameQueue;" : Cond) ∈ lw_gd := fb_tm (i := 67) (by decide +kernel) (by decide +kernel)
theorem zi_68 : (Cond.fieldLink "PausedFabric$Port" 16 "PausedFabric$Port" "credit" "[I" : Cond) ∈ lw_gd := fb_tm (i := 68) (by decide +kernel) (by decide +kernel)
theorem zi_69 : (Cond.fieldLink "PausedFabric" 274 "PausedFabric$Port" "credit" "[I" : Cond) ∈ lw_gd := fb_tm (i := 69) (by decide +kernel) (by decide +kernel)
theorem zi_70 : (Cond.fieldLink "PausedFabric$Port" 20 "PausedFabric$Port" "turn" "I" : Cond) ∈ lw_gd := fb_tm (i := 70) (by decide +kernel) (by decide +kernel)
theorem zi_71 : (Cond.fieldLink "PausedFabric" 267 "PausedFabric$Port" "turn" "I" : Cond) ∈ lw_gd := fb_tm (i := 71) (by decide +kernel) (by decide +kernel)
theorem zi_72 : (Cond.fieldLink "PausedFabric$Port" 24 "PausedFabric$Port" "sending" "LPausedFabric$Frame;" : Cond) ∈ lw_gd := fb_tm (i := 72) (by decide +kernel) (by decide +kernel)
theorem zi_73 : (Cond.fieldLink "PausedFabric" 206 "PausedFabric$Port" "sending" "LPausedFabric$Frame;" : Cond) ∈ lw_gd := fb_tm (i := 73) (by decide +kernel) (by decide +kernel)
theorem zi_74 : (Cond.fieldLink "PausedFabric$Port" 28 "PausedFabric$Port" "wire" "LPausedFabric$FrameQueue;" : Cond) ∈ lw_gd := fb_tm (i := 74) (by decide +kernel) (by decide +kernel)
theorem zi_75 : (Cond.fieldLink "PausedFabric" 213 "PausedFabric$Port" "wire" "LPausedFabric$FrameQueue;" : Cond) ∈ lw_gd := fb_tm (i := 75) (by decide +kernel) (by decide +kernel)
theorem zi_76 : (Cond.fieldLink "PausedFabric$Port" 32 "PausedFabric$Port" "held" "[I" : Cond) ∈ lw_gd := fb_tm (i := 76) (by decide +kernel) (by decide +kernel)
theorem zi_77 : (Cond.fieldLink "PausedFabric" 117 "PausedFabric$Port" "held" "[I" : Cond) ∈ lw_gd := fb_tm (i := 77) (by decide +kernel) (by decide +kernel)
theorem zi_78 : (Cond.fieldLink "PausedFabric$Port" 35 "PausedFabric$Port" "asked" "Z" : Cond) ∈ lw_gd := fb_tm (i := 78) (by decide +kernel) (by decide +kernel)
theorem zi_79 : (Cond.fieldLink "PausedFabric" 120 "PausedFabric$Port" "asked" "Z" : Cond) ∈ lw_gd := fb_tm (i := 79) (by decide +kernel) (by decide +kernel)
theorem zi_80 : (Cond.fieldLink "PausedFabric$Port" 39 "PausedFabric$Port" "askedBefore" "I" : Cond) ∈ lw_gd := fb_tm (i := 80) (by decide +kernel) (by decide +kernel)
theorem zi_81 : (Cond.fieldLink "PausedFabric" 172 "PausedFabric$Port" "askedBefore" "I" : Cond) ∈ lw_gd := fb_tm (i := 81) (by decide +kernel) (by decide +kernel)
theorem zi_82 : (Cond.fieldLink "PausedFabric$Port" 42 "PausedFabric$Port" "paused" "Z" : Cond) ∈ lw_gd := fb_tm (i := 82) (by decide +kernel) (by decide +kernel)
theorem zi_83 : (Cond.fieldLink "PausedFabric" 123 "PausedFabric$Port" "paused" "Z" : Cond) ∈ lw_gd := fb_tm (i := 83) (by decide +kernel) (by decide +kernel)
theorem zi_84 : (Cond.laysFinal "PausedFabric$Port" "PausedFabric$Port" "from" "I" : Cond) ∈ lw_gd := fb_tm (i := 84) (by decide +kernel) (by decide +kernel)
theorem zi_86 : (Cond.laysFinal "PausedFabric$Port" "PausedFabric$Port" "to" "I" : Cond) ∈ lw_gd := fb_tm (i := 86) (by decide +kernel) (by decide +kernel)
theorem zi_88 : (Cond.laysFinal "PausedFabric$Port" "PausedFabric$Port" "queues" "[LPausedFabric$FrameQueue;" : Cond) ∈ lw_gd := fb_tm (i := 88) (by decide +kernel) (by decide +kernel)
theorem zi_90 : (Cond.laysFinal "PausedFabric$Port" "PausedFabric$Port" "credit" "[I" : Cond) ∈ lw_gd := fb_tm (i := 90) (by decide +kernel) (by decide +kernel)
theorem zi_92 : (Cond.lays "PausedFabric$Port" "PausedFabric$Port" "turn" "I" : Cond) ∈ lw_gd := fb_tm (i := 92) (by decide +kernel) (by decide +kernel)
theorem zi_94 : (Cond.lays "PausedFabric$Port" "PausedFabric$Port" "sending" "LPausedFabric$Frame;" : Cond) ∈ lw_gd := fb_tm (i := 94) (by decide +kernel) (by decide +kernel)
theorem zi_96 : (Cond.laysFinal "PausedFabric$Port" "PausedFabric$Port" "wire" "LPausedFabric$FrameQueue;" : Cond) ∈ lw_gd := fb_tm (i := 96) (by decide +kernel) (by decide +kernel)
theorem zi_98 : (Cond.laysFinal "PausedFabric$Port" "PausedFabric$Port" "held" "[I" : Cond) ∈ lw_gd := fb_tm (i := 98) (by decide +kernel) (by decide +kernel)
theorem zi_100 : (Cond.lays "PausedFabric$Port" "PausedFabric$Port" "asked" "Z" : Cond) ∈ lw_gd := fb_tm (i := 100) (by decide +kernel) (by decide +kernel)
theorem zi_102 : (Cond.lays "PausedFabric$Port" "PausedFabric$Port" "askedBefore" "I" : Cond) ∈ lw_gd := fb_tm (i := 102) (by decide +kernel) (by decide +kernel)
theorem zi_104 : (Cond.lays "PausedFabric$Port" "PausedFabric$Port" "paused" "Z" : Cond) ∈ lw_gd := fb_tm (i := 104) (by decide +kernel) (by decide +kernel)
theorem zi_107 : (Cond.classLink "PausedFabric" 21 "PausedFabric$Flow" : Cond) ∈ lw_gd := fb_tm (i := 107) (by decide +kernel) (by decide +kernel)
theorem zj_108 : (Cond.arrayOver (.object "PausedFabric$Flow") : Cond) ∈ lw_tbl := fb_tb (i := 108) (by decide +kernel)
theorem zi_109 : (Cond.classLink "PausedFabric" 27 "PausedFabric$Frame" : Cond) ∈ lw_gd := fb_tm (i := 109) (by decide +kernel) (by decide +kernel)
theorem zj_110 : (Cond.arrayOver (.object "PausedFabric$Frame") : Cond) ∈ lw_tbl := fb_tb (i := 110) (by decide +kernel)
theorem zi_111 : (Cond.methodLink "PausedFabric" 43 ⟨"PausedFabric", "nearest", "(III)I"⟩ : Cond) ∈ lw_gd := fb_tm (i := 111) (by decide +kernel) (by decide +kernel)
theorem zi_112 : (Cond.static ⟨"PausedFabric", "nearest", "(III)I"⟩ : Cond) ∈ lw_gd := fb_tm (i := 112) (by decide +kernel) (by decide +kernel)
theorem zi_114 : (Cond.fieldLink "PausedFabric" 47 "PausedFabric" "delay" "I" : Cond) ∈ lw_gd := fb_tm (i := 114) (by decide +kernel) (by decide +kernel)
theorem zi_115 : (Cond.fieldLink "PausedFabric" 50 "PausedFabric" "xoff" "I" : Cond) ∈ lw_gd := fb_tm (i := 115) (by decide +kernel) (by decide +kernel)
theorem zi_116 : (Cond.fieldLink "PausedFabric" 53 "PausedFabric" "room" "I" : Cond) ∈ lw_gd := fb_tm (i := 116) (by decide +kernel) (by decide +kernel)
theorem zi_117 : (Cond.fieldLink "PausedFabric" 56 "PausedFabric" "mark" "I" : Cond) ∈ lw_gd := fb_tm (i := 117) (by decide +kernel) (by decide +kernel)
theorem zi_118 : (Cond.fieldLink "PausedFabric" 7 "PausedFabric" "quantum" "[I" : Cond) ∈ lw_gd := fb_tm (i := 118) (by decide +kernel) (by decide +kernel)
theorem zi_119 : (Cond.fieldLink "PausedFabric" 17 "PausedFabric" "ports" "[LPausedFabric$Port;" : Cond) ∈ lw_gd := fb_tm (i := 119) (by decide +kernel) (by decide +kernel)
theorem zi_120 : (Cond.fieldLink "PausedFabric" 23 "PausedFabric" "flows" "[LPausedFabric$Flow;" : Cond) ∈ lw_gd := fb_tm (i := 120) (by decide +kernel) (by decide +kernel)
theorem zi_121 : (Cond.fieldLink "PausedFabric" 29 "PausedFabric" "frames" "[LPausedFabric$Frame;" : Cond) ∈ lw_gd := fb_tm (i := 121) (by decide +kernel) (by decide +kernel)
theorem zi_122 : (Cond.fieldLink "PausedFabric" 33 "PausedFabric" "flowCount" "I" : Cond) ∈ lw_gd := fb_tm (i := 122) (by decide +kernel) (by decide +kernel)
theorem zi_123 : (Cond.fieldLink "PausedFabric" 37 "PausedFabric" "frameCount" "I" : Cond) ∈ lw_gd := fb_tm (i := 123) (by decide +kernel) (by decide +kernel)
theorem zi_124 : (Cond.fieldLink "PausedFabric" 40 "PausedFabric" "time" "I" : Cond) ∈ lw_gd := fb_tm (i := 124) (by decide +kernel) (by decide +kernel)
theorem zi_125 : (Cond.laysFinal "PausedFabric" "PausedFabric" "delay" "I" : Cond) ∈ lw_gd := fb_tm (i := 125) (by decide +kernel) (by decide +kernel)
theorem zi_127 : (Cond.laysFinal "PausedFabric" "PausedFabric" "xoff" "I" : Cond) ∈ lw_gd := fb_tm (i := 127) (by decide +kernel) (by decide +kernel)
theorem zi_129 : (Cond.laysFinal "PausedFabric" "PausedFabric" "room" "I" : Cond) ∈ lw_gd := fb_tm (i := 129) (by decide +kernel) (by decide +kernel)
theorem zi_131 : (Cond.laysFinal "PausedFabric" "PausedFabric" "mark" "I" : Cond) ∈ lw_gd := fb_tm (i := 131) (by decide +kernel) (by decide +kernel)
theorem zi_133 : (Cond.laysFinal "PausedFabric" "PausedFabric" "quantum" "[I" : Cond) ∈ lw_gd := fb_tm (i := 133) (by decide +kernel) (by decide +kernel)
theorem zi_135 : (Cond.laysFinal "PausedFabric" "PausedFabric" "ports" "[LPausedFabric$Port;" : Cond) ∈ lw_gd := fb_tm (i := 135) (by decide +kernel) (by decide +kernel)
theorem zi_137 : (Cond.laysFinal "PausedFabric" "PausedFabric" "flows" "[LPausedFabric$Flow;" : Cond) ∈ lw_gd := fb_tm (i := 137) (by decide +kernel) (by decide +kernel)
theorem zi_139 : (Cond.laysFinal "PausedFabric" "PausedFabric" "frames" "[LPausedFabric$Frame;" : Cond) ∈ lw_gd := fb_tm (i := 139) (by decide +kernel) (by decide +kernel)
theorem zi_141 : (Cond.lays "PausedFabric" "PausedFabric" "flowCount" "I" : Cond) ∈ lw_gd := fb_tm (i := 141) (by decide +kernel) (by decide +kernel)
theorem zi_143 : (Cond.lays "PausedFabric" "PausedFabric" "frameCount" "I" : Cond) ∈ lw_gd := fb_tm (i := 143) (by decide +kernel) (by decide +kernel)
theorem zi_145 : (Cond.lays "PausedFabric" "PausedFabric" "time" "I" : Cond) ∈ lw_gd := fb_tm (i := 145) (by decide +kernel) (by decide +kernel)
theorem zi_148 : (Cond.methodLink "PausedFabricLaw" 21 ⟨"PausedFabric", "flow", "(III)I"⟩ : Cond) ∈ lw_gd := fb_tm (i := 148) (by decide +kernel) (by decide +kernel)
theorem zi_149 : (Cond.instanceMethod ⟨"PausedFabric", "flow", "(III)I"⟩ : Cond) ∈ lw_gd := fb_tm (i := 149) (by decide +kernel) (by decide +kernel)
theorem zi_150 : (Cond.selects "PausedFabric" ⟨"PausedFabric", "flow", "(III)I"⟩ ⟨"PausedFabric", "flow", "(III)I"⟩ : Cond) ∈ lw_gd := fb_tm (i := 150) (by decide +kernel) (by decide +kernel)
theorem zi_152 : (Cond.methodLink "PausedFabric" 63 ⟨"PausedFabric", "isPriority", "(I)Z"⟩ : Cond) ∈ lw_gd := fb_tm (i := 152) (by decide +kernel) (by decide +kernel)
theorem zi_153 : (Cond.static ⟨"PausedFabric", "isPriority", "(I)Z"⟩ : Cond) ∈ lw_gd := fb_tm (i := 153) (by decide +kernel) (by decide +kernel)
theorem zi_155 : (Cond.instantiable "PausedFabric$Flow" 12 : Cond) ∈ lw_gd := fb_tm (i := 155) (by decide +kernel) (by decide +kernel)
theorem zi_156 : (Cond.methodLink "PausedFabric" 66 ⟨"PausedFabric", "routeOf", "(III)[LPausedFabric$Port;"⟩ : Cond) ∈ lw_gd := fb_tm (i := 156) (by decide +kernel) (by decide +kernel)
theorem zi_158 : (Cond.instanceMethod ⟨"PausedFabric", "routeOf", "(III)[LPausedFabric$Port;"⟩ : Cond) ∈ lw_gd := fb_tm (i := 158) (by decide +kernel) (by decide +kernel)
theorem zi_160 : (Cond.methodLink "PausedFabric" 102 ⟨"PausedFabric", "portBetween", "(II)LPausedFabric$Port;"⟩ : Cond) ∈ lw_gd := fb_tm (i := 160) (by decide +kernel) (by decide +kernel)
theorem zi_162 : (Cond.instanceMethod ⟨"PausedFabric", "portBetween", "(II)LPausedFabric$Port;"⟩ : Cond) ∈ lw_gd := fb_tm (i := 162) (by decide +kernel) (by decide +kernel)
theorem zi_164 : (Cond.methodLink "PausedFabric" 167 ⟨"java/lang/Integer", "bitCount", "(I)I"⟩ : Cond) ∈ lw_gd := fb_tm (i := 164) (by decide +kernel) (by decide +kernel)
theorem zi_165 : (Cond.static ⟨"java/lang/Integer", "bitCount", "(I)I"⟩ : Cond) ∈ lw_gd := fb_tm (i := 165) (by decide +kernel) (by decide +kernel)
theorem zi_167 : (Cond.constant "java/lang/Integer" 265 (1431655765 : Int32) : Cond) ∈ lw_gd := fb_tm (i := 167) (by decide +kernel) (by decide +kernel)
theorem zi_168 : (Cond.constant "java/lang/Integer" 266 (858993459 : Int32) : Cond) ∈ lw_gd := fb_tm (i := 168) (by decide +kernel) (by decide +kernel)
theorem zi_169 : (Cond.constant "java/lang/Integer" 267 (252645135 : Int32) : Cond) ∈ lw_gd := fb_tm (i := 169) (by decide +kernel) (by decide +kernel)
theorem zi_170 : (Cond.methodLink "PausedFabric" 70 ⟨"PausedFabric$Flow", "<init>", "(I[LPausedFabric$Port;)V"⟩ : Cond) ∈ lw_gd := fb_tm (i := 170) (by decide +kernel) (by decide +kernel)
theorem zi_171 : (Cond.instanceMethod ⟨"PausedFabric$Flow", "<init>", "(I[LPausedFabric$Port;)V"⟩ : Cond) ∈ lw_gd := fb_tm (i := 171) (by decide +kernel) (by decide +kernel)
theorem zi_173 : (Cond.methodLink "PausedFabric$Flow" 3 ⟨"java/lang/Object", "<init>", "()V"⟩ : Cond) ∈ lw_gd := fb_tm (i := 173) (by decide +kernel) (by decide +kernel)
theorem zi_174 : (Cond.fieldLink "PausedFabric$Flow" 43 "PausedFabric$Flow" "priority" "I" : Cond) ∈ lw_gd := fb_tm (i := 174) (by decide +kernel) (by decide +kernel)
theorem zi_175 : (Cond.fieldLink "PausedFabric" 233 "PausedFabric$Flow" "priority" "I" : Cond) ∈ lw_gd := fb_tm (i := 175) (by decide +kernel) (by decide +kernel)
theorem zi_176 : (Cond.fieldLink "PausedFabric$Flow" 46 "PausedFabric$Flow" "route" "[LPausedFabric$Port;" : Cond) ∈ lw_gd := fb_tm (i := 176) (by decide +kernel) (by decide +kernel)
theorem zi_177 : (Cond.fieldLink "PausedFabric$Flow" 9 "PausedFabric$Flow" "rate" "I" : Cond) ∈ lw_gd := fb_tm (i := 177) (by decide +kernel) (by decide +kernel)
theorem zi_178 : (Cond.fieldLink "PausedFabric" 126 "PausedFabric$Flow" "rate" "I" : Cond) ∈ lw_gd := fb_tm (i := 178) (by decide +kernel) (by decide +kernel)
theorem zi_179 : (Cond.fieldLink "PausedFabric$Flow" 15 "PausedFabric$Flow" "target" "I" : Cond) ∈ lw_gd := fb_tm (i := 179) (by decide +kernel) (by decide +kernel)
theorem zi_180 : (Cond.fieldLink "PausedFabric$Flow" 18 "PausedFabric$Flow" "alpha" "I" : Cond) ∈ lw_gd := fb_tm (i := 180) (by decide +kernel) (by decide +kernel)
theorem zi_181 : (Cond.fieldLink "PausedFabric" 129 "PausedFabric$Flow" "alpha" "I" : Cond) ∈ lw_gd := fb_tm (i := 181) (by decide +kernel) (by decide +kernel)
theorem zi_182 : (Cond.fieldLink "PausedFabric$Flow" 21 "PausedFabric$Flow" "calm" "I" : Cond) ∈ lw_gd := fb_tm (i := 182) (by decide +kernel) (by decide +kernel)
theorem zi_183 : (Cond.fieldLink "PausedFabric$Flow" 24 "PausedFabric$Flow" "waitsUntil" "I" : Cond) ∈ lw_gd := fb_tm (i := 183) (by decide +kernel) (by decide +kernel)
theorem zi_184 : (Cond.fieldLink "PausedFabric" 280 "PausedFabric$Flow" "waitsUntil" "I" : Cond) ∈ lw_gd := fb_tm (i := 184) (by decide +kernel) (by decide +kernel)
theorem zi_185 : (Cond.fieldLink "PausedFabric$Flow" 27 "PausedFabric$Flow" "markedNow" "Z" : Cond) ∈ lw_gd := fb_tm (i := 185) (by decide +kernel) (by decide +kernel)
theorem zi_186 : (Cond.fieldLink "PausedFabric" 203 "PausedFabric$Flow" "markedNow" "Z" : Cond) ∈ lw_gd := fb_tm (i := 186) (by decide +kernel) (by decide +kernel)
theorem zi_187 : (Cond.fieldLink "PausedFabric$Flow" 31 "PausedFabric$Flow" "markedBefore" "I" : Cond) ∈ lw_gd := fb_tm (i := 187) (by decide +kernel) (by decide +kernel)
theorem zi_188 : (Cond.fieldLink "PausedFabric" 182 "PausedFabric$Flow" "markedBefore" "I" : Cond) ∈ lw_gd := fb_tm (i := 188) (by decide +kernel) (by decide +kernel)
theorem zi_189 : (Cond.fieldLink "PausedFabric$Flow" 34 "PausedFabric$Flow" "received" "I" : Cond) ∈ lw_gd := fb_tm (i := 189) (by decide +kernel) (by decide +kernel)
theorem zi_190 : (Cond.fieldLink "PausedFabric" 132 "PausedFabric$Flow" "received" "I" : Cond) ∈ lw_gd := fb_tm (i := 190) (by decide +kernel) (by decide +kernel)
theorem zi_191 : (Cond.fieldLink "PausedFabric$Flow" 37 "PausedFabric$Flow" "dropped" "I" : Cond) ∈ lw_gd := fb_tm (i := 191) (by decide +kernel) (by decide +kernel)
theorem zi_192 : (Cond.fieldLink "PausedFabric" 135 "PausedFabric$Flow" "dropped" "I" : Cond) ∈ lw_gd := fb_tm (i := 192) (by decide +kernel) (by decide +kernel)
theorem zi_193 : (Cond.fieldLink "PausedFabric$Flow" 40 "PausedFabric$Flow" "last" "I" : Cond) ∈ lw_gd := fb_tm (i := 193) (by decide +kernel) (by decide +kernel)
theorem zi_194 : (Cond.fieldLink "PausedFabric" 138 "PausedFabric$Flow" "last" "I" : Cond) ∈ lw_gd := fb_tm (i := 194) (by decide +kernel) (by decide +kernel)
theorem zi_195 : (Cond.laysFinal "PausedFabric$Flow" "PausedFabric$Flow" "priority" "I" : Cond) ∈ lw_gd := fb_tm (i := 195) (by decide +kernel) (by decide +kernel)
theorem zi_197 : (Cond.laysFinal "PausedFabric$Flow" "PausedFabric$Flow" "route" "[LPausedFabric$Port;" : Cond) ∈ lw_gd := fb_tm (i := 197) (by decide +kernel) (by decide +kernel)
theorem zi_199 : (Cond.lays "PausedFabric$Flow" "PausedFabric$Flow" "rate" "I" : Cond) ∈ lw_gd := fb_tm (i := 199) (by decide +kernel) (by decide +kernel)
theorem zi_201 : (Cond.lays "PausedFabric$Flow" "PausedFabric$Flow" "target" "I" : Cond) ∈ lw_gd := fb_tm (i := 201) (by decide +kernel) (by decide +kernel)
theorem zi_203 : (Cond.lays "PausedFabric$Flow" "PausedFabric$Flow" "alpha" "I" : Cond) ∈ lw_gd := fb_tm (i := 203) (by decide +kernel) (by decide +kernel)
theorem zi_205 : (Cond.lays "PausedFabric$Flow" "PausedFabric$Flow" "calm" "I" : Cond) ∈ lw_gd := fb_tm (i := 205) (by decide +kernel) (by decide +kernel)
theorem zi_207 : (Cond.lays "PausedFabric$Flow" "PausedFabric$Flow" "waitsUntil" "I" : Cond) ∈ lw_gd := fb_tm (i := 207) (by decide +kernel) (by decide +kernel)
theorem zi_209 : (Cond.lays "PausedFabric$Flow" "PausedFabric$Flow" "markedNow" "Z" : Cond) ∈ lw_gd := fb_tm (i := 209) (by decide +kernel) (by decide +kernel)
theorem zi_211 : (Cond.lays "PausedFabric$Flow" "PausedFabric$Flow" "markedBefore" "I" : Cond) ∈ lw_gd := fb_tm (i := 211) (by decide +kernel) (by decide +kernel)
theorem zi_213 : (Cond.lays "PausedFabric$Flow" "PausedFabric$Flow" "received" "I" : Cond) ∈ lw_gd := fb_tm (i := 213) (by decide +kernel) (by decide +kernel)
theorem zi_215 : (Cond.lays "PausedFabric$Flow" "PausedFabric$Flow" "dropped" "I" : Cond) ∈ lw_gd := fb_tm (i := 215) (by decide +kernel) (by decide +kernel)
theorem zi_217 : (Cond.lays "PausedFabric$Flow" "PausedFabric$Flow" "last" "I" : Cond) ∈ lw_gd := fb_tm (i := 217) (by decide +kernel) (by decide +kernel)
theorem zi_220 : (Cond.methodLink "PausedFabricLaw" 26 ⟨"PausedFabric", "share", "(II)Z"⟩ : Cond) ∈ lw_gd := fb_tm (i := 220) (by decide +kernel) (by decide +kernel)
theorem zi_221 : (Cond.instanceMethod ⟨"PausedFabric", "share", "(II)Z"⟩ : Cond) ∈ lw_gd := fb_tm (i := 221) (by decide +kernel) (by decide +kernel)
theorem zi_222 : (Cond.selects "PausedFabric" ⟨"PausedFabric", "share", "(II)Z"⟩ ⟨"PausedFabric", "share", "(II)Z"⟩ : Cond) ∈ lw_gd := fb_tm (i := 222) (by decide +kernel) (by decide +kernel)
theorem zi_224 : (Cond.methodLink "PausedFabricLaw" 31 ⟨"PausedFabric", "inject", "(II)I"⟩ : Cond) ∈ lw_gd := fb_tm (i := 224) (by decide +kernel) (by decide +kernel)
theorem zi_225 : (Cond.instanceMethod ⟨"PausedFabric", "inject", "(II)I"⟩ : Cond) ∈ lw_gd := fb_tm (i := 225) (by decide +kernel) (by decide +kernel)
theorem zi_226 : (Cond.selects "PausedFabric" ⟨"PausedFabric", "inject", "(II)I"⟩ ⟨"PausedFabric", "inject", "(II)I"⟩ : Cond) ∈ lw_gd := fb_tm (i := 226) (by decide +kernel) (by decide +kernel)
theorem zi_228 : (Cond.methodLink "PausedFabric" 73 ⟨"PausedFabric", "flowAt", "(I)LPausedFabric$Flow;"⟩ : Cond) ∈ lw_gd := fb_tm (i := 228) (by decide +kernel) (by decide +kernel)
theorem zi_230 : (Cond.instanceMethod ⟨"PausedFabric", "flowAt", "(I)LPausedFabric$Flow;"⟩ : Cond) ∈ lw_gd := fb_tm (i := 230) (by decide +kernel) (by decide +kernel)
theorem zi_232 : (Cond.instantiable "PausedFabric$Frame" 10 : Cond) ∈ lw_gd := fb_tm (i := 232) (by decide +kernel) (by decide +kernel)
theorem zi_233 : (Cond.methodLink "PausedFabric" 77 ⟨"PausedFabric$Frame", "<init>", "(ILPausedFabric$Flow;I)V"⟩ : Cond) ∈ lw_gd := fb_tm (i := 233) (by decide +kernel) (by decide +kernel)
theorem zi_234 : (Cond.instanceMethod ⟨"PausedFabric$Frame", "<init>", "(ILPausedFabric$Flow;I)V"⟩ : Cond) ∈ lw_gd := fb_tm (i := 234) (by decide +kernel) (by decide +kernel)
theorem zi_236 : (Cond.methodLink "PausedFabric$Frame" 3 ⟨"java/lang/Object", "<init>", "()V"⟩ : Cond) ∈ lw_gd := fb_tm (i := 236) (by decide +kernel) (by decide +kernel)
theorem zi_237 : (Cond.fieldLink "PausedFabric$Frame" 36 "PausedFabric$Frame" "number" "I" : Cond) ∈ lw_gd := fb_tm (i := 237) (by decide +kernel) (by decide +kernel)
theorem zi_238 : (Cond.fieldLink "PausedFabric" 257 "PausedFabric$Frame" "number" "I" : Cond) ∈ lw_gd := fb_tm (i := 238) (by decide +kernel) (by decide +kernel)
theorem zi_239 : (Cond.fieldLink "PausedFabric$Frame" 39 "PausedFabric$Frame" "flow" "LPausedFabric$Flow;" : Cond) ∈ lw_gd := fb_tm (i := 239) (by decide +kernel) (by decide +kernel)
theorem zi_240 : (Cond.fieldLink "PausedFabric" 229 "PausedFabric$Frame" "flow" "LPausedFabric$Flow;" : Cond) ∈ lw_gd := fb_tm (i := 240) (by decide +kernel) (by decide +kernel)
theorem zi_241 : (Cond.fieldLink "PausedFabric$Frame" 43 "PausedFabric$Frame" "length" "I" : Cond) ∈ lw_gd := fb_tm (i := 241) (by decide +kernel) (by decide +kernel)
theorem zi_242 : (Cond.fieldLink "PausedFabric$FrameQueue" 25 "PausedFabric$Frame" "length" "I" : Cond) ∈ lw_gd := fb_tm (i := 242) (by decide +kernel) (by decide +kernel)
theorem zi_243 : (Cond.fieldLink "PausedFabric" 236 "PausedFabric$Frame" "length" "I" : Cond) ∈ lw_gd := fb_tm (i := 243) (by decide +kernel) (by decide +kernel)
theorem zi_244 : (Cond.fieldLink "PausedFabric$Frame" 9 "PausedFabric$Frame" "state" "I" : Cond) ∈ lw_gd := fb_tm (i := 244) (by decide +kernel) (by decide +kernel)
theorem zi_245 : (Cond.fieldLink "PausedFabric" 92 "PausedFabric$Frame" "state" "I" : Cond) ∈ lw_gd := fb_tm (i := 245) (by decide +kernel) (by decide +kernel)
theorem zi_246 : (Cond.fieldLink "PausedFabric$Frame" 15 "PausedFabric$Frame" "node" "I" : Cond) ∈ lw_gd := fb_tm (i := 246) (by decide +kernel) (by decide +kernel)
theorem zi_247 : (Cond.fieldLink "PausedFabric" 95 "PausedFabric$Frame" "node" "I" : Cond) ∈ lw_gd := fb_tm (i := 247) (by decide +kernel) (by decide +kernel)
theorem zi_248 : (Cond.fieldLink "PausedFabric$Frame" 18 "PausedFabric$Frame" "marked" "Z" : Cond) ∈ lw_gd := fb_tm (i := 248) (by decide +kernel) (by decide +kernel)
theorem zi_249 : (Cond.fieldLink "PausedFabric" 98 "PausedFabric$Frame" "marked" "Z" : Cond) ∈ lw_gd := fb_tm (i := 249) (by decide +kernel) (by decide +kernel)
theorem zi_250 : (Cond.fieldLink "PausedFabric$Frame" 22 "PausedFabric$Frame" "hop" "I" : Cond) ∈ lw_gd := fb_tm (i := 250) (by decide +kernel) (by decide +kernel)
theorem zi_251 : (Cond.fieldLink "PausedFabric" 260 "PausedFabric$Frame" "hop" "I" : Cond) ∈ lw_gd := fb_tm (i := 251) (by decide +kernel) (by decide +kernel)
theorem zi_252 : (Cond.fieldLink "PausedFabric$Frame" 25 "PausedFabric$Frame" "cameBy" "LPausedFabric$Port;" : Cond) ∈ lw_gd := fb_tm (i := 252) (by decide +kernel) (by decide +kernel)
theorem zi_253 : (Cond.fieldLink "PausedFabric" 221 "PausedFabric$Frame" "cameBy" "LPausedFabric$Port;" : Cond) ∈ lw_gd := fb_tm (i := 253) (by decide +kernel) (by decide +kernel)
theorem zi_254 : (Cond.fieldLink "PausedFabric$Frame" 29 "PausedFabric$Frame" "due" "I" : Cond) ∈ lw_gd := fb_tm (i := 254) (by decide +kernel) (by decide +kernel)
theorem zi_255 : (Cond.fieldLink "PausedFabric" 210 "PausedFabric$Frame" "due" "I" : Cond) ∈ lw_gd := fb_tm (i := 255) (by decide +kernel) (by decide +kernel)
theorem zi_256 : (Cond.fieldLink "PausedFabric$Frame" 32 "PausedFabric$Frame" "next" "LPausedFabric$Frame;" : Cond) ∈ lw_gd := fb_tm (i := 256) (by decide +kernel) (by decide +kernel)
theorem zi_257 : (Cond.fieldLink "PausedFabric$FrameQueue" 20 "PausedFabric$Frame" "next" "LPausedFabric$Frame;" : Cond) ∈ lw_gd := fb_tm (i := 257) (by decide +kernel) (by decide +kernel)
theorem zi_258 : (Cond.laysFinal "PausedFabric$Frame" "PausedFabric$Frame" "number" "I" : Cond) ∈ lw_gd := fb_tm (i := 258) (by decide +kernel) (by decide +kernel)
theorem zi_260 : (Cond.laysFinal "PausedFabric$Frame" "PausedFabric$Frame" "flow" "LPausedFabric$Flow;" : Cond) ∈ lw_gd := fb_tm (i := 260) (by decide +kernel) (by decide +kernel)
theorem zi_262 : (Cond.laysFinal "PausedFabric$Frame" "PausedFabric$Frame" "length" "I" : Cond) ∈ lw_gd := fb_tm (i := 262) (by decide +kernel) (by decide +kernel)
theorem zi_264 : (Cond.lays "PausedFabric$Frame" "PausedFabric$Frame" "state" "I" : Cond) ∈ lw_gd := fb_tm (i := 264) (by decide +kernel) (by decide +kernel)
theorem zi_266 : (Cond.lays "PausedFabric$Frame" "PausedFabric$Frame" "node" "I" : Cond) ∈ lw_gd := fb_tm (i := 266) (by decide +kernel) (by decide +kernel)
theorem zi_268 : (Cond.lays "PausedFabric$Frame" "PausedFabric$Frame" "marked" "Z" : Cond) ∈ lw_gd := fb_tm (i := 268) (by decide +kernel) (by decide +kernel)
theorem zi_270 : (Cond.lays "PausedFabric$Frame" "PausedFabric$Frame" "hop" "I" : Cond) ∈ lw_gd := fb_tm (i := 270) (by decide +kernel) (by decide +kernel)
theorem zi_272 : (Cond.lays "PausedFabric$Frame" "PausedFabric$Frame" "cameBy" "LPausedFabric$Port;" : Cond) ∈ lw_gd := fb_tm (i := 272) (by decide +kernel) (by decide +kernel)
theorem zi_274 : (Cond.lays "PausedFabric$Frame" "PausedFabric$Frame" "due" "I" : Cond) ∈ lw_gd := fb_tm (i := 274) (by decide +kernel) (by decide +kernel)
theorem zi_276 : (Cond.lays "PausedFabric$Frame" "PausedFabric$Frame" "next" "LPausedFabric$Frame;" : Cond) ∈ lw_gd := fb_tm (i := 276) (by decide +kernel) (by decide +kernel)
theorem zi_279 : (Cond.methodLink "PausedFabric" 80 ⟨"PausedFabric", "enqueue", "(LPausedFabric$Frame;)I"⟩ : Cond) ∈ lw_gd := fb_tm (i := 279) (by decide +kernel) (by decide +kernel)
theorem zi_280 : (Cond.static ⟨"PausedFabric", "enqueue", "(LPausedFabric$Frame;)I"⟩ : Cond) ∈ lw_gd := fb_tm (i := 280) (by decide +kernel) (by decide +kernel)
theorem zi_282 : (Cond.methodLink "PausedFabric" 263 ⟨"PausedFabric$Flow", "portAt", "(I)LPausedFabric$Port;"⟩ : Cond) ∈ lw_gd := fb_tm (i := 282) (by decide +kernel) (by decide +kernel)
theorem zi_283 : (Cond.instanceMethod ⟨"PausedFabric$Flow", "portAt", "(I)LPausedFabric$Port;"⟩ : Cond) ∈ lw_gd := fb_tm (i := 283) (by decide +kernel) (by decide +kernel)
theorem zi_284 : (Cond.selects "PausedFabric$Flow" ⟨"PausedFabric$Flow", "portAt", "(I)LPausedFabric$Port;"⟩ ⟨"PausedFabric$Flow", "portAt", "(I)LPausedFabric$Port;"⟩ : Cond) ∈ lw_gd := fb_tm (i := 284) (by decide +kernel) (by decide +kernel)
theorem zi_286 : (Cond.methodLink "PausedFabric" 217 ⟨"PausedFabric$FrameQueue", "add", "(LPausedFabric$Frame;)V"⟩ : Cond) ∈ lw_gd := fb_tm (i := 286) (by decide +kernel) (by decide +kernel)
theorem zi_287 : (Cond.instanceMethod ⟨"PausedFabric$FrameQueue", "add", "(LPausedFabric$Frame;)V"⟩ : Cond) ∈ lw_gd := fb_tm (i := 287) (by decide +kernel) (by decide +kernel)
theorem zi_288 : (Cond.selects "PausedFabric$FrameQueue" ⟨"PausedFabric$FrameQueue", "add", "(LPausedFabric$Frame;)V"⟩ ⟨"PausedFabric$FrameQueue", "add", "(LPausedFabric$Frame;)V"⟩ : Cond) ∈ lw_gd := fb_tm (i := 288) (by decide +kernel) (by decide +kernel)
theorem zi_290 : (Cond.methodLink "PausedFabricLaw" 36 ⟨"PausedFabric", "tick", "(I)I"⟩ : Cond) ∈ lw_gd := fb_tm (i := 290) (by decide +kernel) (by decide +kernel)
theorem zi_291 : (Cond.instanceMethod ⟨"PausedFabric", "tick", "(I)I"⟩ : Cond) ∈ lw_gd := fb_tm (i := 291) (by decide +kernel) (by decide +kernel)
theorem zi_292 : (Cond.selects "PausedFabric" ⟨"PausedFabric", "tick", "(I)I"⟩ ⟨"PausedFabric", "tick", "(I)I"⟩ : Cond) ∈ lw_gd := fb_tm (i := 292) (by decide +kernel) (by decide +kernel)
theorem zi_294 : (Cond.methodLink "PausedFabric" 84 ⟨"PausedFabric", "makeTick", "()I"⟩ : Cond) ∈ lw_gd := fb_tm (i := 294) (by decide +kernel) (by decide +kernel)
theorem zi_296 : (Cond.instanceMethod ⟨"PausedFabric", "makeTick", "()I"⟩ : Cond) ∈ lw_gd := fb_tm (i := 296) (by decide +kernel) (by decide +kernel)
theorem zi_298 : (Cond.methodLink "PausedFabric" 175 ⟨"PausedFabric", "wasSo", "(I)Z"⟩ : Cond) ∈ lw_gd := fb_tm (i := 298) (by decide +kernel) (by decide +kernel)
theorem zi_300 : (Cond.instanceMethod ⟨"PausedFabric", "wasSo", "(I)Z"⟩ : Cond) ∈ lw_gd := fb_tm (i := 300) (by decide +kernel) (by decide +kernel)
theorem zi_302 : (Cond.methodLink "PausedFabric" 178 ⟨"PausedFabric", "endSending", "(LPausedFabric$Port;)V"⟩ : Cond) ∈ lw_gd := fb_tm (i := 302) (by decide +kernel) (by decide +kernel)
theorem zi_304 : (Cond.instanceMethod ⟨"PausedFabric", "endSending", "(LPausedFabric$Port;)V"⟩ : Cond) ∈ lw_gd := fb_tm (i := 304) (by decide +kernel) (by decide +kernel)
theorem zi_306 : (Cond.methodLink "PausedFabric" 225 ⟨"PausedFabric", "release", "(LPausedFabric$Frame;LPausedFabric$Port;)V"⟩ : Cond) ∈ lw_gd := fb_tm (i := 306) (by decide +kernel) (by decide +kernel)
theorem zi_308 : (Cond.instanceMethod ⟨"PausedFabric", "release", "(LPausedFabric$Frame;LPausedFabric$Port;)V"⟩ : Cond) ∈ lw_gd := fb_tm (i := 308) (by decide +kernel) (by decide +kernel)
theorem zi_310 : (Cond.methodLink "PausedFabric" 185 ⟨"PausedFabric$Flow", "adjustRate", "(Z)V"⟩ : Cond) ∈ lw_gd := fb_tm (i := 310) (by decide +kernel) (by decide +kernel)
theorem zi_311 : (Cond.instanceMethod ⟨"PausedFabric$Flow", "adjustRate", "(Z)V"⟩ : Cond) ∈ lw_gd := fb_tm (i := 311) (by decide +kernel) (by decide +kernel)
theorem zi_312 : (Cond.selects "PausedFabric$Flow" ⟨"PausedFabric$Flow", "adjustRate", "(Z)V"⟩ ⟨"PausedFabric$Flow", "adjustRate", "(Z)V"⟩ : Cond) ∈ lw_gd := fb_tm (i := 312) (by decide +kernel) (by decide +kernel)
theorem zi_314 : (Cond.methodLink "PausedFabric$Flow" 50 ⟨"PausedFabric$Flow", "slowDown", "()V"⟩ : Cond) ∈ lw_gd := fb_tm (i := 314) (by decide +kernel) (by decide +kernel)
theorem zi_315 : (Cond.instanceMethod ⟨"PausedFabric$Flow", "slowDown", "()V"⟩ : Cond) ∈ lw_gd := fb_tm (i := 315) (by decide +kernel) (by decide +kernel)
theorem zi_316 : (Cond.selects "PausedFabric$Flow" ⟨"PausedFabric$Flow", "slowDown", "()V"⟩ ⟨"PausedFabric$Flow", "slowDown", "()V"⟩ : Cond) ∈ lw_gd := fb_tm (i := 316) (by decide +kernel) (by decide +kernel)
theorem zi_318 : (Cond.methodLink "PausedFabric$Flow" 56 ⟨"java/lang/Math", "max", "(II)I"⟩ : Cond) ∈ lw_gd := fb_tm (i := 318) (by decide +kernel) (by decide +kernel)
theorem zi_319 : (Cond.methodLink "PausedFabric$Flow" 53 ⟨"PausedFabric$Flow", "recover", "()V"⟩ : Cond) ∈ lw_gd := fb_tm (i := 319) (by decide +kernel) (by decide +kernel)
theorem zi_320 : (Cond.instanceMethod ⟨"PausedFabric$Flow", "recover", "()V"⟩ : Cond) ∈ lw_gd := fb_tm (i := 320) (by decide +kernel) (by decide +kernel)
theorem zi_321 : (Cond.selects "PausedFabric$Flow" ⟨"PausedFabric$Flow", "recover", "()V"⟩ ⟨"PausedFabric$Flow", "recover", "()V"⟩ : Cond) ∈ lw_gd := fb_tm (i := 321) (by decide +kernel) (by decide +kernel)
theorem zi_323 : (Cond.methodLink "PausedFabric" 189 ⟨"PausedFabric", "deliver", "(LPausedFabric$Port;)I"⟩ : Cond) ∈ lw_gd := fb_tm (i := 323) (by decide +kernel) (by decide +kernel)
theorem zi_325 : (Cond.instanceMethod ⟨"PausedFabric", "deliver", "(LPausedFabric$Port;)I"⟩ : Cond) ∈ lw_gd := fb_tm (i := 325) (by decide +kernel) (by decide +kernel)
theorem zi_327 : (Cond.methodLink "PausedFabric" 240 ⟨"PausedFabric$FrameQueue", "removeFirst", "()V"⟩ : Cond) ∈ lw_gd := fb_tm (i := 327) (by decide +kernel) (by decide +kernel)
theorem zi_328 : (Cond.instanceMethod ⟨"PausedFabric$FrameQueue", "removeFirst", "()V"⟩ : Cond) ∈ lw_gd := fb_tm (i := 328) (by decide +kernel) (by decide +kernel)
theorem zi_329 : (Cond.selects "PausedFabric$FrameQueue" ⟨"PausedFabric$FrameQueue", "removeFirst", "()V"⟩ ⟨"PausedFabric$FrameQueue", "removeFirst", "()V"⟩ : Cond) ∈ lw_gd := fb_tm (i := 329) (by decide +kernel) (by decide +kernel)
theorem zi_331 : (Cond.methodLink "PausedFabric" 243 ⟨"PausedFabric", "receive", "(LPausedFabric$Frame;)V"⟩ : Cond) ∈ lw_gd := fb_tm (i := 331) (by decide +kernel) (by decide +kernel)
theorem zi_332 : (Cond.static ⟨"PausedFabric", "receive", "(LPausedFabric$Frame;)V"⟩ : Cond) ∈ lw_gd := fb_tm (i := 332) (by decide +kernel) (by decide +kernel)
theorem zi_334 : (Cond.methodLink "PausedFabric" 246 ⟨"PausedFabric", "hasPlace", "(LPausedFabric$Port;LPausedFabric$Frame;)Z"⟩ : Cond) ∈ lw_gd := fb_tm (i := 334) (by decide +kernel) (by decide +kernel)
theorem zi_336 : (Cond.instanceMethod ⟨"PausedFabric", "hasPlace", "(LPausedFabric$Port;LPausedFabric$Frame;)Z"⟩ : Cond) ∈ lw_gd := fb_tm (i := 336) (by decide +kernel) (by decide +kernel)
theorem zi_338 : (Cond.methodLink "PausedFabric" 250 ⟨"PausedFabric", "hold", "(LPausedFabric$Port;LPausedFabric$Frame;)V"⟩ : Cond) ∈ lw_gd := fb_tm (i := 338) (by decide +kernel) (by decide +kernel)
theorem zi_340 : (Cond.instanceMethod ⟨"PausedFabric", "hold", "(LPausedFabric$Port;LPausedFabric$Frame;)V"⟩ : Cond) ∈ lw_gd := fb_tm (i := 340) (by decide +kernel) (by decide +kernel)
theorem zi_342 : (Cond.methodLink "PausedFabric" 254 ⟨"PausedFabric", "drop", "(LPausedFabric$Frame;)V"⟩ : Cond) ∈ lw_gd := fb_tm (i := 342) (by decide +kernel) (by decide +kernel)
theorem zi_343 : (Cond.static ⟨"PausedFabric", "drop", "(LPausedFabric$Frame;)V"⟩ : Cond) ∈ lw_gd := fb_tm (i := 343) (by decide +kernel) (by decide +kernel)
theorem zi_345 : (Cond.methodLink "PausedFabric" 193 ⟨"PausedFabric", "choose", "(LPausedFabric$Port;)V"⟩ : Cond) ∈ lw_gd := fb_tm (i := 345) (by decide +kernel) (by decide +kernel)
theorem zi_347 : (Cond.instanceMethod ⟨"PausedFabric", "choose", "(LPausedFabric$Port;)V"⟩ : Cond) ∈ lw_gd := fb_tm (i := 347) (by decide +kernel) (by decide +kernel)
theorem zi_349 : (Cond.methodLink "PausedFabric" 270 ⟨"PausedFabric", "readyFrame", "(LPausedFabric$Port;I)LPausedFabric$Frame;"⟩ : Cond) ∈ lw_gd := fb_tm (i := 349) (by decide +kernel) (by decide +kernel)
theorem zi_351 : (Cond.instanceMethod ⟨"PausedFabric", "readyFrame", "(LPausedFabric$Port;I)LPausedFabric$Frame;"⟩ : Cond) ∈ lw_gd := fb_tm (i := 351) (by decide +kernel) (by decide +kernel)
theorem zi_353 : (Cond.methodLink "PausedFabric" 277 ⟨"PausedFabric", "beginSending", "(LPausedFabric$Port;LPausedFabric$Frame;)V"⟩ : Cond) ∈ lw_gd := fb_tm (i := 353) (by decide +kernel) (by decide +kernel)
theorem zi_355 : (Cond.instanceMethod ⟨"PausedFabric", "beginSending", "(LPausedFabric$Port;LPausedFabric$Frame;)V"⟩ : Cond) ∈ lw_gd := fb_tm (i := 355) (by decide +kernel) (by decide +kernel)
theorem zi_357 : (Cond.methodLink "PausedFabric" 283 ⟨"PausedFabric$Flow", "waitFrom", "(II)V"⟩ : Cond) ∈ lw_gd := fb_tm (i := 357) (by decide +kernel) (by decide +kernel)
theorem zi_358 : (Cond.instanceMethod ⟨"PausedFabric$Flow", "waitFrom", "(II)V"⟩ : Cond) ∈ lw_gd := fb_tm (i := 358) (by decide +kernel) (by decide +kernel)
theorem zi_359 : (Cond.selects "PausedFabric$Flow" ⟨"PausedFabric$Flow", "waitFrom", "(II)V"⟩ ⟨"PausedFabric$Flow", "waitFrom", "(II)V"⟩ : Cond) ∈ lw_gd := fb_tm (i := 359) (by decide +kernel) (by decide +kernel)
theorem zi_361 : (Cond.methodLink "PausedFabric" 196 ⟨"PausedFabric", "remember", "()V"⟩ : Cond) ∈ lw_gd := fb_tm (i := 361) (by decide +kernel) (by decide +kernel)
theorem zi_363 : (Cond.instanceMethod ⟨"PausedFabric", "remember", "()V"⟩ : Cond) ∈ lw_gd := fb_tm (i := 363) (by decide +kernel) (by decide +kernel)
theorem zi_365 : (Cond.methodLink "PausedFabric" 199 ⟨"PausedFabric", "withLatest", "(IZ)I"⟩ : Cond) ∈ lw_gd := fb_tm (i := 365) (by decide +kernel) (by decide +kernel)
theorem zi_366 : (Cond.static ⟨"PausedFabric", "withLatest", "(IZ)I"⟩ : Cond) ∈ lw_gd := fb_tm (i := 366) (by decide +kernel) (by decide +kernel)
theorem zi_368 : (Cond.methodLink "PausedFabricLaw" 41 ⟨"PausedFabric", "clock", "()I"⟩ : Cond) ∈ lw_gd := fb_tm (i := 368) (by decide +kernel) (by decide +kernel)
theorem zi_369 : (Cond.instanceMethod ⟨"PausedFabric", "clock", "()I"⟩ : Cond) ∈ lw_gd := fb_tm (i := 369) (by decide +kernel) (by decide +kernel)
theorem zi_370 : (Cond.selects "PausedFabric" ⟨"PausedFabric", "clock", "()I"⟩ ⟨"PausedFabric", "clock", "()I"⟩ : Cond) ∈ lw_gd := fb_tm (i := 370) (by decide +kernel) (by decide +kernel)
theorem zi_372 : (Cond.methodLink "PausedFabricLaw" 46 ⟨"PausedFabric", "state", "(I)I"⟩ : Cond) ∈ lw_gd := fb_tm (i := 372) (by decide +kernel) (by decide +kernel)
theorem zi_373 : (Cond.instanceMethod ⟨"PausedFabric", "state", "(I)I"⟩ : Cond) ∈ lw_gd := fb_tm (i := 373) (by decide +kernel) (by decide +kernel)
theorem zi_374 : (Cond.selects "PausedFabric" ⟨"PausedFabric", "state", "(I)I"⟩ ⟨"PausedFabric", "state", "(I)I"⟩ : Cond) ∈ lw_gd := fb_tm (i := 374) (by decide +kernel) (by decide +kernel)
theorem zi_376 : (Cond.methodLink "PausedFabric" 88 ⟨"PausedFabric", "frameAt", "(I)LPausedFabric$Frame;"⟩ : Cond) ∈ lw_gd := fb_tm (i := 376) (by decide +kernel) (by decide +kernel)
theorem zi_378 : (Cond.instanceMethod ⟨"PausedFabric", "frameAt", "(I)LPausedFabric$Frame;"⟩ : Cond) ∈ lw_gd := fb_tm (i := 378) (by decide +kernel) (by decide +kernel)
theorem zi_380 : (Cond.methodLink "PausedFabricLaw" 50 ⟨"PausedFabric", "node", "(I)I"⟩ : Cond) ∈ lw_gd := fb_tm (i := 380) (by decide +kernel) (by decide +kernel)
theorem zi_381 : (Cond.instanceMethod ⟨"PausedFabric", "node", "(I)I"⟩ : Cond) ∈ lw_gd := fb_tm (i := 381) (by decide +kernel) (by decide +kernel)
theorem zi_382 : (Cond.selects "PausedFabric" ⟨"PausedFabric", "node", "(I)I"⟩ ⟨"PausedFabric", "node", "(I)I"⟩ : Cond) ∈ lw_gd := fb_tm (i := 382) (by decide +kernel) (by decide +kernel)
theorem zi_384 : (Cond.methodLink "PausedFabricLaw" 54 ⟨"PausedFabric", "marked", "(I)Z"⟩ : Cond) ∈ lw_gd := fb_tm (i := 384) (by decide +kernel) (by decide +kernel)
theorem zi_385 : (Cond.instanceMethod ⟨"PausedFabric", "marked", "(I)Z"⟩ : Cond) ∈ lw_gd := fb_tm (i := 385) (by decide +kernel) (by decide +kernel)
theorem zi_386 : (Cond.selects "PausedFabric" ⟨"PausedFabric", "marked", "(I)Z"⟩ ⟨"PausedFabric", "marked", "(I)Z"⟩ : Cond) ∈ lw_gd := fb_tm (i := 386) (by decide +kernel) (by decide +kernel)
theorem zi_388 : (Cond.methodLink "PausedFabricLaw" 59 ⟨"PausedFabric", "queued", "(III)I"⟩ : Cond) ∈ lw_gd := fb_tm (i := 388) (by decide +kernel) (by decide +kernel)
theorem zi_389 : (Cond.instanceMethod ⟨"PausedFabric", "queued", "(III)I"⟩ : Cond) ∈ lw_gd := fb_tm (i := 389) (by decide +kernel) (by decide +kernel)
theorem zi_390 : (Cond.selects "PausedFabric" ⟨"PausedFabric", "queued", "(III)I"⟩ ⟨"PausedFabric", "queued", "(III)I"⟩ : Cond) ∈ lw_gd := fb_tm (i := 390) (by decide +kernel) (by decide +kernel)
theorem zi_392 : (Cond.methodLink "PausedFabricLaw" 63 ⟨"PausedFabric", "held", "(III)I"⟩ : Cond) ∈ lw_gd := fb_tm (i := 392) (by decide +kernel) (by decide +kernel)
theorem zi_393 : (Cond.instanceMethod ⟨"PausedFabric", "held", "(III)I"⟩ : Cond) ∈ lw_gd := fb_tm (i := 393) (by decide +kernel) (by decide +kernel)
theorem zi_394 : (Cond.selects "PausedFabric" ⟨"PausedFabric", "held", "(III)I"⟩ ⟨"PausedFabric", "held", "(III)I"⟩ : Cond) ∈ lw_gd := fb_tm (i := 394) (by decide +kernel) (by decide +kernel)
theorem zi_396 : (Cond.methodLink "PausedFabricLaw" 67 ⟨"PausedFabric", "asks", "(II)Z"⟩ : Cond) ∈ lw_gd := fb_tm (i := 396) (by decide +kernel) (by decide +kernel)
theorem zi_397 : (Cond.instanceMethod ⟨"PausedFabric", "asks", "(II)Z"⟩ : Cond) ∈ lw_gd := fb_tm (i := 397) (by decide +kernel) (by decide +kernel)
theorem zi_398 : (Cond.selects "PausedFabric" ⟨"PausedFabric", "asks", "(II)Z"⟩ ⟨"PausedFabric", "asks", "(II)Z"⟩ : Cond) ∈ lw_gd := fb_tm (i := 398) (by decide +kernel) (by decide +kernel)
theorem zi_400 : (Cond.methodLink "PausedFabricLaw" 71 ⟨"PausedFabric", "paused", "(II)Z"⟩ : Cond) ∈ lw_gd := fb_tm (i := 400) (by decide +kernel) (by decide +kernel)
theorem zi_401 : (Cond.instanceMethod ⟨"PausedFabric", "paused", "(II)Z"⟩ : Cond) ∈ lw_gd := fb_tm (i := 401) (by decide +kernel) (by decide +kernel)
theorem zi_402 : (Cond.selects "PausedFabric" ⟨"PausedFabric", "paused", "(II)Z"⟩ ⟨"PausedFabric", "paused", "(II)Z"⟩ : Cond) ∈ lw_gd := fb_tm (i := 402) (by decide +kernel) (by decide +kernel)
theorem zi_404 : (Cond.methodLink "PausedFabricLaw" 75 ⟨"PausedFabric", "rate", "(I)I"⟩ : Cond) ∈ lw_gd := fb_tm (i := 404) (by decide +kernel) (by decide +kernel)
theorem zi_405 : (Cond.instanceMethod ⟨"PausedFabric", "rate", "(I)I"⟩ : Cond) ∈ lw_gd := fb_tm (i := 405) (by decide +kernel) (by decide +kernel)
theorem zi_406 : (Cond.selects "PausedFabric" ⟨"PausedFabric", "rate", "(I)I"⟩ ⟨"PausedFabric", "rate", "(I)I"⟩ : Cond) ∈ lw_gd := fb_tm (i := 406) (by decide +kernel) (by decide +kernel)
theorem zi_408 : (Cond.methodLink "PausedFabricLaw" 79 ⟨"PausedFabric", "alpha", "(I)I"⟩ : Cond) ∈ lw_gd := fb_tm (i := 408) (by decide +kernel) (by decide +kernel)
theorem zi_409 : (Cond.instanceMethod ⟨"PausedFabric", "alpha", "(I)I"⟩ : Cond) ∈ lw_gd := fb_tm (i := 409) (by decide +kernel) (by decide +kernel)
theorem zi_410 : (Cond.selects "PausedFabric" ⟨"PausedFabric", "alpha", "(I)I"⟩ ⟨"PausedFabric", "alpha", "(I)I"⟩ : Cond) ∈ lw_gd := fb_tm (i := 410) (by decide +kernel) (by decide +kernel)
theorem zi_412 : (Cond.methodLink "PausedFabricLaw" 83 ⟨"PausedFabric", "received", "(I)I"⟩ : Cond) ∈ lw_gd := fb_tm (i := 412) (by decide +kernel) (by decide +kernel)
theorem zi_413 : (Cond.instanceMethod ⟨"PausedFabric", "received", "(I)I"⟩ : Cond) ∈ lw_gd := fb_tm (i := 413) (by decide +kernel) (by decide +kernel)
theorem zi_414 : (Cond.selects "PausedFabric" ⟨"PausedFabric", "received", "(I)I"⟩ ⟨"PausedFabric", "received", "(I)I"⟩ : Cond) ∈ lw_gd := fb_tm (i := 414) (by decide +kernel) (by decide +kernel)
theorem zi_416 : (Cond.methodLink "PausedFabricLaw" 87 ⟨"PausedFabric", "dropped", "(I)I"⟩ : Cond) ∈ lw_gd := fb_tm (i := 416) (by decide +kernel) (by decide +kernel)
theorem zi_417 : (Cond.instanceMethod ⟨"PausedFabric", "dropped", "(I)I"⟩ : Cond) ∈ lw_gd := fb_tm (i := 417) (by decide +kernel) (by decide +kernel)
theorem zi_418 : (Cond.selects "PausedFabric" ⟨"PausedFabric", "dropped", "(I)I"⟩ ⟨"PausedFabric", "dropped", "(I)I"⟩ : Cond) ∈ lw_gd := fb_tm (i := 418) (by decide +kernel) (by decide +kernel)
theorem zi_420 : (Cond.methodLink "PausedFabricLaw" 91 ⟨"PausedFabric", "last", "(I)I"⟩ : Cond) ∈ lw_gd := fb_tm (i := 420) (by decide +kernel) (by decide +kernel)
theorem zi_421 : (Cond.instanceMethod ⟨"PausedFabric", "last", "(I)I"⟩ : Cond) ∈ lw_gd := fb_tm (i := 421) (by decide +kernel) (by decide +kernel)
theorem zi_422 : (Cond.selects "PausedFabric" ⟨"PausedFabric", "last", "(I)I"⟩ ⟨"PausedFabric", "last", "(I)I"⟩ : Cond) ∈ lw_gd := fb_tm (i := 422) (by decide +kernel) (by decide +kernel)
theorem zi_424 : (Cond.methodLink "PausedFabricLaw" 9 ⟨"PausedFabricLaw", "cell", "([II)I"⟩ : Cond) ∈ lw_gd := fb_tm (i := 424) (by decide +kernel) (by decide +kernel)
theorem zi_425 : (Cond.static ⟨"PausedFabricLaw", "cell", "([II)I"⟩ : Cond) ∈ lw_gd := fb_tm (i := 425) (by decide +kernel) (by decide +kernel)
theorem zi_427 : (Cond.classLink "PausedFabricLaw" 18 "PausedFabricModel" : Cond) ∈ lw_gd := fb_tm (i := 427) (by decide +kernel) (by decide +kernel)
theorem zi_428 : (Cond.instantiable "PausedFabricModel" 28 : Cond) ∈ lw_gd := fb_tm (i := 428) (by decide +kernel) (by decide +kernel)
theorem zi_429 : (Cond.methodLink "PausedFabricLaw" 20 ⟨"PausedFabricModel", "<init>", "(IIII)V"⟩ : Cond) ∈ lw_gd := fb_tm (i := 429) (by decide +kernel) (by decide +kernel)
theorem zi_430 : (Cond.instanceMethod ⟨"PausedFabricModel", "<init>", "(IIII)V"⟩ : Cond) ∈ lw_gd := fb_tm (i := 430) (by decide +kernel) (by decide +kernel)
theorem zi_432 : (Cond.methodLink "PausedFabricModel" 1 ⟨"java/lang/Object", "<init>", "()V"⟩ : Cond) ∈ lw_gd := fb_tm (i := 432) (by decide +kernel) (by decide +kernel)
theorem zi_433 : (Cond.methodLink "PausedFabricModel" 71 ⟨"PausedFabricModel", "nearest", "(III)I"⟩ : Cond) ∈ lw_gd := fb_tm (i := 433) (by decide +kernel) (by decide +kernel)
theorem zi_434 : (Cond.static ⟨"PausedFabricModel", "nearest", "(III)I"⟩ : Cond) ∈ lw_gd := fb_tm (i := 434) (by decide +kernel) (by decide +kernel)
theorem zi_436 : (Cond.fieldLink "PausedFabricModel" 75 "PausedFabricModel" "delay" "I" : Cond) ∈ lw_gd := fb_tm (i := 436) (by decide +kernel) (by decide +kernel)
theorem zi_437 : (Cond.fieldLink "PausedFabricModel" 79 "PausedFabricModel" "xoff" "I" : Cond) ∈ lw_gd := fb_tm (i := 437) (by decide +kernel) (by decide +kernel)
theorem zi_438 : (Cond.fieldLink "PausedFabricModel" 82 "PausedFabricModel" "room" "I" : Cond) ∈ lw_gd := fb_tm (i := 438) (by decide +kernel) (by decide +kernel)
theorem zi_439 : (Cond.fieldLink "PausedFabricModel" 85 "PausedFabricModel" "mark" "I" : Cond) ∈ lw_gd := fb_tm (i := 439) (by decide +kernel) (by decide +kernel)
theorem zi_440 : (Cond.fieldLink "PausedFabricModel" 106 "PausedFabricModel" "time" "I" : Cond) ∈ lw_gd := fb_tm (i := 440) (by decide +kernel) (by decide +kernel)
theorem zi_441 : (Cond.fieldLink "PausedFabricModel" 109 "PausedFabricModel" "order" "I" : Cond) ∈ lw_gd := fb_tm (i := 441) (by decide +kernel) (by decide +kernel)
theorem zi_442 : (Cond.fieldLink "PausedFabricModel" 88 "PausedFabricModel" "flows" "I" : Cond) ∈ lw_gd := fb_tm (i := 442) (by decide +kernel) (by decide +kernel)
theorem zi_443 : (Cond.fieldLink "PausedFabricModel" 7 "PausedFabricModel" "start" "[I" : Cond) ∈ lw_gd := fb_tm (i := 443) (by decide +kernel) (by decide +kernel)
theorem zi_444 : (Cond.fieldLink "PausedFabricModel" 13 "PausedFabricModel" "goal" "[I" : Cond) ∈ lw_gd := fb_tm (i := 444) (by decide +kernel) (by decide +kernel)
theorem zi_445 : (Cond.fieldLink "PausedFabricModel" 16 "PausedFabricModel" "priorityOf" "[I" : Cond) ∈ lw_gd := fb_tm (i := 445) (by decide +kernel) (by decide +kernel)
theorem zi_446 : (Cond.fieldLink "PausedFabricModel" 19 "PausedFabricModel" "rates" "[I" : Cond) ∈ lw_gd := fb_tm (i := 446) (by decide +kernel) (by decide +kernel)
theorem zi_447 : (Cond.fieldLink "PausedFabricModel" 22 "PausedFabricModel" "target" "[I" : Cond) ∈ lw_gd := fb_tm (i := 447) (by decide +kernel) (by decide +kernel)
theorem zi_448 : (Cond.fieldLink "PausedFabricModel" 25 "PausedFabricModel" "alphas" "[I" : Cond) ∈ lw_gd := fb_tm (i := 448) (by decide +kernel) (by decide +kernel)
theorem zi_449 : (Cond.fieldLink "PausedFabricModel" 28 "PausedFabricModel" "calm" "[I" : Cond) ∈ lw_gd := fb_tm (i := 449) (by decide +kernel) (by decide +kernel)
theorem zi_450 : (Cond.fieldLink "PausedFabricModel" 31 "PausedFabricModel" "wait" "[I" : Cond) ∈ lw_gd := fb_tm (i := 450) (by decide +kernel) (by decide +kernel)
theorem zi_451 : (Cond.fieldLink "PausedFabricModel" 91 "PausedFabricModel" "frames" "I" : Cond) ∈ lw_gd := fb_tm (i := 451) (by decide +kernel) (by decide +kernel)
theorem zi_452 : (Cond.fieldLink "PausedFabricModel" 34 "PausedFabricModel" "flowOf" "[I" : Cond) ∈ lw_gd := fb_tm (i := 452) (by decide +kernel) (by decide +kernel)
theorem zi_453 : (Cond.fieldLink "PausedFabricModel" 37 "PausedFabricModel" "lengths" "[I" : Cond) ∈ lw_gd := fb_tm (i := 453) (by decide +kernel) (by decide +kernel)
theorem zi_454 : (Cond.fieldLink "PausedFabricModel" 40 "PausedFabricModel" "states" "[I" : Cond) ∈ lw_gd := fb_tm (i := 454) (by decide +kernel) (by decide +kernel)
theorem zi_455 : (Cond.fieldLink "PausedFabricModel" 43 "PausedFabricModel" "place" "[I" : Cond) ∈ lw_gd := fb_tm (i := 455) (by decide +kernel) (by decide +kernel)
theorem zi_456 : (Cond.fieldLink "PausedFabricModel" 46 "PausedFabricModel" "came" "[I" : Cond) ∈ lw_gd := fb_tm (i := 456) (by decide +kernel) (by decide +kernel)
theorem zi_457 : (Cond.fieldLink "PausedFabricModel" 49 "PausedFabricModel" "when" "[I" : Cond) ∈ lw_gd := fb_tm (i := 457) (by decide +kernel) (by decide +kernel)
theorem zi_458 : (Cond.fieldLink "PausedFabricModel" 52 "PausedFabricModel" "marks" "[Z" : Cond) ∈ lw_gd := fb_tm (i := 458) (by decide +kernel) (by decide +kernel)
theorem zi_459 : (Cond.fieldLink "PausedFabricModel" 56 "PausedFabricModel" "turn" "[I" : Cond) ∈ lw_gd := fb_tm (i := 459) (by decide +kernel) (by decide +kernel)
theorem zi_460 : (Cond.fieldLink "PausedFabricModel" 59 "PausedFabricModel" "credit" "[I" : Cond) ∈ lw_gd := fb_tm (i := 460) (by decide +kernel) (by decide +kernel)
theorem zi_461 : (Cond.fieldLink "PausedFabricModel" 62 "PausedFabricModel" "quantum" "[I" : Cond) ∈ lw_gd := fb_tm (i := 461) (by decide +kernel) (by decide +kernel)
theorem zi_462 : (Cond.fieldLink "PausedFabricModel" 65 "PausedFabricModel" "asking" "[Z" : Cond) ∈ lw_gd := fb_tm (i := 462) (by decide +kernel) (by decide +kernel)
theorem zi_463 : (Cond.fieldLink "PausedFabricModel" 68 "PausedFabricModel" "asked" "[Z" : Cond) ∈ lw_gd := fb_tm (i := 463) (by decide +kernel) (by decide +kernel)
theorem zi_464 : (Cond.laysFinal "PausedFabricModel" "PausedFabricModel" "delay" "I" : Cond) ∈ lw_gd := fb_tm (i := 464) (by decide +kernel) (by decide +kernel)
theorem zi_466 : (Cond.laysFinal "PausedFabricModel" "PausedFabricModel" "xoff" "I" : Cond) ∈ lw_gd := fb_tm (i := 466) (by decide +kernel) (by decide +kernel)
theorem zi_468 : (Cond.laysFinal "PausedFabricModel" "PausedFabricModel" "room" "I" : Cond) ∈ lw_gd := fb_tm (i := 468) (by decide +kernel) (by decide +kernel)
theorem zi_470 : (Cond.laysFinal "PausedFabricModel" "PausedFabricModel" "mark" "I" : Cond) ∈ lw_gd := fb_tm (i := 470) (by decide +kernel) (by decide +kernel)
theorem zi_472 : (Cond.lays "PausedFabricModel" "PausedFabricModel" "time" "I" : Cond) ∈ lw_gd := fb_tm (i := 472) (by decide +kernel) (by decide +kernel)
theorem zi_474 : (Cond.lays "PausedFabricModel" "PausedFabricModel" "order" "I" : Cond) ∈ lw_gd := fb_tm (i := 474) (by decide +kernel) (by decide +kernel)
theorem zi_476 : (Cond.lays "PausedFabricModel" "PausedFabricModel" "flows" "I" : Cond) ∈ lw_gd := fb_tm (i := 476) (by decide +kernel) (by decide +kernel)
theorem zi_478 : (Cond.laysFinal "PausedFabricModel" "PausedFabricModel" "start" "[I" : Cond) ∈ lw_gd := fb_tm (i := 478) (by decide +kernel) (by decide +kernel)
theorem zi_480 : (Cond.laysFinal "PausedFabricModel" "PausedFabricModel" "goal" "[I" : Cond) ∈ lw_gd := fb_tm (i := 480) (by decide +kernel) (by decide +kernel)
theorem zi_482 : (Cond.laysFinal "PausedFabricModel" "PausedFabricModel" "priorityOf" "[I" : Cond) ∈ lw_gd := fb_tm (i := 482) (by decide +kernel) (by decide +kernel)
theorem zi_484 : (Cond.laysFinal "PausedFabricModel" "PausedFabricModel" "rates" "[I" : Cond) ∈ lw_gd := fb_tm (i := 484) (by decide +kernel) (by decide +kernel)
theorem zi_486 : (Cond.laysFinal "PausedFabricModel" "PausedFabricModel" "target" "[I" : Cond) ∈ lw_gd := fb_tm (i := 486) (by decide +kernel) (by decide +kernel)
theorem zi_488 : (Cond.laysFinal "PausedFabricModel" "PausedFabricModel" "alphas" "[I" : Cond) ∈ lw_gd := fb_tm (i := 488) (by decide +kernel) (by decide +kernel)
theorem zi_490 : (Cond.laysFinal "PausedFabricModel" "PausedFabricModel" "calm" "[I" : Cond) ∈ lw_gd := fb_tm (i := 490) (by decide +kernel) (by decide +kernel)
theorem zi_492 : (Cond.laysFinal "PausedFabricModel" "PausedFabricModel" "wait" "[I" : Cond) ∈ lw_gd := fb_tm (i := 492) (by decide +kernel) (by decide +kernel)
theorem zi_494 : (Cond.lays "PausedFabricModel" "PausedFabricModel" "frames" "I" : Cond) ∈ lw_gd := fb_tm (i := 494) (by decide +kernel) (by decide +kernel)
theorem zi_496 : (Cond.laysFinal "PausedFabricModel" "PausedFabricModel" "flowOf" "[I" : Cond) ∈ lw_gd := fb_tm (i := 496) (by decide +kernel) (by decide +kernel)
theorem zi_498 : (Cond.laysFinal "PausedFabricModel" "PausedFabricModel" "lengths" "[I" : Cond) ∈ lw_gd := fb_tm (i := 498) (by decide +kernel) (by decide +kernel)
theorem zi_500 : (Cond.laysFinal "PausedFabricModel" "PausedFabricModel" "states" "[I" : Cond) ∈ lw_gd := fb_tm (i := 500) (by decide +kernel) (by decide +kernel)
theorem zi_502 : (Cond.laysFinal "PausedFabricModel" "PausedFabricModel" "place" "[I" : Cond) ∈ lw_gd := fb_tm (i := 502) (by decide +kernel) (by decide +kernel)
theorem zi_504 : (Cond.laysFinal "PausedFabricModel" "PausedFabricModel" "came" "[I" : Cond) ∈ lw_gd := fb_tm (i := 504) (by decide +kernel) (by decide +kernel)
theorem zi_506 : (Cond.laysFinal "PausedFabricModel" "PausedFabricModel" "when" "[I" : Cond) ∈ lw_gd := fb_tm (i := 506) (by decide +kernel) (by decide +kernel)
theorem zi_508 : (Cond.laysFinal "PausedFabricModel" "PausedFabricModel" "marks" "[Z" : Cond) ∈ lw_gd := fb_tm (i := 508) (by decide +kernel) (by decide +kernel)
theorem zi_510 : (Cond.laysFinal "PausedFabricModel" "PausedFabricModel" "turn" "[I" : Cond) ∈ lw_gd := fb_tm (i := 510) (by decide +kernel) (by decide +kernel)
theorem zi_512 : (Cond.laysFinal "PausedFabricModel" "PausedFabricModel" "credit" "[I" : Cond) ∈ lw_gd := fb_tm (i := 512) (by decide +kernel) (by decide +kernel)
theorem zi_514 : (Cond.laysFinal "PausedFabricModel" "PausedFabricModel" "quantum" "[I" : Cond) ∈ lw_gd := fb_tm (i := 514) (by decide +kernel) (by decide +kernel)
theorem zi_516 : (Cond.laysFinal "PausedFabricModel" "PausedFabricModel" "asking" "[Z" : Cond) ∈ lw_gd := fb_tm (i := 516) (by decide +kernel) (by decide +kernel)
theorem zi_518 : (Cond.laysFinal "PausedFabricModel" "PausedFabricModel" "asked" "[Z" : Cond) ∈ lw_gd := fb_tm (i := 518) (by decide +kernel) (by decide +kernel)
theorem zi_521 : (Cond.arrayClass .boolean : Cond) ∈ lw_gd := fb_tm (i := 521) (by decide +kernel) (by decide +kernel)
theorem zi_522 : (Cond.methodLink "PausedFabricLaw" 25 ⟨"PausedFabricModel", "flow", "(III)I"⟩ : Cond) ∈ lw_gd := fb_tm (i := 522) (by decide +kernel) (by decide +kernel)
theorem zi_523 : (Cond.instanceMethod ⟨"PausedFabricModel", "flow", "(III)I"⟩ : Cond) ∈ lw_gd := fb_tm (i := 523) (by decide +kernel) (by decide +kernel)
theorem zi_524 : (Cond.selects "PausedFabricModel" ⟨"PausedFabricModel", "flow", "(III)I"⟩ ⟨"PausedFabricModel", "flow", "(III)I"⟩ : Cond) ∈ lw_gd := fb_tm (i := 524) (by decide +kernel) (by decide +kernel)
theorem zi_526 : (Cond.methodLink "PausedFabricLaw" 30 ⟨"PausedFabricModel", "share", "(II)Z"⟩ : Cond) ∈ lw_gd := fb_tm (i := 526) (by decide +kernel) (by decide +kernel)
theorem zi_527 : (Cond.instanceMethod ⟨"PausedFabricModel", "share", "(II)Z"⟩ : Cond) ∈ lw_gd := fb_tm (i := 527) (by decide +kernel) (by decide +kernel)
theorem zi_528 : (Cond.selects "PausedFabricModel" ⟨"PausedFabricModel", "share", "(II)Z"⟩ ⟨"PausedFabricModel", "share", "(II)Z"⟩ : Cond) ∈ lw_gd := fb_tm (i := 528) (by decide +kernel) (by decide +kernel)
theorem zi_530 : (Cond.methodLink "PausedFabricLaw" 35 ⟨"PausedFabricModel", "inject", "(II)I"⟩ : Cond) ∈ lw_gd := fb_tm (i := 530) (by decide +kernel) (by decide +kernel)
theorem zi_531 : (Cond.instanceMethod ⟨"PausedFabricModel", "inject", "(II)I"⟩ : Cond) ∈ lw_gd := fb_tm (i := 531) (by decide +kernel) (by decide +kernel)
theorem zi_532 : (Cond.selects "PausedFabricModel" ⟨"PausedFabricModel", "inject", "(II)I"⟩ ⟨"PausedFabricModel", "inject", "(II)I"⟩ : Cond) ∈ lw_gd := fb_tm (i := 532) (by decide +kernel) (by decide +kernel)
theorem zi_534 : (Cond.methodLink "PausedFabricModel" 112 ⟨"PausedFabricModel", "isFlow", "(I)Z"⟩ : Cond) ∈ lw_gd := fb_tm (i := 534) (by decide +kernel) (by decide +kernel)
theorem zi_536 : (Cond.instanceMethod ⟨"PausedFabricModel", "isFlow", "(I)Z"⟩ : Cond) ∈ lw_gd := fb_tm (i := 536) (by decide +kernel) (by decide +kernel)
theorem zi_538 : (Cond.methodLink "PausedFabricModel" 116 ⟨"PausedFabricModel", "enqueue", "(I)V"⟩ : Cond) ∈ lw_gd := fb_tm (i := 538) (by decide +kernel) (by decide +kernel)
theorem zi_540 : (Cond.instanceMethod ⟨"PausedFabricModel", "enqueue", "(I)V"⟩ : Cond) ∈ lw_gd := fb_tm (i := 540) (by decide +kernel) (by decide +kernel)
theorem zi_542 : (Cond.methodLink "PausedFabricLaw" 40 ⟨"PausedFabricModel", "tick", "(I)I"⟩ : Cond) ∈ lw_gd := fb_tm (i := 542) (by decide +kernel) (by decide +kernel)
theorem zi_543 : (Cond.instanceMethod ⟨"PausedFabricModel", "tick", "(I)I"⟩ : Cond) ∈ lw_gd := fb_tm (i := 543) (by decide +kernel) (by decide +kernel)
theorem zi_544 : (Cond.selects "PausedFabricModel" ⟨"PausedFabricModel", "tick", "(I)I"⟩ ⟨"PausedFabricModel", "tick", "(I)I"⟩ : Cond) ∈ lw_gd := fb_tm (i := 544) (by decide +kernel) (by decide +kernel)
theorem zi_546 : (Cond.methodLink "PausedFabricModel" 150 ⟨"PausedFabricModel", "arrived", "()I"⟩ : Cond) ∈ lw_gd := fb_tm (i := 546) (by decide +kernel) (by decide +kernel)
theorem zi_548 : (Cond.instanceMethod ⟨"PausedFabricModel", "arrived", "()I"⟩ : Cond) ∈ lw_gd := fb_tm (i := 548) (by decide +kernel) (by decide +kernel)
theorem zi_550 : (Cond.methodLink "PausedFabricModel" 154 ⟨"PausedFabricModel", "endSending", "()V"⟩ : Cond) ∈ lw_gd := fb_tm (i := 550) (by decide +kernel) (by decide +kernel)
theorem zi_552 : (Cond.instanceMethod ⟨"PausedFabricModel", "endSending", "()V"⟩ : Cond) ∈ lw_gd := fb_tm (i := 552) (by decide +kernel) (by decide +kernel)
theorem zi_554 : (Cond.methodLink "PausedFabricModel" 98 ⟨"PausedFabricModel", "nodeAt", "(II)I"⟩ : Cond) ∈ lw_gd := fb_tm (i := 554) (by decide +kernel) (by decide +kernel)
theorem zi_556 : (Cond.instanceMethod ⟨"PausedFabricModel", "nodeAt", "(II)I"⟩ : Cond) ∈ lw_gd := fb_tm (i := 556) (by decide +kernel) (by decide +kernel)
theorem zi_558 : (Cond.methodLink "PausedFabricModel" 94 ⟨"PausedFabricModel", "end", "(I)I"⟩ : Cond) ∈ lw_gd := fb_tm (i := 558) (by decide +kernel) (by decide +kernel)
theorem zi_560 : (Cond.instanceMethod ⟨"PausedFabricModel", "end", "(I)I"⟩ : Cond) ∈ lw_gd := fb_tm (i := 560) (by decide +kernel) (by decide +kernel)
theorem zi_562 : (Cond.methodLink "PausedFabricModel" 120 ⟨"PausedFabricModel", "holds", "(III)I"⟩ : Cond) ∈ lw_gd := fb_tm (i := 562) (by decide +kernel) (by decide +kernel)
theorem zi_564 : (Cond.instanceMethod ⟨"PausedFabricModel", "holds", "(III)I"⟩ : Cond) ∈ lw_gd := fb_tm (i := 564) (by decide +kernel) (by decide +kernel)
theorem zi_566 : (Cond.methodLink "PausedFabricModel" 157 ⟨"PausedFabricModel", "slow", "(I)V"⟩ : Cond) ∈ lw_gd := fb_tm (i := 566) (by decide +kernel) (by decide +kernel)
theorem zi_568 : (Cond.instanceMethod ⟨"PausedFabricModel", "slow", "(I)V"⟩ : Cond) ∈ lw_gd := fb_tm (i := 568) (by decide +kernel) (by decide +kernel)
theorem zi_570 : (Cond.methodLink "PausedFabricModel" 123 ⟨"PausedFabricModel", "told", "(I)Z"⟩ : Cond) ∈ lw_gd := fb_tm (i := 570) (by decide +kernel) (by decide +kernel)
theorem zi_572 : (Cond.instanceMethod ⟨"PausedFabricModel", "told", "(I)Z"⟩ : Cond) ∈ lw_gd := fb_tm (i := 572) (by decide +kernel) (by decide +kernel)
theorem zi_574 : (Cond.methodLink "PausedFabricModel" 160 ⟨"PausedFabricModel", "arrivals", "()V"⟩ : Cond) ∈ lw_gd := fb_tm (i := 574) (by decide +kernel) (by decide +kernel)
theorem zi_576 : (Cond.instanceMethod ⟨"PausedFabricModel", "arrivals", "()V"⟩ : Cond) ∈ lw_gd := fb_tm (i := 576) (by decide +kernel) (by decide +kernel)
theorem zi_578 : (Cond.methodLink "PausedFabricModel" 129 ⟨"PausedFabricModel", "isPort", "(II)Z"⟩ : Cond) ∈ lw_gd := fb_tm (i := 578) (by decide +kernel) (by decide +kernel)
theorem zi_579 : (Cond.static ⟨"PausedFabricModel", "isPort", "(II)Z"⟩ : Cond) ∈ lw_gd := fb_tm (i := 579) (by decide +kernel) (by decide +kernel)
theorem zi_581 : (Cond.methodLink "PausedFabricModel" 102 ⟨"PausedFabricModel", "between", "(III)Z"⟩ : Cond) ∈ lw_gd := fb_tm (i := 581) (by decide +kernel) (by decide +kernel)
theorem zi_583 : (Cond.instanceMethod ⟨"PausedFabricModel", "between", "(III)Z"⟩ : Cond) ∈ lw_gd := fb_tm (i := 583) (by decide +kernel) (by decide +kernel)
theorem zi_585 : (Cond.methodLink "PausedFabricModel" 133 ⟨"PausedFabricModel", "arrive", "(III)V"⟩ : Cond) ∈ lw_gd := fb_tm (i := 585) (by decide +kernel) (by decide +kernel)
theorem zi_587 : (Cond.instanceMethod ⟨"PausedFabricModel", "arrive", "(III)V"⟩ : Cond) ∈ lw_gd := fb_tm (i := 587) (by decide +kernel) (by decide +kernel)
theorem zi_589 : (Cond.methodLink "PausedFabricModel" 126 ⟨"PausedFabricModel", "queueLength", "(III)I"⟩ : Cond) ∈ lw_gd := fb_tm (i := 589) (by decide +kernel) (by decide +kernel)
theorem zi_591 : (Cond.instanceMethod ⟨"PausedFabricModel", "queueLength", "(III)I"⟩ : Cond) ∈ lw_gd := fb_tm (i := 591) (by decide +kernel) (by decide +kernel)
theorem zi_593 : (Cond.methodLink "PausedFabricModel" 163 ⟨"PausedFabricModel", "sends", "(II)Z"⟩ : Cond) ∈ lw_gd := fb_tm (i := 593) (by decide +kernel) (by decide +kernel)
theorem zi_595 : (Cond.instanceMethod ⟨"PausedFabricModel", "sends", "(II)Z"⟩ : Cond) ∈ lw_gd := fb_tm (i := 595) (by decide +kernel) (by decide +kernel)
theorem zi_597 : (Cond.methodLink "PausedFabricModel" 166 ⟨"PausedFabricModel", "choose", "(II)V"⟩ : Cond) ∈ lw_gd := fb_tm (i := 597) (by decide +kernel) (by decide +kernel)
theorem zi_599 : (Cond.instanceMethod ⟨"PausedFabricModel", "choose", "(II)V"⟩ : Cond) ∈ lw_gd := fb_tm (i := 599) (by decide +kernel) (by decide +kernel)
theorem zi_601 : (Cond.methodLink "PausedFabricModel" 143 ⟨"PausedFabricModel", "ready", "(III)Z"⟩ : Cond) ∈ lw_gd := fb_tm (i := 601) (by decide +kernel) (by decide +kernel)
theorem zi_603 : (Cond.instanceMethod ⟨"PausedFabricModel", "ready", "(III)Z"⟩ : Cond) ∈ lw_gd := fb_tm (i := 603) (by decide +kernel) (by decide +kernel)
theorem zi_605 : (Cond.methodLink "PausedFabricModel" 137 ⟨"PausedFabricModel", "first", "(III)I"⟩ : Cond) ∈ lw_gd := fb_tm (i := 605) (by decide +kernel) (by decide +kernel)
theorem zi_607 : (Cond.instanceMethod ⟨"PausedFabricModel", "first", "(III)I"⟩ : Cond) ∈ lw_gd := fb_tm (i := 607) (by decide +kernel) (by decide +kernel)
theorem zi_609 : (Cond.methodLink "PausedFabricModel" 140 ⟨"PausedFabricModel", "isPaused", "(II)Z"⟩ : Cond) ∈ lw_gd := fb_tm (i := 609) (by decide +kernel) (by decide +kernel)
theorem zi_611 : (Cond.instanceMethod ⟨"PausedFabricModel", "isPaused", "(II)Z"⟩ : Cond) ∈ lw_gd := fb_tm (i := 611) (by decide +kernel) (by decide +kernel)
theorem zi_613 : (Cond.methodLink "PausedFabricModel" 146 ⟨"PausedFabricModel", "begin", "(II)V"⟩ : Cond) ∈ lw_gd := fb_tm (i := 613) (by decide +kernel) (by decide +kernel)
theorem zi_615 : (Cond.instanceMethod ⟨"PausedFabricModel", "begin", "(II)V"⟩ : Cond) ∈ lw_gd := fb_tm (i := 615) (by decide +kernel) (by decide +kernel)
theorem zi_617 : (Cond.methodLink "PausedFabricLaw" 45 ⟨"PausedFabricModel", "clock", "()I"⟩ : Cond) ∈ lw_gd := fb_tm (i := 617) (by decide +kernel) (by decide +kernel)
theorem zi_618 : (Cond.instanceMethod ⟨"PausedFabricModel", "clock", "()I"⟩ : Cond) ∈ lw_gd := fb_tm (i := 618) (by decide +kernel) (by decide +kernel)
theorem zi_619 : (Cond.selects "PausedFabricModel" ⟨"PausedFabricModel", "clock", "()I"⟩ ⟨"PausedFabricModel", "clock", "()I"⟩ : Cond) ∈ lw_gd := fb_tm (i := 619) (by decide +kernel) (by decide +kernel)
theorem zi_621 : (Cond.methodLink "PausedFabricLaw" 49 ⟨"PausedFabricModel", "state", "(I)I"⟩ : Cond) ∈ lw_gd := fb_tm (i := 621) (by decide +kernel) (by decide +kernel)
theorem zi_622 : (Cond.instanceMethod ⟨"PausedFabricModel", "state", "(I)I"⟩ : Cond) ∈ lw_gd := fb_tm (i := 622) (by decide +kernel) (by decide +kernel)
theorem zi_623 : (Cond.selects "PausedFabricModel" ⟨"PausedFabricModel", "state", "(I)I"⟩ ⟨"PausedFabricModel", "state", "(I)I"⟩ : Cond) ∈ lw_gd := fb_tm (i := 623) (by decide +kernel) (by decide +kernel)
theorem zi_625 : (Cond.methodLink "PausedFabricModel" 169 ⟨"PausedFabricModel", "isFrame", "(I)Z"⟩ : Cond) ∈ lw_gd := fb_tm (i := 625) (by decide +kernel) (by decide +kernel)
theorem zi_627 : (Cond.instanceMethod ⟨"PausedFabricModel", "isFrame", "(I)Z"⟩ : Cond) ∈ lw_gd := fb_tm (i := 627) (by decide +kernel) (by decide +kernel)
theorem zi_629 : (Cond.methodLink "PausedFabricLaw" 53 ⟨"PausedFabricModel", "node", "(I)I"⟩ : Cond) ∈ lw_gd := fb_tm (i := 629) (by decide +kernel) (by decide +kernel)
theorem zi_630 : (Cond.instanceMethod ⟨"PausedFabricModel", "node", "(I)I"⟩ : Cond) ∈ lw_gd := fb_tm (i := 630) (by decide +kernel) (by decide +kernel)
theorem zi_631 : (Cond.selects "PausedFabricModel" ⟨"PausedFabricModel", "node", "(I)I"⟩ ⟨"PausedFabricModel", "node", "(I)I"⟩ : Cond) ∈ lw_gd := fb_tm (i := 631) (by decide +kernel) (by decide +kernel)
theorem zi_633 : (Cond.methodLink "PausedFabricLaw" 58 ⟨"PausedFabricModel", "marked", "(I)Z"⟩ : Cond) ∈ lw_gd := fb_tm (i := 633) (by decide +kernel) (by decide +kernel)
theorem zi_634 : (Cond.instanceMethod ⟨"PausedFabricModel", "marked", "(I)Z"⟩ : Cond) ∈ lw_gd := fb_tm (i := 634) (by decide +kernel) (by decide +kernel)
theorem zi_635 : (Cond.selects "PausedFabricModel" ⟨"PausedFabricModel", "marked", "(I)Z"⟩ ⟨"PausedFabricModel", "marked", "(I)Z"⟩ : Cond) ∈ lw_gd := fb_tm (i := 635) (by decide +kernel) (by decide +kernel)
theorem zi_637 : (Cond.methodLink "PausedFabricLaw" 62 ⟨"PausedFabricModel", "queued", "(III)I"⟩ : Cond) ∈ lw_gd := fb_tm (i := 637) (by decide +kernel) (by decide +kernel)
theorem zi_638 : (Cond.instanceMethod ⟨"PausedFabricModel", "queued", "(III)I"⟩ : Cond) ∈ lw_gd := fb_tm (i := 638) (by decide +kernel) (by decide +kernel)
theorem zi_639 : (Cond.selects "PausedFabricModel" ⟨"PausedFabricModel", "queued", "(III)I"⟩ ⟨"PausedFabricModel", "queued", "(III)I"⟩ : Cond) ∈ lw_gd := fb_tm (i := 639) (by decide +kernel) (by decide +kernel)
theorem zi_641 : (Cond.methodLink "PausedFabricLaw" 66 ⟨"PausedFabricModel", "held", "(III)I"⟩ : Cond) ∈ lw_gd := fb_tm (i := 641) (by decide +kernel) (by decide +kernel)
theorem zi_642 : (Cond.instanceMethod ⟨"PausedFabricModel", "held", "(III)I"⟩ : Cond) ∈ lw_gd := fb_tm (i := 642) (by decide +kernel) (by decide +kernel)
theorem zi_643 : (Cond.selects "PausedFabricModel" ⟨"PausedFabricModel", "held", "(III)I"⟩ ⟨"PausedFabricModel", "held", "(III)I"⟩ : Cond) ∈ lw_gd := fb_tm (i := 643) (by decide +kernel) (by decide +kernel)
theorem zi_645 : (Cond.methodLink "PausedFabricLaw" 70 ⟨"PausedFabricModel", "asks", "(II)Z"⟩ : Cond) ∈ lw_gd := fb_tm (i := 645) (by decide +kernel) (by decide +kernel)
theorem zi_646 : (Cond.instanceMethod ⟨"PausedFabricModel", "asks", "(II)Z"⟩ : Cond) ∈ lw_gd := fb_tm (i := 646) (by decide +kernel) (by decide +kernel)
theorem zi_647 : (Cond.selects "PausedFabricModel" ⟨"PausedFabricModel", "asks", "(II)Z"⟩ ⟨"PausedFabricModel", "asks", "(II)Z"⟩ : Cond) ∈ lw_gd := fb_tm (i := 647) (by decide +kernel) (by decide +kernel)
theorem zi_649 : (Cond.methodLink "PausedFabricLaw" 74 ⟨"PausedFabricModel", "paused", "(II)Z"⟩ : Cond) ∈ lw_gd := fb_tm (i := 649) (by decide +kernel) (by decide +kernel)
theorem zi_650 : (Cond.instanceMethod ⟨"PausedFabricModel", "paused", "(II)Z"⟩ : Cond) ∈ lw_gd := fb_tm (i := 650) (by decide +kernel) (by decide +kernel)
theorem zi_651 : (Cond.selects "PausedFabricModel" ⟨"PausedFabricModel", "paused", "(II)Z"⟩ ⟨"PausedFabricModel", "paused", "(II)Z"⟩ : Cond) ∈ lw_gd := fb_tm (i := 651) (by decide +kernel) (by decide +kernel)
theorem zi_653 : (Cond.methodLink "PausedFabricLaw" 78 ⟨"PausedFabricModel", "rate", "(I)I"⟩ : Cond) ∈ lw_gd := fb_tm (i := 653) (by decide +kernel) (by decide +kernel)
theorem zi_654 : (Cond.instanceMethod ⟨"PausedFabricModel", "rate", "(I)I"⟩ : Cond) ∈ lw_gd := fb_tm (i := 654) (by decide +kernel) (by decide +kernel)
theorem zi_655 : (Cond.selects "PausedFabricModel" ⟨"PausedFabricModel", "rate", "(I)I"⟩ ⟨"PausedFabricModel", "rate", "(I)I"⟩ : Cond) ∈ lw_gd := fb_tm (i := 655) (by decide +kernel) (by decide +kernel)
theorem zi_657 : (Cond.methodLink "PausedFabricLaw" 82 ⟨"PausedFabricModel", "alpha", "(I)I"⟩ : Cond) ∈ lw_gd := fb_tm (i := 657) (by decide +kernel) (by decide +kernel)
theorem zi_658 : (Cond.instanceMethod ⟨"PausedFabricModel", "alpha", "(I)I"⟩ : Cond) ∈ lw_gd := fb_tm (i := 658) (by decide +kernel) (by decide +kernel)
theorem zi_659 : (Cond.selects "PausedFabricModel" ⟨"PausedFabricModel", "alpha", "(I)I"⟩ ⟨"PausedFabricModel", "alpha", "(I)I"⟩ : Cond) ∈ lw_gd := fb_tm (i := 659) (by decide +kernel) (by decide +kernel)
theorem zi_661 : (Cond.methodLink "PausedFabricLaw" 86 ⟨"PausedFabricModel", "received", "(I)I"⟩ : Cond) ∈ lw_gd := fb_tm (i := 661) (by decide +kernel) (by decide +kernel)
theorem zi_662 : (Cond.instanceMethod ⟨"PausedFabricModel", "received", "(I)I"⟩ : Cond) ∈ lw_gd := fb_tm (i := 662) (by decide +kernel) (by decide +kernel)
theorem zi_663 : (Cond.selects "PausedFabricModel" ⟨"PausedFabricModel", "received", "(I)I"⟩ ⟨"PausedFabricModel", "received", "(I)I"⟩ : Cond) ∈ lw_gd := fb_tm (i := 663) (by decide +kernel) (by decide +kernel)
theorem zi_665 : (Cond.methodLink "PausedFabricModel" 172 ⟨"PausedFabricModel", "countOf", "(II)I"⟩ : Cond) ∈ lw_gd := fb_tm (i := 665) (by decide +kernel) (by decide +kernel)
theorem zi_667 : (Cond.instanceMethod ⟨"PausedFabricModel", "countOf", "(II)I"⟩ : Cond) ∈ lw_gd := fb_tm (i := 667) (by decide +kernel) (by decide +kernel)
theorem zi_669 : (Cond.methodLink "PausedFabricLaw" 90 ⟨"PausedFabricModel", "dropped", "(I)I"⟩ : Cond) ∈ lw_gd := fb_tm (i := 669) (by decide +kernel) (by decide +kernel)
theorem zi_670 : (Cond.instanceMethod ⟨"PausedFabricModel", "dropped", "(I)I"⟩ : Cond) ∈ lw_gd := fb_tm (i := 670) (by decide +kernel) (by decide +kernel)
theorem zi_671 : (Cond.selects "PausedFabricModel" ⟨"PausedFabricModel", "dropped", "(I)I"⟩ ⟨"PausedFabricModel", "dropped", "(I)I"⟩ : Cond) ∈ lw_gd := fb_tm (i := 671) (by decide +kernel) (by decide +kernel)
theorem zi_673 : (Cond.methodLink "PausedFabricLaw" 94 ⟨"PausedFabricModel", "last", "(I)I"⟩ : Cond) ∈ lw_gd := fb_tm (i := 673) (by decide +kernel) (by decide +kernel)
theorem zi_674 : (Cond.instanceMethod ⟨"PausedFabricModel", "last", "(I)I"⟩ : Cond) ∈ lw_gd := fb_tm (i := 674) (by decide +kernel) (by decide +kernel)
theorem zi_675 : (Cond.selects "PausedFabricModel" ⟨"PausedFabricModel", "last", "(I)I"⟩ ⟨"PausedFabricModel", "last", "(I)I"⟩ : Cond) ∈ lw_gd := fb_tm (i := 675) (by decide +kernel) (by decide +kernel)
theorem zs_X_routeOf : (Cond.selects "PausedFabric" ⟨"PausedFabric", "routeOf", "(III)[LPausedFabric$Port;"⟩ ⟨"PausedFabric", "routeOf", "(III)[LPausedFabric$Port;"⟩ : Cond) ∈ lw_gd := fb_sm (i := 0) (by decide +kernel) (by decide +kernel)
theorem zs_X_portBetween : (Cond.selects "PausedFabric" ⟨"PausedFabric", "portBetween", "(II)LPausedFabric$Port;"⟩ ⟨"PausedFabric", "portBetween", "(II)LPausedFabric$Port;"⟩ : Cond) ∈ lw_gd := fb_sm (i := 1) (by decide +kernel) (by decide +kernel)
theorem zs_X_flowAt : (Cond.selects "PausedFabric" ⟨"PausedFabric", "flowAt", "(I)LPausedFabric$Flow;"⟩ ⟨"PausedFabric", "flowAt", "(I)LPausedFabric$Flow;"⟩ : Cond) ∈ lw_gd := fb_sm (i := 2) (by decide +kernel) (by decide +kernel)
theorem zs_X_makeTick : (Cond.selects "PausedFabric" ⟨"PausedFabric", "makeTick", "()I"⟩ ⟨"PausedFabric", "makeTick", "()I"⟩ : Cond) ∈ lw_gd := fb_sm (i := 3) (by decide +kernel) (by decide +kernel)
theorem zs_X_wasSo : (Cond.selects "PausedFabric" ⟨"PausedFabric", "wasSo", "(I)Z"⟩ ⟨"PausedFabric", "wasSo", "(I)Z"⟩ : Cond) ∈ lw_gd := fb_sm (i := 4) (by decide +kernel) (by decide +kernel)
theorem zs_X_endSending : (Cond.selects "PausedFabric" ⟨"PausedFabric", "endSending", "(LPausedFabric$Port;)V"⟩ ⟨"PausedFabric", "endSending", "(LPausedFabric$Port;)V"⟩ : Cond) ∈ lw_gd := fb_sm (i := 5) (by decide +kernel) (by decide +kernel)
theorem zs_X_release : (Cond.selects "PausedFabric" ⟨"PausedFabric", "release", "(LPausedFabric$Frame;LPausedFabric$Port;)V"⟩ ⟨"PausedFabric", "release", "(LPausedFabric$Frame;LPausedFabric$Port;)V"⟩ : Cond) ∈ lw_gd := fb_sm (i := 6) (by decide +kernel) (by decide +kernel)
theorem zs_X_deliver : (Cond.selects "PausedFabric" ⟨"PausedFabric", "deliver", "(LPausedFabric$Port;)I"⟩ ⟨"PausedFabric", "deliver", "(LPausedFabric$Port;)I"⟩ : Cond) ∈ lw_gd := fb_sm (i := 7) (by decide +kernel) (by decide +kernel)
theorem zs_X_hasPlace : (Cond.selects "PausedFabric" ⟨"PausedFabric", "hasPlace", "(LPausedFabric$Port;LPausedFabric$Frame;)Z"⟩ ⟨"PausedFabric", "hasPlace", "(LPausedFabric$Port;LPausedFabric$Frame;)Z"⟩ : Cond) ∈ lw_gd := fb_sm (i := 8) (by decide +kernel) (by decide +kernel)
theorem zs_X_hold : (Cond.selects "PausedFabric" ⟨"PausedFabric", "hold", "(LPausedFabric$Port;LPausedFabric$Frame;)V"⟩ ⟨"PausedFabric", "hold", "(LPausedFabric$Port;LPausedFabric$Frame;)V"⟩ : Cond) ∈ lw_gd := fb_sm (i := 9) (by decide +kernel) (by decide +kernel)
theorem zs_X_choose : (Cond.selects "PausedFabric" ⟨"PausedFabric", "choose", "(LPausedFabric$Port;)V"⟩ ⟨"PausedFabric", "choose", "(LPausedFabric$Port;)V"⟩ : Cond) ∈ lw_gd := fb_sm (i := 10) (by decide +kernel) (by decide +kernel)
theorem zs_X_readyFrame : (Cond.selects "PausedFabric" ⟨"PausedFabric", "readyFrame", "(LPausedFabric$Port;I)LPausedFabric$Frame;"⟩ ⟨"PausedFabric", "readyFrame", "(LPausedFabric$Port;I)LPausedFabric$Frame;"⟩ : Cond) ∈ lw_gd := fb_sm (i := 11) (by decide +kernel) (by decide +kernel)
theorem zs_X_beginSending : (Cond.selects "PausedFabric" ⟨"PausedFabric", "beginSending", "(LPausedFabric$Port;LPausedFabric$Frame;)V"⟩ ⟨"PausedFabric", "beginSending", "(LPausedFabric$Port;LPausedFabric$Frame;)V"⟩ : Cond) ∈ lw_gd := fb_sm (i := 12) (by decide +kernel) (by decide +kernel)
theorem zs_X_remember : (Cond.selects "PausedFabric" ⟨"PausedFabric", "remember", "()V"⟩ ⟨"PausedFabric", "remember", "()V"⟩ : Cond) ∈ lw_gd := fb_sm (i := 13) (by decide +kernel) (by decide +kernel)
theorem zs_X_frameAt : (Cond.selects "PausedFabric" ⟨"PausedFabric", "frameAt", "(I)LPausedFabric$Frame;"⟩ ⟨"PausedFabric", "frameAt", "(I)LPausedFabric$Frame;"⟩ : Cond) ∈ lw_gd := fb_sm (i := 14) (by decide +kernel) (by decide +kernel)
theorem zs_M_isFlow : (Cond.selects "PausedFabricModel" ⟨"PausedFabricModel", "isFlow", "(I)Z"⟩ ⟨"PausedFabricModel", "isFlow", "(I)Z"⟩ : Cond) ∈ lw_gd := fb_sm (i := 15) (by decide +kernel) (by decide +kernel)
theorem zs_M_enqueue : (Cond.selects "PausedFabricModel" ⟨"PausedFabricModel", "enqueue", "(I)V"⟩ ⟨"PausedFabricModel", "enqueue", "(I)V"⟩ : Cond) ∈ lw_gd := fb_sm (i := 16) (by decide +kernel) (by decide +kernel)
theorem zs_M_arrived : (Cond.selects "PausedFabricModel" ⟨"PausedFabricModel", "arrived", "()I"⟩ ⟨"PausedFabricModel", "arrived", "()I"⟩ : Cond) ∈ lw_gd := fb_sm (i := 17) (by decide +kernel) (by decide +kernel)
theorem zs_M_endSending : (Cond.selects "PausedFabricModel" ⟨"PausedFabricModel", "endSending", "()V"⟩ ⟨"PausedFabricModel", "endSending", "()V"⟩ : Cond) ∈ lw_gd := fb_sm (i := 18) (by decide +kernel) (by decide +kernel)
theorem zs_M_nodeAt : (Cond.selects "PausedFabricModel" ⟨"PausedFabricModel", "nodeAt", "(II)I"⟩ ⟨"PausedFabricModel", "nodeAt", "(II)I"⟩ : Cond) ∈ lw_gd := fb_sm (i := 19) (by decide +kernel) (by decide +kernel)
theorem zs_M_end : (Cond.selects "PausedFabricModel" ⟨"PausedFabricModel", "end", "(I)I"⟩ ⟨"PausedFabricModel", "end", "(I)I"⟩ : Cond) ∈ lw_gd := fb_sm (i := 20) (by decide +kernel) (by decide +kernel)
theorem zs_M_holds : (Cond.selects "PausedFabricModel" ⟨"PausedFabricModel", "holds", "(III)I"⟩ ⟨"PausedFabricModel", "holds", "(III)I"⟩ : Cond) ∈ lw_gd := fb_sm (i := 21) (by decide +kernel) (by decide +kernel)
theorem zs_M_slow : (Cond.selects "PausedFabricModel" ⟨"PausedFabricModel", "slow", "(I)V"⟩ ⟨"PausedFabricModel", "slow", "(I)V"⟩ : Cond) ∈ lw_gd := fb_sm (i := 22) (by decide +kernel) (by decide +kernel)
theorem zs_M_told : (Cond.selects "PausedFabricModel" ⟨"PausedFabricModel", "told", "(I)Z"⟩ ⟨"PausedFabricModel", "told", "(I)Z"⟩ : Cond) ∈ lw_gd := fb_sm (i := 23) (by decide +kernel) (by decide +kernel)
theorem zs_M_arrivals : (Cond.selects "PausedFabricModel" ⟨"PausedFabricModel", "arrivals", "()V"⟩ ⟨"PausedFabricModel", "arrivals", "()V"⟩ : Cond) ∈ lw_gd := fb_sm (i := 24) (by decide +kernel) (by decide +kernel)
theorem zs_M_between : (Cond.selects "PausedFabricModel" ⟨"PausedFabricModel", "between", "(III)Z"⟩ ⟨"PausedFabricModel", "between", "(III)Z"⟩ : Cond) ∈ lw_gd := fb_sm (i := 25) (by decide +kernel) (by decide +kernel)
theorem zs_M_arrive : (Cond.selects "PausedFabricModel" ⟨"PausedFabricModel", "arrive", "(III)V"⟩ ⟨"PausedFabricModel", "arrive", "(III)V"⟩ : Cond) ∈ lw_gd := fb_sm (i := 26) (by decide +kernel) (by decide +kernel)
theorem zs_M_queueLength : (Cond.selects "PausedFabricModel" ⟨"PausedFabricModel", "queueLength", "(III)I"⟩ ⟨"PausedFabricModel", "queueLength", "(III)I"⟩ : Cond) ∈ lw_gd := fb_sm (i := 27) (by decide +kernel) (by decide +kernel)
theorem zs_M_sends : (Cond.selects "PausedFabricModel" ⟨"PausedFabricModel", "sends", "(II)Z"⟩ ⟨"PausedFabricModel", "sends", "(II)Z"⟩ : Cond) ∈ lw_gd := fb_sm (i := 28) (by decide +kernel) (by decide +kernel)
theorem zs_M_choose : (Cond.selects "PausedFabricModel" ⟨"PausedFabricModel", "choose", "(II)V"⟩ ⟨"PausedFabricModel", "choose", "(II)V"⟩ : Cond) ∈ lw_gd := fb_sm (i := 29) (by decide +kernel) (by decide +kernel)
theorem zs_M_ready : (Cond.selects "PausedFabricModel" ⟨"PausedFabricModel", "ready", "(III)Z"⟩ ⟨"PausedFabricModel", "ready", "(III)Z"⟩ : Cond) ∈ lw_gd := fb_sm (i := 30) (by decide +kernel) (by decide +kernel)
theorem zs_M_first : (Cond.selects "PausedFabricModel" ⟨"PausedFabricModel", "first", "(III)I"⟩ ⟨"PausedFabricModel", "first", "(III)I"⟩ : Cond) ∈ lw_gd := fb_sm (i := 31) (by decide +kernel) (by decide +kernel)
theorem zs_M_isPaused : (Cond.selects "PausedFabricModel" ⟨"PausedFabricModel", "isPaused", "(II)Z"⟩ ⟨"PausedFabricModel", "isPaused", "(II)Z"⟩ : Cond) ∈ lw_gd := fb_sm (i := 32) (by decide +kernel) (by decide +kernel)
theorem zs_M_begin : (Cond.selects "PausedFabricModel" ⟨"PausedFabricModel", "begin", "(II)V"⟩ ⟨"PausedFabricModel", "begin", "(II)V"⟩ : Cond) ∈ lw_gd := fb_sm (i := 33) (by decide +kernel) (by decide +kernel)
theorem zs_M_isFrame : (Cond.selects "PausedFabricModel" ⟨"PausedFabricModel", "isFrame", "(I)Z"⟩ ⟨"PausedFabricModel", "isFrame", "(I)Z"⟩ : Cond) ∈ lw_gd := fb_sm (i := 34) (by decide +kernel) (by decide +kernel)
theorem zs_M_countOf : (Cond.selects "PausedFabricModel" ⟨"PausedFabricModel", "countOf", "(II)I"⟩ ⟨"PausedFabricModel", "countOf", "(II)I"⟩ : Cond) ∈ lw_gd := fb_sm (i := 35) (by decide +kernel) (by decide +kernel)
def zT_X : u_T := fun k => match k with
  | 0 => ("PausedFabric", "delay", "I", true)
  | 1 => ("PausedFabric", "xoff", "I", true)
  | 2 => ("PausedFabric", "room", "I", true)
  | 3 => ("PausedFabric", "mark", "I", true)
  | 4 => ("PausedFabric", "quantum", "[I", true)
  | 5 => ("PausedFabric", "ports", "[LPausedFabric$Port;", true)
  | 6 => ("PausedFabric", "flows", "[LPausedFabric$Flow;", true)
  | 7 => ("PausedFabric", "frames", "[LPausedFabric$Frame;", true)
  | 8 => ("PausedFabric", "flowCount", "I", false)
  | 9 => ("PausedFabric", "frameCount", "I", false)
  | _ => ("PausedFabric", "time", "I", false)
def zt_X : Nat → FieldType := fun k => match k with
  | 0 => .int
  | 1 => .int
  | 2 => .int
  | 3 => .int
  | 4 => .array .int
  | 5 => .array (.object "PausedFabric$Port")
  | 6 => .array (.object "PausedFabric$Flow")
  | 7 => .array (.object "PausedFabric$Frame")
  | 8 => .int
  | 9 => .int
  | _ => .int
theorem znm_X : ∀ a, a < 11 → ∀ b, b < 11 → a ≠ b → (zT_X a).2.1 ≠ (zT_X b).2.1 := by decide +kernel
theorem ztok_X : ∀ k, k < 11 → parseFieldDescriptor (zT_X k).2.2.1 = some (zt_X k) := by decide +kernel
theorem zin_X : ∀ w ∈ u_ws "PausedFabric" zT_X 11, w ∈ lw_gd := by
  intro w hw
  obtain ⟨k, hk, rfl⟩ := List.mem_map.mp hw
  have hk := List.mem_range.mp hk
  exact (show ∀ k, k < 11 → u_lay "PausedFabric" zT_X k ∈ lw_gd from fun k hk => match k, hk with
    | 0, _ => zi_125
    | 1, _ => zi_127
    | 2, _ => zi_129
    | 3, _ => zi_131
    | 4, _ => zi_133
    | 5, _ => zi_135
    | 6, _ => zi_137
    | 7, _ => zi_139
    | 8, _ => zi_141
    | 9, _ => zi_143
    | 10, _ => zi_145
    | n + 11, h => absurd h (by omega)) k hk
def zT_P : u_T := fun k => match k with
  | 0 => ("PausedFabric$Port", "from", "I", true)
  | 1 => ("PausedFabric$Port", "to", "I", true)
  | 2 => ("PausedFabric$Port", "queues", "[LPausedFabric$FrameQueue;", true)
  | 3 => ("PausedFabric$Port", "credit", "[I", true)
  | 4 => ("PausedFabric$Port", "turn", "I", false)
  | 5 => ("PausedFabric$Port", "sending", "LPausedFabric$Frame;", false)
  | 6 => ("PausedFabric$Port", "wire", "LPausedFabric$FrameQueue;", true)
  | 7 => ("PausedFabric$Port", "held", "[I", true)
  | 8 => ("PausedFabric$Port", "asked", "Z", false)
  | 9 => ("PausedFabric$Port", "askedBefore", "I", false)
  | _ => ("PausedFabric$Port", "paused", "Z", false)
def zt_P : Nat → FieldType := fun k => match k with
  | 0 => .int
  | 1 => .int
  | 2 => .array (.object "PausedFabric$FrameQueue")
  | 3 => .array .int
  | 4 => .int
  | 5 => .object "PausedFabric$Frame"
  | 6 => .object "PausedFabric$FrameQueue"
  | 7 => .array .int
  | 8 => .boolean
  | 9 => .int
  | _ => .boolean
theorem znm_P : ∀ a, a < 11 → ∀ b, b < 11 → a ≠ b → (zT_P a).2.1 ≠ (zT_P b).2.1 := by decide +kernel
theorem ztok_P : ∀ k, k < 11 → parseFieldDescriptor (zT_P k).2.2.1 = some (zt_P k) := by decide +kernel
theorem zin_P : ∀ w ∈ u_ws "PausedFabric$Port" zT_P 11, w ∈ lw_gd := by
  intro w hw
  obtain ⟨k, hk, rfl⟩ := List.mem_map.mp hw
  have hk := List.mem_range.mp hk
  exact (show ∀ k, k < 11 → u_lay "PausedFabric$Port" zT_P k ∈ lw_gd from fun k hk => match k, hk with
    | 0, _ => zi_84
    | 1, _ => zi_86
    | 2, _ => zi_88
    | 3, _ => zi_90
    | 4, _ => zi_92
    | 5, _ => zi_94
    | 6, _ => zi_96
    | 7, _ => zi_98
    | 8, _ => zi_100
    | 9, _ => zi_102
    | 10, _ => zi_104
    | n + 11, h => absurd h (by omega)) k hk
def zT_F : u_T := fun k => match k with
  | 0 => ("PausedFabric$Flow", "priority", "I", true)
  | 1 => ("PausedFabric$Flow", "route", "[LPausedFabric$Port;", true)
  | 2 => ("PausedFabric$Flow", "rate", "I", false)
  | 3 => ("PausedFabric$Flow", "target", "I", false)
  | 4 => ("PausedFabric$Flow", "alpha", "I", false)
  | 5 => ("PausedFabric$Flow", "calm", "I", false)
  | 6 => ("PausedFabric$Flow", "waitsUntil", "I", false)
  | 7 => ("PausedFabric$Flow", "markedNow", "Z", false)
  | 8 => ("PausedFabric$Flow", "markedBefore", "I", false)
  | 9 => ("PausedFabric$Flow", "received", "I", false)
  | 10 => ("PausedFabric$Flow", "dropped", "I", false)
  | _ => ("PausedFabric$Flow", "last", "I", false)
def zt_F : Nat → FieldType := fun k => match k with
  | 0 => .int
  | 1 => .array (.object "PausedFabric$Port")
  | 2 => .int
  | 3 => .int
  | 4 => .int
  | 5 => .int
  | 6 => .int
  | 7 => .boolean
  | 8 => .int
  | 9 => .int
  | 10 => .int
  | _ => .int
theorem znm_F : ∀ a, a < 12 → ∀ b, b < 12 → a ≠ b → (zT_F a).2.1 ≠ (zT_F b).2.1 := by decide +kernel
theorem ztok_F : ∀ k, k < 12 → parseFieldDescriptor (zT_F k).2.2.1 = some (zt_F k) := by decide +kernel
theorem zin_F : ∀ w ∈ u_ws "PausedFabric$Flow" zT_F 12, w ∈ lw_gd := by
  intro w hw
  obtain ⟨k, hk, rfl⟩ := List.mem_map.mp hw
  have hk := List.mem_range.mp hk
  exact (show ∀ k, k < 12 → u_lay "PausedFabric$Flow" zT_F k ∈ lw_gd from fun k hk => match k, hk with
    | 0, _ => zi_195
    | 1, _ => zi_197
    | 2, _ => zi_199
    | 3, _ => zi_201
    | 4, _ => zi_203
    | 5, _ => zi_205
    | 6, _ => zi_207
    | 7, _ => zi_209
    | 8, _ => zi_211
    | 9, _ => zi_213
    | 10, _ => zi_215
    | 11, _ => zi_217
    | n + 12, h => absurd h (by omega)) k hk
def zT_K : u_T := fun k => match k with
  | 0 => ("PausedFabric$Frame", "number", "I", true)
  | 1 => ("PausedFabric$Frame", "flow", "LPausedFabric$Flow;", true)
  | 2 => ("PausedFabric$Frame", "length", "I", true)
  | 3 => ("PausedFabric$Frame", "state", "I", false)
  | 4 => ("PausedFabric$Frame", "node", "I", false)
  | 5 => ("PausedFabric$Frame", "marked", "Z", false)
  | 6 => ("PausedFabric$Frame", "hop", "I", false)
  | 7 => ("PausedFabric$Frame", "cameBy", "LPausedFabric$Port;", false)
  | 8 => ("PausedFabric$Frame", "due", "I", false)
  | _ => ("PausedFabric$Frame", "next", "LPausedFabric$Frame;", false)
def zt_K : Nat → FieldType := fun k => match k with
  | 0 => .int
  | 1 => .object "PausedFabric$Flow"
  | 2 => .int
  | 3 => .int
  | 4 => .int
  | 5 => .boolean
  | 6 => .int
  | 7 => .object "PausedFabric$Port"
  | 8 => .int
  | _ => .object "PausedFabric$Frame"
theorem znm_K : ∀ a, a < 10 → ∀ b, b < 10 → a ≠ b → (zT_K a).2.1 ≠ (zT_K b).2.1 := by decide +kernel
theorem ztok_K : ∀ k, k < 10 → parseFieldDescriptor (zT_K k).2.2.1 = some (zt_K k) := by decide +kernel
theorem zin_K : ∀ w ∈ u_ws "PausedFabric$Frame" zT_K 10, w ∈ lw_gd := by
  intro w hw
  obtain ⟨k, hk, rfl⟩ := List.mem_map.mp hw
  have hk := List.mem_range.mp hk
  exact (show ∀ k, k < 10 → u_lay "PausedFabric$Frame" zT_K k ∈ lw_gd from fun k hk => match k, hk with
    | 0, _ => zi_258
    | 1, _ => zi_260
    | 2, _ => zi_262
    | 3, _ => zi_264
    | 4, _ => zi_266
    | 5, _ => zi_268
    | 6, _ => zi_270
    | 7, _ => zi_272
    | 8, _ => zi_274
    | 9, _ => zi_276
    | n + 10, h => absurd h (by omega)) k hk
def zT_Q : u_T := fun k => match k with
  | 0 => ("PausedFabric$FrameQueue", "first", "LPausedFabric$Frame;", false)
  | 1 => ("PausedFabric$FrameQueue", "end", "LPausedFabric$Frame;", false)
  | _ => ("PausedFabric$FrameQueue", "length", "I", false)
def zt_Q : Nat → FieldType := fun k => match k with
  | 0 => .object "PausedFabric$Frame"
  | 1 => .object "PausedFabric$Frame"
  | _ => .int
theorem znm_Q : ∀ a, a < 3 → ∀ b, b < 3 → a ≠ b → (zT_Q a).2.1 ≠ (zT_Q b).2.1 := by decide +kernel
theorem ztok_Q : ∀ k, k < 3 → parseFieldDescriptor (zT_Q k).2.2.1 = some (zt_Q k) := by decide +kernel
theorem zin_Q : ∀ w ∈ u_ws "PausedFabric$FrameQueue" zT_Q 3, w ∈ lw_gd := by
  intro w hw
  obtain ⟨k, hk, rfl⟩ := List.mem_map.mp hw
  have hk := List.mem_range.mp hk
  exact (show ∀ k, k < 3 → u_lay "PausedFabric$FrameQueue" zT_Q k ∈ lw_gd from fun k hk => match k, hk with
    | 0, _ => zi_54
    | 1, _ => zi_56
    | 2, _ => zi_58
    | n + 3, h => absurd h (by omega)) k hk
def zT_M : u_T := fun k => match k with
  | 0 => ("PausedFabricModel", "delay", "I", true)
  | 1 => ("PausedFabricModel", "xoff", "I", true)
  | 2 => ("PausedFabricModel", "room", "I", true)
  | 3 => ("PausedFabricModel", "mark", "I", true)
  | 4 => ("PausedFabricModel", "time", "I", false)
  | 5 => ("PausedFabricModel", "order", "I", false)
  | 6 => ("PausedFabricModel", "flows", "I", false)
  | 7 => ("PausedFabricModel", "start", "[I", true)
  | 8 => ("PausedFabricModel", "goal", "[I", true)
  | 9 => ("PausedFabricModel", "priorityOf", "[I", true)
  | 10 => ("PausedFabricModel", "rates", "[I", true)
  | 11 => ("PausedFabricModel", "target", "[I", true)
  | 12 => ("PausedFabricModel", "alphas", "[I", true)
  | 13 => ("PausedFabricModel", "calm", "[I", true)
  | 14 => ("PausedFabricModel", "wait", "[I", true)
  | 15 => ("PausedFabricModel", "frames", "I", false)
  | 16 => ("PausedFabricModel", "flowOf", "[I", true)
  | 17 => ("PausedFabricModel", "lengths", "[I", true)
  | 18 => ("PausedFabricModel", "states", "[I", true)
  | 19 => ("PausedFabricModel", "place", "[I", true)
  | 20 => ("PausedFabricModel", "came", "[I", true)
  | 21 => ("PausedFabricModel", "when", "[I", true)
  | 22 => ("PausedFabricModel", "marks", "[Z", true)
  | 23 => ("PausedFabricModel", "turn", "[I", true)
  | 24 => ("PausedFabricModel", "credit", "[I", true)
  | 25 => ("PausedFabricModel", "quantum", "[I", true)
  | 26 => ("PausedFabricModel", "asking", "[Z", true)
  | _ => ("PausedFabricModel", "asked", "[Z", true)
def zt_M : Nat → FieldType := fun k => match k with
  | 0 => .int
  | 1 => .int
  | 2 => .int
  | 3 => .int
  | 4 => .int
  | 5 => .int
  | 6 => .int
  | 7 => .array .int
  | 8 => .array .int
  | 9 => .array .int
  | 10 => .array .int
  | 11 => .array .int
  | 12 => .array .int
  | 13 => .array .int
  | 14 => .array .int
  | 15 => .int
  | 16 => .array .int
  | 17 => .array .int
  | 18 => .array .int
  | 19 => .array .int
  | 20 => .array .int
  | 21 => .array .int
  | 22 => .array .boolean
  | 23 => .array .int
  | 24 => .array .int
  | 25 => .array .int
  | 26 => .array .boolean
  | _ => .array .boolean
theorem znm_M : ∀ a, a < 28 → ∀ b, b < 28 → a ≠ b → (zT_M a).2.1 ≠ (zT_M b).2.1 := by decide +kernel
theorem ztok_M : ∀ k, k < 28 → parseFieldDescriptor (zT_M k).2.2.1 = some (zt_M k) := by decide +kernel
theorem zin_M : ∀ w ∈ u_ws "PausedFabricModel" zT_M 28, w ∈ lw_gd := by
  intro w hw
  obtain ⟨k, hk, rfl⟩ := List.mem_map.mp hw
  have hk := List.mem_range.mp hk
  exact (show ∀ k, k < 28 → u_lay "PausedFabricModel" zT_M k ∈ lw_gd from fun k hk => match k, hk with
    | 0, _ => zi_464
    | 1, _ => zi_466
    | 2, _ => zi_468
    | 3, _ => zi_470
    | 4, _ => zi_472
    | 5, _ => zi_474
    | 6, _ => zi_476
    | 7, _ => zi_478
    | 8, _ => zi_480
    | 9, _ => zi_482
    | 10, _ => zi_484
    | 11, _ => zi_486
    | 12, _ => zi_488
    | 13, _ => zi_490
    | 14, _ => zi_492
    | 15, _ => zi_494
    | 16, _ => zi_496
    | 17, _ => zi_498
    | 18, _ => zi_500
    | 19, _ => zi_502
    | 20, _ => zi_504
    | 21, _ => zi_506
    | 22, _ => zi_508
    | 23, _ => zi_510
    | 24, _ => zi_512
    | 25, _ => zi_514
    | 26, _ => zi_516
    | 27, _ => zi_518
    | n + 28, h => absurd h (by omega)) k hk
abbrev fb_cl : List vw_C := [("PausedFabric", zT_X, 11), ("PausedFabric$Port", zT_P, 11), ("PausedFabric$Flow", zT_F, 12), ("PausedFabric$Frame", zT_K, 10), ("PausedFabric$FrameQueue", zT_Q, 3), ("PausedFabricModel", zT_M, 28)]
theorem fb_gd {w : Cond} (h : w ∈ lw_gd) : w ∈ lw_gd ∧ ((w.onTables && w.keeps) = true ∨ ∃ ty, w = .arrayClass ty) := ⟨h, good_of_word (List.mem_filter.mp h).2⟩
theorem fb_gV {own C : String} {ix : Nat} {y : MethodName} {cw : Cond} (h1 : (Cond.methodLink own ix y : Cond) ∈ lw_gd) (h2 : (Cond.instanceMethod y : Cond) ∈ lw_gd) (h3 : (Cond.selects C y y : Cond) ∈ lw_gd) (h4 : (Cond.initialized C : Cond) ∈ lw_gd) (h5 : cw ∈ lw_gd) : GoodIn lw_gd (wsV own ix C y (cw :: lw_gd)) := by
  intro w hw
  simp only [wsV, List.cons_append, List.nil_append, List.mem_cons] at hw
  rcases hw with rfl | rfl | rfl | rfl | rfl | hw
  · exact fb_gd h1
  · exact fb_gd h2
  · exact fb_gd h3
  · exact fb_gd h4
  · exact fb_gd h5
  · exact fb_gd hw
theorem fb_gS {own : String} {ix : Nat} {y : MethodName} {cw : Cond} (h1 : (Cond.methodLink own ix y : Cond) ∈ lw_gd) (h2 : (Cond.static y : Cond) ∈ lw_gd) (h3 : (Cond.initialized own : Cond) ∈ lw_gd) (h5 : cw ∈ lw_gd) : GoodIn lw_gd (wsS own ix y (cw :: lw_gd)) := by
  intro w hw
  simp only [wsS, List.cons_append, List.nil_append, List.mem_cons] at hw
  rcases hw with rfl | rfl | rfl | rfl | hw
  · exact fb_gd h1
  · exact fb_gd h2
  · exact fb_gd h3
  · exact fb_gd h5
  · exact fb_gd hw
theorem fb_gI {cw : Cond} (h5 : cw ∈ lw_gd) : GoodIn lw_gd (cw :: lw_gd) := by
  intro w hw
  rcases List.mem_cons.mp hw with rfl | hw
  · exact fb_gd h5
  · exact fb_gd hw
