section
-- ===== PART A: goes FIRST, ahead of the names: the tables' words, and 'selects' of the private methods out of them =====
/-- a private method of a class that the tables say can be made, by its rows of tables_1 -/
def lw_okq (q : MethodName × Nat) : Prop := (q.1.cls ≠ "java/lang/invoke/MethodHandle" ∧ q.1.cls ≠ "java/lang/invoke/VarHandle") ∧ Cond.instantiable q.1.cls q.2 ∈ tables_1 ∧ Cond.privateMethod q.1 ∈ tables_1 ∧ Cond.instanceMethod q.1 ∈ tables_1
theorem lw_p0 : lw_okq (⟨"LogDesk", "recover", "()I"⟩, 10) := ⟨⟨by decide +kernel, by decide +kernel⟩, List.mem_of_getElem? (i := 19) (by decide +kernel), List.mem_of_getElem? (i := 185) (by decide +kernel), List.mem_of_getElem? (i := 186) (by decide +kernel)⟩
theorem lw_p1 : lw_okq (⟨"LogDesk", "endOfRecord", "(I)I"⟩, 10) := ⟨⟨by decide +kernel, by decide +kernel⟩, List.mem_of_getElem? (i := 19) (by decide +kernel), List.mem_of_getElem? (i := 189) (by decide +kernel), List.mem_of_getElem? (i := 190) (by decide +kernel)⟩
theorem lw_p2 : lw_okq (⟨"LogDesk", "bytesOfRecord", "(I)I"⟩, 10) := ⟨⟨by decide +kernel, by decide +kernel⟩, List.mem_of_getElem? (i := 19) (by decide +kernel), List.mem_of_getElem? (i := 193) (by decide +kernel), List.mem_of_getElem? (i := 194) (by decide +kernel)⟩
theorem lw_p3 : lw_okq (⟨"java/lang/Throwable", "fillInStackTrace", "(I)Ljava/lang/Throwable;"⟩, 6) := ⟨⟨by decide +kernel, by decide +kernel⟩, List.mem_of_getElem? (i := 294) (by decide +kernel), List.mem_of_getElem? (i := 292) (by decide +kernel), List.mem_of_getElem? (i := 293) (by decide +kernel)⟩
theorem lw_p4 : lw_okq (⟨"LogDesk", "isFullFor", "(I)Z"⟩, 10) := ⟨⟨by decide +kernel, by decide +kernel⟩, List.mem_of_getElem? (i := 19) (by decide +kernel), List.mem_of_getElem? (i := 323) (by decide +kernel), List.mem_of_getElem? (i := 324) (by decide +kernel)⟩
theorem lw_p5 : lw_okq (⟨"LogDesk", "writeHead", "(II)I"⟩, 10) := ⟨⟨by decide +kernel, by decide +kernel⟩, List.mem_of_getElem? (i := 19) (by decide +kernel), List.mem_of_getElem? (i := 345) (by decide +kernel), List.mem_of_getElem? (i := 346) (by decide +kernel)⟩
theorem lw_p6 : lw_okq (⟨"LogDesk", "cutPower", "()V"⟩, 10) := ⟨⟨by decide +kernel, by decide +kernel⟩, List.mem_of_getElem? (i := 19) (by decide +kernel), List.mem_of_getElem? (i := 394) (by decide +kernel), List.mem_of_getElem? (i := 395) (by decide +kernel)⟩
theorem lw_p7 : lw_okq (⟨"LogDesk", "isEdge", "(I)Z"⟩, 10) := ⟨⟨by decide +kernel, by decide +kernel⟩, List.mem_of_getElem? (i := 19) (by decide +kernel), List.mem_of_getElem? (i := 428) (by decide +kernel), List.mem_of_getElem? (i := 429) (by decide +kernel)⟩
theorem lw_p8 : lw_okq (⟨"LogDeskModel", "fails", "(I)I"⟩, 20) := ⟨⟨by decide +kernel, by decide +kernel⟩, List.mem_of_getElem? (i := 469) (by decide +kernel), List.mem_of_getElem? (i := 554) (by decide +kernel), List.mem_of_getElem? (i := 555) (by decide +kernel)⟩
theorem lw_p9 : lw_okq (⟨"LogDeskModel", "isFull", "(I)Z"⟩, 20) := ⟨⟨by decide +kernel, by decide +kernel⟩, List.mem_of_getElem? (i := 469) (by decide +kernel), List.mem_of_getElem? (i := 558) (by decide +kernel), List.mem_of_getElem? (i := 559) (by decide +kernel)⟩
theorem lw_p10 : lw_okq (⟨"LogDeskModel", "record", "(II)V"⟩, 20) := ⟨⟨by decide +kernel, by decide +kernel⟩, List.mem_of_getElem? (i := 469) (by decide +kernel), List.mem_of_getElem? (i := 562) (by decide +kernel), List.mem_of_getElem? (i := 563) (by decide +kernel)⟩
theorem lw_p11 : lw_okq (⟨"LogDeskModel", "shrink", "()V"⟩, 20) := ⟨⟨by decide +kernel, by decide +kernel⟩, List.mem_of_getElem? (i := 469) (by decide +kernel), List.mem_of_getElem? (i := 566) (by decide +kernel), List.mem_of_getElem? (i := 567) (by decide +kernel)⟩
theorem lw_p12 : lw_okq (⟨"LogDeskModel", "writes", "()Z"⟩, 20) := ⟨⟨by decide +kernel, by decide +kernel⟩, List.mem_of_getElem? (i := 469) (by decide +kernel), List.mem_of_getElem? (i := 578) (by decide +kernel), List.mem_of_getElem? (i := 579) (by decide +kernel)⟩
theorem lw_p13 : lw_okq (⟨"LogDeskModel", "lose", "()I"⟩, 20) := ⟨⟨by decide +kernel, by decide +kernel⟩, List.mem_of_getElem? (i := 469) (by decide +kernel), List.mem_of_getElem? (i := 582) (by decide +kernel), List.mem_of_getElem? (i := 583) (by decide +kernel)⟩
theorem lw_p14 : lw_okq (⟨"LogDeskModel", "untouch", "()V"⟩, 20) := ⟨⟨by decide +kernel, by decide +kernel⟩, List.mem_of_getElem? (i := 469) (by decide +kernel), List.mem_of_getElem? (i := 586) (by decide +kernel), List.mem_of_getElem? (i := 587) (by decide +kernel)⟩
def lw_privs_1 : List (MethodName × Nat) := [(⟨"LogDesk", "recover", "()I"⟩, 10), (⟨"LogDesk", "endOfRecord", "(I)I"⟩, 10), (⟨"LogDesk", "bytesOfRecord", "(I)I"⟩, 10), (⟨"java/lang/Throwable", "fillInStackTrace", "(I)Ljava/lang/Throwable;"⟩, 6), (⟨"LogDesk", "isFullFor", "(I)Z"⟩, 10), (⟨"LogDesk", "writeHead", "(II)I"⟩, 10), (⟨"LogDesk", "cutPower", "()V"⟩, 10), (⟨"LogDesk", "isEdge", "(I)Z"⟩, 10), (⟨"LogDeskModel", "fails", "(I)I"⟩, 20), (⟨"LogDeskModel", "isFull", "(I)Z"⟩, 20), (⟨"LogDeskModel", "record", "(II)V"⟩, 20), (⟨"LogDeskModel", "shrink", "()V"⟩, 20), (⟨"LogDeskModel", "writes", "()Z"⟩, 20), (⟨"LogDeskModel", "lose", "()I"⟩, 20), (⟨"LogDeskModel", "untouch", "()V"⟩, 20)]
theorem lw_r1 : ∀ q ∈ lw_privs_1, lw_okq q := List.forall_mem_cons.mpr ⟨lw_p0, List.forall_mem_cons.mpr ⟨lw_p1, List.forall_mem_cons.mpr ⟨lw_p2, List.forall_mem_cons.mpr ⟨lw_p3, List.forall_mem_cons.mpr ⟨lw_p4, List.forall_mem_cons.mpr ⟨lw_p5, List.forall_mem_cons.mpr ⟨lw_p6, List.forall_mem_cons.mpr ⟨lw_p7, List.forall_mem_cons.mpr ⟨lw_p8, List.forall_mem_cons.mpr ⟨lw_p9, List.forall_mem_cons.mpr ⟨lw_p10, List.forall_mem_cons.mpr ⟨lw_p11, List.forall_mem_cons.mpr ⟨lw_p12, List.forall_mem_cons.mpr ⟨lw_p13, List.forall_mem_cons.mpr ⟨lw_p14, fun _ h => absurd h List.not_mem_nil⟩⟩⟩⟩⟩⟩⟩⟩⟩⟩⟩⟩⟩⟩⟩
def lw_privs : List (MethodName × Nat) := lw_privs_1
def lw_tbl : List Cond := k2_sels lw_privs ++ tables_1
theorem lw_privs_ok : ∀ q ∈ lw_privs, lw_okq q := lw_r1
end
section
abbrev y_De_init : MethodName := ⟨"LogDesk", "<init>", "(I)V"⟩
abbrev y_Ri_init : MethodName := ⟨"LogDesk$Ring", "<init>", "()V"⟩
abbrev y_Ha_init : MethodName := ⟨"LogDesk$Hand", "<init>", "()V"⟩
abbrev y_Wa_init : MethodName := ⟨"LogDesk$Waiting", "<init>", "()V"⟩
abbrev y_Pa_init : MethodName := ⟨"LogDesk$Pages", "<init>", "()V"⟩
abbrev y_Di_init : MethodName := ⟨"LogDesk$Disk", "<init>", "()V"⟩
abbrev y_De_put : MethodName := ⟨"LogDesk", "put", "(JI)Z"⟩
abbrev y_Ha_hasRoomFor : MethodName := ⟨"LogDesk$Hand", "hasRoomFor", "(I)Z"⟩
abbrev y_Ha_add : MethodName := ⟨"LogDesk$Hand", "add", "(I)V"⟩
abbrev y_De_fill : MethodName := ⟨"LogDesk", "fill", "(II)Z"⟩
abbrev y_De_told : MethodName := ⟨"LogDesk", "told", "()I"⟩
abbrev y_Wa_first : MethodName := ⟨"LogDesk$Waiting", "first", "()I"⟩
abbrev y_Wa_has : MethodName := ⟨"LogDesk$Waiting", "has", "(I)Z"⟩
abbrev y_Wa_isSession : MethodName := ⟨"LogDesk$Waiting", "isSession", "(I)Z"⟩
abbrev y_Wa_endOf : MethodName := ⟨"LogDesk$Waiting", "endOf", "(I)I"⟩
abbrev y_Wa_remove : MethodName := ⟨"LogDesk$Waiting", "remove", "(I)V"⟩
abbrev y_De_touch : MethodName := ⟨"LogDesk", "touch", "(I)Z"⟩
abbrev y_Pa_add : MethodName := ⟨"LogDesk$Pages", "add", "(I)Z"⟩
abbrev y_De_mark : MethodName := ⟨"LogDesk", "mark", "()I"⟩
abbrev y_Pa_clear : MethodName := ⟨"LogDesk$Pages", "clear", "()V"⟩
abbrev y_Ar_fillJ : MethodName := ⟨"java/util/Arrays", "fill", "([JJ)V"⟩
abbrev y_De_open : MethodName := ⟨"LogDesk", "open", "()I"⟩
abbrev y_De_recover : MethodName := ⟨"LogDesk", "recover", "()I"⟩
abbrev y_De_endOfRecord : MethodName := ⟨"LogDesk", "endOfRecord", "(I)I"⟩
abbrev y_De_bytesOfRecord : MethodName := ⟨"LogDesk", "bytesOfRecord", "(I)I"⟩
abbrev y_Ri_get : MethodName := ⟨"LogDesk$Ring", "get", "(I)I"⟩
abbrev y_De_blockOf : MethodName := ⟨"LogDesk", "blockOf", "(I)I"⟩
abbrev y_Ha_clear : MethodName := ⟨"LogDesk$Hand", "clear", "()V"⟩
abbrev y_Wa_clear : MethodName := ⟨"LogDesk$Waiting", "clear", "()V"⟩
abbrev y_Ar_fillI : MethodName := ⟨"java/util/Arrays", "fill", "([II)V"⟩
abbrev y_De_length : MethodName := ⟨"LogDesk", "length", "()I"⟩
abbrev y_De_byteOf : MethodName := ⟨"LogDesk", "byteOf", "(I)I"⟩
abbrev y_De_state : MethodName := ⟨"LogDesk", "state", "(I)I"⟩
abbrev y_Di_written : MethodName := ⟨"LogDesk$Disk", "written", "()I"⟩
abbrev y_Ha_count : MethodName := ⟨"LogDesk$Hand", "count", "()I"⟩
abbrev y_Wa_count : MethodName := ⟨"LogDesk$Waiting", "count", "()I"⟩
abbrev y_Pa_count : MethodName := ⟨"LogDesk$Pages", "count", "()I"⟩
abbrev y_La_cell : MethodName := ⟨"LogDeskLaw", "cell", "([II)I"⟩
abbrev y_La_append : MethodName := ⟨"LogDeskLaw", "append", "(LLogDesk;I[J)I"⟩
abbrev y_De_append : MethodName := ⟨"LogDesk", "append", "(I)I"⟩
abbrev y_De_isFullFor : MethodName := ⟨"LogDesk", "isFullFor", "(I)Z"⟩
abbrev y_De_writeHead : MethodName := ⟨"LogDesk", "writeHead", "(II)I"⟩
abbrev y_Ri_set : MethodName := ⟨"LogDesk$Ring", "set", "(II)V"⟩
abbrev y_Bl_init : MethodName := ⟨"LogDesk$Block", "<init>", "()V"⟩
abbrev y_Ha_get : MethodName := ⟨"LogDesk$Hand", "get", "(I)I"⟩
abbrev y_La_commit : MethodName := ⟨"LogDeskLaw", "commit", "(LLogDesk;I[J)I"⟩
abbrev y_De_commit : MethodName := ⟨"LogDesk", "commit", "(I)I"⟩
abbrev y_Wa_add : MethodName := ⟨"LogDesk$Waiting", "add", "(II)V"⟩
abbrev y_La_flush : MethodName := ⟨"LogDeskLaw", "flush", "(LLogDesk;I[J)I"⟩
abbrev y_De_flush : MethodName := ⟨"LogDesk", "flush", "(I)I"⟩
abbrev y_Di_writeBlock : MethodName := ⟨"LogDesk$Disk", "writeBlock", "()Z"⟩
abbrev y_De_cutPower : MethodName := ⟨"LogDesk", "cutPower", "()V"⟩
abbrev y_Di_dropCharge : MethodName := ⟨"LogDesk$Disk", "dropCharge", "()V"⟩
abbrev y_Ma_min : MethodName := ⟨"java/lang/Math", "min", "(II)I"⟩
abbrev y_La_checkpoint : MethodName := ⟨"LogDeskLaw", "checkpoint", "(LLogDesk;I[J)I"⟩
abbrev y_De_checkpoint : MethodName := ⟨"LogDesk", "checkpoint", "(I)I"⟩
abbrev y_De_isEdge : MethodName := ⟨"LogDesk", "isEdge", "(I)Z"⟩
abbrev y_La_next : MethodName := ⟨"LogDeskLaw", "next", "(LLogDesk;[J)I"⟩
abbrev y_De_next : MethodName := ⟨"LogDesk", "next", "()I"⟩
abbrev y_La_charge : MethodName := ⟨"LogDeskLaw", "charge", "(LLogDesk;I)I"⟩
abbrev y_De_charge : MethodName := ⟨"LogDesk", "charge", "(I)V"⟩
abbrev y_Di_setCharge : MethodName := ⟨"LogDesk$Disk", "setCharge", "(I)V"⟩
abbrev y_Mo_init : MethodName := ⟨"LogDeskModel", "<init>", "(I)V"⟩
abbrev y_Mo_thrown : MethodName := ⟨"LogDeskModel", "thrown", "()I"⟩
abbrev y_Mo_put : MethodName := ⟨"LogDeskModel", "put", "(JI)Z"⟩
abbrev y_Mo_fill : MethodName := ⟨"LogDeskModel", "fill", "(II)Z"⟩
abbrev y_Mo_append : MethodName := ⟨"LogDeskModel", "append", "(I)I"⟩
abbrev y_Mo_fails : MethodName := ⟨"LogDeskModel", "fails", "(I)I"⟩
abbrev y_Mo_isFull : MethodName := ⟨"LogDeskModel", "isFull", "(I)Z"⟩
abbrev y_Mo_record : MethodName := ⟨"LogDeskModel", "record", "(II)V"⟩
abbrev y_Mo_shrink : MethodName := ⟨"LogDeskModel", "shrink", "()V"⟩
abbrev y_Mo_commit : MethodName := ⟨"LogDeskModel", "commit", "(I)I"⟩
abbrev y_Mo_flush : MethodName := ⟨"LogDeskModel", "flush", "(I)I"⟩
abbrev y_Mo_writes : MethodName := ⟨"LogDeskModel", "writes", "()Z"⟩
abbrev y_Mo_lose : MethodName := ⟨"LogDeskModel", "lose", "()I"⟩
abbrev y_Mo_untouch : MethodName := ⟨"LogDeskModel", "untouch", "()V"⟩
abbrev y_Mo_told : MethodName := ⟨"LogDeskModel", "told", "()I"⟩
abbrev y_Mo_touch : MethodName := ⟨"LogDeskModel", "touch", "(I)Z"⟩
abbrev y_Mo_mark : MethodName := ⟨"LogDeskModel", "mark", "()I"⟩
abbrev y_Mo_checkpoint : MethodName := ⟨"LogDeskModel", "checkpoint", "(I)I"⟩
abbrev y_Mo_open : MethodName := ⟨"LogDeskModel", "open", "()I"⟩
abbrev y_Mo_next : MethodName := ⟨"LogDeskModel", "next", "()I"⟩
abbrev y_Mo_length : MethodName := ⟨"LogDeskModel", "length", "()I"⟩
abbrev y_Mo_byteOf : MethodName := ⟨"LogDeskModel", "byteOf", "(I)I"⟩
abbrev y_Mo_charge : MethodName := ⟨"LogDeskModel", "charge", "(I)V"⟩
abbrev y_Mo_state : MethodName := ⟨"LogDeskModel", "state", "(I)I"⟩
abbrev y_La_law : MethodName := ⟨"LogDeskLaw", "law", "([I)Z"⟩
/-- the one word list that all contracts share -/
def gw : List Cond := lw_tbl.filter goodWord
theorem gw_of {w : Cond} (i : Nat) (h : lw_tbl[i]? = some w) (hg : goodWord w = true) : w ∈ gw := List.mem_filter.mpr ⟨List.mem_of_getElem? h, hg⟩
theorem gw_tbl {w : Cond} (h : w ∈ gw) : w ∈ lw_tbl := (List.mem_filter.mp h).1
theorem gw_good {w : Cond} (h : w ∈ gw) : (w.onTables && w.keeps) = true ∨ ∃ ty, w = .arrayClass ty := good_of_word (List.mem_filter.mp h).2
theorem gw_call {c : Cond} {ws : List Cond} (h : ∀ w ∈ ws, w ∈ gw) : GoodIn (c :: gw) ws := fun w hw => ⟨List.mem_cons_of_mem _ (h w hw), gw_good (h w hw)⟩
theorem gw_callG {ws : List Cond} (h : ∀ w ∈ ws, w ∈ gw) : GoodIn gw ws := fun w hw => ⟨h w hw, gw_good (h w hw)⟩
theorem gw_cons {c : Cond} (h : c ∈ gw) : ∀ w ∈ c :: gw, w ∈ gw := fun w hw => (List.mem_cons.mp hw).elim (fun e => e ▸ h) id
theorem k_0 : (.initialized "LogDeskLaw" : Cond) ∈ gw := gw_of 15 (by decide +kernel) (by decide +kernel)
theorem k_1 : (.initialized "LogDesk" : Cond) ∈ gw := gw_of 16 (by decide +kernel) (by decide +kernel)
theorem k_2 : (.initialized "LogDesk$Ring" : Cond) ∈ gw := gw_of 17 (by decide +kernel) (by decide +kernel)
theorem k_3 : (.initialized "LogDesk$Hand" : Cond) ∈ gw := gw_of 18 (by decide +kernel) (by decide +kernel)
theorem k_4 : (.initialized "LogDesk$Waiting" : Cond) ∈ gw := gw_of 19 (by decide +kernel) (by decide +kernel)
theorem k_5 : (.initialized "LogDesk$Pages" : Cond) ∈ gw := gw_of 20 (by decide +kernel) (by decide +kernel)
theorem k_6 : (.initialized "LogDesk$Disk" : Cond) ∈ gw := gw_of 21 (by decide +kernel) (by decide +kernel)
theorem k_7 : (.initialized "LogDeskModel" : Cond) ∈ gw := gw_of 22 (by decide +kernel) (by decide +kernel)
theorem k_8 : (.initialized "java/lang/Throwable" : Cond) ∈ gw := gw_of 23 (by decide +kernel) (by decide +kernel)
theorem k_9 : (.initialized "java/lang/Exception" : Cond) ∈ gw := gw_of 24 (by decide +kernel) (by decide +kernel)
theorem k_10 : (.initialized "java/lang/RuntimeException" : Cond) ∈ gw := gw_of 25 (by decide +kernel) (by decide +kernel)
theorem k_11 : (.initialized "java/lang/IllegalArgumentException" : Cond) ∈ gw := gw_of 26 (by decide +kernel) (by decide +kernel)
theorem k_12 : (.initialized "java/lang/IllegalStateException" : Cond) ∈ gw := gw_of 27 (by decide +kernel) (by decide +kernel)
theorem k_13 : (.initialized "LogDesk$Block" : Cond) ∈ gw := gw_of 28 (by decide +kernel) (by decide +kernel)
theorem k_14 : (.initialized "java/util/Arrays" : Cond) ∈ gw := gw_of 29 (by decide +kernel) (by decide +kernel)
theorem k_15 : (.initialized "java/lang/UnsupportedOperationException" : Cond) ∈ gw := gw_of 30 (by decide +kernel) (by decide +kernel)
theorem k_16 : (.initialized "java/lang/Math" : Cond) ∈ gw := gw_of 31 (by decide +kernel) (by decide +kernel)
theorem k_17 : (.initialized "java/util/NoSuchElementException" : Cond) ∈ gw := gw_of 32 (by decide +kernel) (by decide +kernel)
theorem k_18 : (.classLink "LogDeskLaw" 8 "LogDesk" : Cond) ∈ gw := gw_of 33 (by decide +kernel) (by decide +kernel)
theorem k_19 : (.instantiable "LogDesk" 10 : Cond) ∈ gw := gw_of 34 (by decide +kernel) (by decide +kernel)
theorem k_20 : (.methodLink "LogDeskLaw" 44 y_De_init : Cond) ∈ gw := gw_of 35 (by decide +kernel) (by decide +kernel)
theorem k_21 : (.instanceMethod y_De_init : Cond) ∈ gw := gw_of 36 (by decide +kernel) (by decide +kernel)
theorem k_22 : (.code y_De_init prog_1_method_1_code 2 none : Cond) ∈ gw := gw_of 37 (by decide +kernel) (by decide +kernel)
theorem k_23 : (.methodLink "LogDesk" 3 ⟨"java/lang/Object", "<init>", "()V"⟩ : Cond) ∈ gw := gw_of 38 (by decide +kernel) (by decide +kernel)
theorem k_24 : (.instanceMethod ⟨"java/lang/Object", "<init>", "()V"⟩ : Cond) ∈ gw := gw_of 39 (by decide +kernel) (by decide +kernel)
theorem k_25 : (.code ⟨"java/lang/Object", "<init>", "()V"⟩ object_method_1_code 1 none : Cond) ∈ gw := gw_of 40 (by decide +kernel) (by decide +kernel)
theorem k_26 : (.classLink "LogDesk" 9 "LogDesk$Ring" : Cond) ∈ gw := gw_of 41 (by decide +kernel) (by decide +kernel)
theorem k_27 : (.instantiable "LogDesk$Ring" 1 : Cond) ∈ gw := gw_of 42 (by decide +kernel) (by decide +kernel)
theorem k_29 : (.instanceMethod y_Ri_init : Cond) ∈ gw := gw_of 44 (by decide +kernel) (by decide +kernel)
theorem k_30 : (.code y_Ri_init prog_6_method_1_code 1 none : Cond) ∈ gw := gw_of 45 (by decide +kernel) (by decide +kernel)
theorem k_31 : (.methodLink "LogDesk$Ring" 3 ⟨"java/lang/Object", "<init>", "()V"⟩ : Cond) ∈ gw := gw_of 46 (by decide +kernel) (by decide +kernel)
theorem k_32 : (.classLink "LogDesk$Ring" 9 "LogDesk$Block" : Cond) ∈ gw := gw_of 47 (by decide +kernel) (by decide +kernel)
theorem k_34 : (.fieldLink "LogDesk$Ring" 11 "LogDesk$Ring" "blocks" "[LLogDesk$Block;" : Cond) ∈ gw := gw_of 49 (by decide +kernel) (by decide +kernel)
theorem k_38 : (.classLink "LogDesk" 16 "LogDesk$Hand" : Cond) ∈ gw := gw_of 53 (by decide +kernel) (by decide +kernel)
theorem k_39 : (.instantiable "LogDesk$Hand" 2 : Cond) ∈ gw := gw_of 54 (by decide +kernel) (by decide +kernel)
theorem k_41 : (.instanceMethod y_Ha_init : Cond) ∈ gw := gw_of 56 (by decide +kernel) (by decide +kernel)
theorem k_42 : (.code y_Ha_init prog_4_method_1_code 1 none : Cond) ∈ gw := gw_of 57 (by decide +kernel) (by decide +kernel)
theorem k_43 : (.methodLink "LogDesk$Hand" 3 ⟨"java/lang/Object", "<init>", "()V"⟩ : Cond) ∈ gw := gw_of 58 (by decide +kernel) (by decide +kernel)
theorem k_44 : (.fieldLink "LogDesk$Hand" 9 "LogDesk$Hand" "bytes" "[B" : Cond) ∈ gw := gw_of 59 (by decide +kernel) (by decide +kernel)
theorem k_45 : (.fieldLink "LogDesk$Hand" 15 "LogDesk$Hand" "count" "I" : Cond) ∈ gw := gw_of 60 (by decide +kernel) (by decide +kernel)
theorem k_51 : (.arrayClass .byte : Cond) ∈ gw := gw_of 66 (by decide +kernel) (by decide +kernel)
theorem k_52 : (.classLink "LogDesk" 23 "LogDesk$Waiting" : Cond) ∈ gw := gw_of 67 (by decide +kernel) (by decide +kernel)
theorem k_53 : (.instantiable "LogDesk$Waiting" 1 : Cond) ∈ gw := gw_of 68 (by decide +kernel) (by decide +kernel)
theorem k_55 : (.instanceMethod y_Wa_init : Cond) ∈ gw := gw_of 70 (by decide +kernel) (by decide +kernel)
theorem k_56 : (.code y_Wa_init prog_7_method_1_code 1 none : Cond) ∈ gw := gw_of 71 (by decide +kernel) (by decide +kernel)
theorem k_57 : (.methodLink "LogDesk$Waiting" 3 ⟨"java/lang/Object", "<init>", "()V"⟩ : Cond) ∈ gw := gw_of 72 (by decide +kernel) (by decide +kernel)
theorem k_58 : (.fieldLink "LogDesk$Waiting" 9 "LogDesk$Waiting" "ends" "[I" : Cond) ∈ gw := gw_of 73 (by decide +kernel) (by decide +kernel)
theorem k_62 : (.arrayClass .int : Cond) ∈ gw := gw_of 77 (by decide +kernel) (by decide +kernel)
theorem k_63 : (.classLink "LogDesk" 30 "LogDesk$Pages" : Cond) ∈ gw := gw_of 78 (by decide +kernel) (by decide +kernel)
theorem k_64 : (.instantiable "LogDesk$Pages" 2 : Cond) ∈ gw := gw_of 79 (by decide +kernel) (by decide +kernel)
theorem k_66 : (.instanceMethod y_Pa_init : Cond) ∈ gw := gw_of 81 (by decide +kernel) (by decide +kernel)
theorem k_67 : (.code y_Pa_init prog_5_method_1_code 1 none : Cond) ∈ gw := gw_of 82 (by decide +kernel) (by decide +kernel)
theorem k_68 : (.methodLink "LogDesk$Pages" 3 ⟨"java/lang/Object", "<init>", "()V"⟩ : Cond) ∈ gw := gw_of 83 (by decide +kernel) (by decide +kernel)
theorem k_69 : (.fieldLink "LogDesk$Pages" 9 "LogDesk$Pages" "bits" "[J" : Cond) ∈ gw := gw_of 84 (by decide +kernel) (by decide +kernel)
theorem k_70 : (.fieldLink "LogDesk$Pages" 15 "LogDesk$Pages" "count" "I" : Cond) ∈ gw := gw_of 85 (by decide +kernel) (by decide +kernel)
theorem k_76 : (.arrayClass .long : Cond) ∈ gw := gw_of 91 (by decide +kernel) (by decide +kernel)
theorem k_77 : (.classLink "LogDesk" 37 "LogDesk$Disk" : Cond) ∈ gw := gw_of 92 (by decide +kernel) (by decide +kernel)
theorem k_78 : (.instantiable "LogDesk$Disk" 2 : Cond) ∈ gw := gw_of 93 (by decide +kernel) (by decide +kernel)
theorem k_80 : (.instanceMethod y_Di_init : Cond) ∈ gw := gw_of 95 (by decide +kernel) (by decide +kernel)
theorem k_81 : (.code y_Di_init prog_3_method_1_code 1 none : Cond) ∈ gw := gw_of 96 (by decide +kernel) (by decide +kernel)
theorem k_82 : (.methodLink "LogDesk$Disk" 3 ⟨"java/lang/Object", "<init>", "()V"⟩ : Cond) ∈ gw := gw_of 97 (by decide +kernel) (by decide +kernel)
theorem k_83 : (.fieldLink "LogDesk$Disk" 15 "LogDesk$Disk" "written" "I" : Cond) ∈ gw := gw_of 98 (by decide +kernel) (by decide +kernel)
theorem k_84 : (.fieldLink "LogDesk$Disk" 9 "LogDesk$Disk" "left" "I" : Cond) ∈ gw := gw_of 99 (by decide +kernel) (by decide +kernel)
theorem k_90 : (.fieldLink "LogDesk" 44 "LogDesk" "room" "I" : Cond) ∈ gw := gw_of 105 (by decide +kernel) (by decide +kernel)
theorem k_91 : (.fieldLink "LogDesk" 12 "LogDesk" "ring" "LLogDesk$Ring;" : Cond) ∈ gw := gw_of 106 (by decide +kernel) (by decide +kernel)
theorem k_92 : (.fieldLink "LogDesk" 19 "LogDesk" "hand" "LLogDesk$Hand;" : Cond) ∈ gw := gw_of 107 (by decide +kernel) (by decide +kernel)
theorem k_93 : (.fieldLink "LogDesk" 26 "LogDesk" "waiting" "LLogDesk$Waiting;" : Cond) ∈ gw := gw_of 108 (by decide +kernel) (by decide +kernel)
theorem k_94 : (.fieldLink "LogDesk" 33 "LogDesk" "pages" "LLogDesk$Pages;" : Cond) ∈ gw := gw_of 109 (by decide +kernel) (by decide +kernel)
theorem k_95 : (.fieldLink "LogDesk" 40 "LogDesk" "disk" "LLogDesk$Disk;" : Cond) ∈ gw := gw_of 110 (by decide +kernel) (by decide +kernel)
theorem k_96 : (.fieldLink "LogDesk" 147 "LogDesk" "begin" "I" : Cond) ∈ gw := gw_of 111 (by decide +kernel) (by decide +kernel)
theorem k_97 : (.fieldLink "LogDesk" 90 "LogDesk" "end" "I" : Cond) ∈ gw := gw_of 112 (by decide +kernel) (by decide +kernel)
theorem k_98 : (.fieldLink "LogDesk" 107 "LogDesk" "flushed" "I" : Cond) ∈ gw := gw_of 113 (by decide +kernel) (by decide +kernel)
theorem k_99 : (.fieldLink "LogDesk" 48 "LogDesk" "readStart" "I" : Cond) ∈ gw := gw_of 114 (by decide +kernel) (by decide +kernel)
theorem k_121 : (.methodLink "LogDeskLaw" 51 y_De_put : Cond) ∈ gw := gw_of 136 (by decide +kernel) (by decide +kernel)
theorem k_122 : (.instanceMethod y_De_put : Cond) ∈ gw := gw_of 137 (by decide +kernel) (by decide +kernel)
theorem k_123 : (.selects "LogDesk" y_De_put y_De_put : Cond) ∈ gw := gw_of 138 (by decide +kernel) (by decide +kernel)
theorem k_124 : (.code y_De_put prog_1_method_2_code 5 (some .boolean) : Cond) ∈ gw := gw_of 139 (by decide +kernel) (by decide +kernel)
theorem k_125 : (.methodLink "LogDesk" 51 y_Ha_hasRoomFor : Cond) ∈ gw := gw_of 140 (by decide +kernel) (by decide +kernel)
theorem k_126 : (.instanceMethod y_Ha_hasRoomFor : Cond) ∈ gw := gw_of 141 (by decide +kernel) (by decide +kernel)
theorem k_127 : (.selects "LogDesk$Hand" y_Ha_hasRoomFor y_Ha_hasRoomFor : Cond) ∈ gw := gw_of 142 (by decide +kernel) (by decide +kernel)
theorem k_128 : (.code y_Ha_hasRoomFor prog_4_method_3_code 2 (some .boolean) : Cond) ∈ gw := gw_of 143 (by decide +kernel) (by decide +kernel)
theorem k_129 : (.methodLink "LogDesk" 55 y_Ha_add : Cond) ∈ gw := gw_of 144 (by decide +kernel) (by decide +kernel)
theorem k_130 : (.instanceMethod y_Ha_add : Cond) ∈ gw := gw_of 145 (by decide +kernel) (by decide +kernel)
theorem k_131 : (.selects "LogDesk$Hand" y_Ha_add y_Ha_add : Cond) ∈ gw := gw_of 146 (by decide +kernel) (by decide +kernel)
theorem k_132 : (.code y_Ha_add prog_4_method_4_code 2 none : Cond) ∈ gw := gw_of 147 (by decide +kernel) (by decide +kernel)
theorem k_133 : (.methodLink "LogDeskLaw" 56 y_De_fill : Cond) ∈ gw := gw_of 148 (by decide +kernel) (by decide +kernel)
theorem k_134 : (.instanceMethod y_De_fill : Cond) ∈ gw := gw_of 149 (by decide +kernel) (by decide +kernel)
theorem k_135 : (.selects "LogDesk" y_De_fill y_De_fill : Cond) ∈ gw := gw_of 150 (by decide +kernel) (by decide +kernel)
theorem k_136 : (.code y_De_fill prog_1_method_3_code 4 (some .boolean) : Cond) ∈ gw := gw_of 151 (by decide +kernel) (by decide +kernel)
theorem k_137 : (.methodLink "LogDeskLaw" 74 y_De_told : Cond) ∈ gw := gw_of 152 (by decide +kernel) (by decide +kernel)
theorem k_138 : (.instanceMethod y_De_told : Cond) ∈ gw := gw_of 153 (by decide +kernel) (by decide +kernel)
theorem k_139 : (.selects "LogDesk" y_De_told y_De_told : Cond) ∈ gw := gw_of 154 (by decide +kernel) (by decide +kernel)
theorem k_140 : (.code y_De_told prog_1_method_7_code 2 (some .int) : Cond) ∈ gw := gw_of 155 (by decide +kernel) (by decide +kernel)
theorem k_141 : (.methodLink "LogDesk" 130 y_Wa_first : Cond) ∈ gw := gw_of 156 (by decide +kernel) (by decide +kernel)
theorem k_142 : (.instanceMethod y_Wa_first : Cond) ∈ gw := gw_of 157 (by decide +kernel) (by decide +kernel)
theorem k_143 : (.selects "LogDesk$Waiting" y_Wa_first y_Wa_first : Cond) ∈ gw := gw_of 158 (by decide +kernel) (by decide +kernel)
theorem k_144 : (.code y_Wa_first prog_7_method_7_code 3 (some .int) : Cond) ∈ gw := gw_of 159 (by decide +kernel) (by decide +kernel)
theorem k_145 : (.methodLink "LogDesk$Waiting" 19 y_Wa_has : Cond) ∈ gw := gw_of 160 (by decide +kernel) (by decide +kernel)
theorem k_146 : (.instanceMethod y_Wa_has : Cond) ∈ gw := gw_of 161 (by decide +kernel) (by decide +kernel)
theorem k_147 : (.selects "LogDesk$Waiting" y_Wa_has y_Wa_has : Cond) ∈ gw := gw_of 162 (by decide +kernel) (by decide +kernel)
theorem k_148 : (.code y_Wa_has prog_7_method_3_code 2 (some .boolean) : Cond) ∈ gw := gw_of 163 (by decide +kernel) (by decide +kernel)
theorem k_149 : (.methodLink "LogDesk$Waiting" 15 y_Wa_isSession : Cond) ∈ gw := gw_of 164 (by decide +kernel) (by decide +kernel)
theorem k_150 : (.static y_Wa_isSession : Cond) ∈ gw := gw_of 165 (by decide +kernel) (by decide +kernel)
theorem k_151 : (.code y_Wa_isSession prog_7_method_2_code 1 (some .boolean) : Cond) ∈ gw := gw_of 166 (by decide +kernel) (by decide +kernel)
theorem k_152 : (.methodLink "LogDesk$Waiting" 22 y_Wa_endOf : Cond) ∈ gw := gw_of 167 (by decide +kernel) (by decide +kernel)
theorem k_153 : (.instanceMethod y_Wa_endOf : Cond) ∈ gw := gw_of 168 (by decide +kernel) (by decide +kernel)
theorem k_154 : (.selects "LogDesk$Waiting" y_Wa_endOf y_Wa_endOf : Cond) ∈ gw := gw_of 169 (by decide +kernel) (by decide +kernel)
theorem k_155 : (.code y_Wa_endOf prog_7_method_4_code 2 (some .int) : Cond) ∈ gw := gw_of 170 (by decide +kernel) (by decide +kernel)
theorem k_156 : (.methodLink "LogDesk" 133 y_Wa_endOf : Cond) ∈ gw := gw_of 171 (by decide +kernel) (by decide +kernel)
theorem k_157 : (.methodLink "LogDesk" 136 y_Wa_remove : Cond) ∈ gw := gw_of 172 (by decide +kernel) (by decide +kernel)
theorem k_158 : (.instanceMethod y_Wa_remove : Cond) ∈ gw := gw_of 173 (by decide +kernel) (by decide +kernel)
theorem k_159 : (.selects "LogDesk$Waiting" y_Wa_remove y_Wa_remove : Cond) ∈ gw := gw_of 174 (by decide +kernel) (by decide +kernel)
theorem k_160 : (.code y_Wa_remove prog_7_method_6_code 2 none : Cond) ∈ gw := gw_of 175 (by decide +kernel) (by decide +kernel)
theorem k_161 : (.methodLink "LogDeskLaw" 78 y_De_touch : Cond) ∈ gw := gw_of 176 (by decide +kernel) (by decide +kernel)
theorem k_162 : (.instanceMethod y_De_touch : Cond) ∈ gw := gw_of 177 (by decide +kernel) (by decide +kernel)
theorem k_163 : (.selects "LogDesk" y_De_touch y_De_touch : Cond) ∈ gw := gw_of 178 (by decide +kernel) (by decide +kernel)
theorem k_164 : (.code y_De_touch prog_1_method_8_code 2 (some .boolean) : Cond) ∈ gw := gw_of 179 (by decide +kernel) (by decide +kernel)
theorem k_165 : (.methodLink "LogDesk" 139 y_Pa_add : Cond) ∈ gw := gw_of 180 (by decide +kernel) (by decide +kernel)
theorem k_166 : (.instanceMethod y_Pa_add : Cond) ∈ gw := gw_of 181 (by decide +kernel) (by decide +kernel)
theorem k_167 : (.selects "LogDesk$Pages" y_Pa_add y_Pa_add : Cond) ∈ gw := gw_of 182 (by decide +kernel) (by decide +kernel)
theorem k_168 : (.code y_Pa_add prog_5_method_3_code 5 (some .boolean) : Cond) ∈ gw := gw_of 183 (by decide +kernel) (by decide +kernel)
theorem k_169 : (.methodLink "LogDeskLaw" 83 y_De_mark : Cond) ∈ gw := gw_of 184 (by decide +kernel) (by decide +kernel)
theorem k_170 : (.instanceMethod y_De_mark : Cond) ∈ gw := gw_of 185 (by decide +kernel) (by decide +kernel)
theorem k_171 : (.selects "LogDesk" y_De_mark y_De_mark : Cond) ∈ gw := gw_of 186 (by decide +kernel) (by decide +kernel)
theorem k_172 : (.code y_De_mark prog_1_method_9_code 1 (some .int) : Cond) ∈ gw := gw_of 187 (by decide +kernel) (by decide +kernel)
theorem k_173 : (.methodLink "LogDesk" 141 y_Pa_clear : Cond) ∈ gw := gw_of 188 (by decide +kernel) (by decide +kernel)
theorem k_174 : (.instanceMethod y_Pa_clear : Cond) ∈ gw := gw_of 189 (by decide +kernel) (by decide +kernel)
theorem k_175 : (.selects "LogDesk$Pages" y_Pa_clear y_Pa_clear : Cond) ∈ gw := gw_of 190 (by decide +kernel) (by decide +kernel)
theorem k_176 : (.code y_Pa_clear prog_5_method_4_code 1 none : Cond) ∈ gw := gw_of 191 (by decide +kernel) (by decide +kernel)
theorem k_177 : (.methodLink "LogDesk$Pages" 19 y_Ar_fillJ : Cond) ∈ gw := gw_of 192 (by decide +kernel) (by decide +kernel)
theorem k_178 : (.static y_Ar_fillJ : Cond) ∈ gw := gw_of 193 (by decide +kernel) (by decide +kernel)
theorem k_179 : (.code y_Ar_fillJ prog_18_method_101_code 5 none : Cond) ∈ gw := gw_of 194 (by decide +kernel) (by decide +kernel)
theorem k_180 : (.methodLink "LogDeskLaw" 90 y_De_open : Cond) ∈ gw := gw_of 195 (by decide +kernel) (by decide +kernel)
theorem k_181 : (.instanceMethod y_De_open : Cond) ∈ gw := gw_of 196 (by decide +kernel) (by decide +kernel)
theorem k_182 : (.selects "LogDesk" y_De_open y_De_open : Cond) ∈ gw := gw_of 197 (by decide +kernel) (by decide +kernel)
theorem k_183 : (.code y_De_open prog_1_method_11_code 1 (some .int) : Cond) ∈ gw := gw_of 198 (by decide +kernel) (by decide +kernel)
theorem k_184 : (.methodLink "LogDesk" 150 y_De_recover : Cond) ∈ gw := gw_of 199 (by decide +kernel) (by decide +kernel)
theorem k_186 : (.instanceMethod y_De_recover : Cond) ∈ gw := gw_of 201 (by decide +kernel) (by decide +kernel)
theorem k_187 : (.code y_De_recover prog_1_method_23_code 3 (some .int) : Cond) ∈ gw := gw_of 202 (by decide +kernel) (by decide +kernel)
theorem k_188 : (.methodLink "LogDesk" 153 y_De_endOfRecord : Cond) ∈ gw := gw_of 203 (by decide +kernel) (by decide +kernel)
theorem k_190 : (.instanceMethod y_De_endOfRecord : Cond) ∈ gw := gw_of 205 (by decide +kernel) (by decide +kernel)
theorem k_191 : (.code y_De_endOfRecord prog_1_method_21_code 2 (some .int) : Cond) ∈ gw := gw_of 206 (by decide +kernel) (by decide +kernel)
theorem k_192 : (.methodLink "LogDesk" 162 y_De_bytesOfRecord : Cond) ∈ gw := gw_of 207 (by decide +kernel) (by decide +kernel)
theorem k_194 : (.instanceMethod y_De_bytesOfRecord : Cond) ∈ gw := gw_of 209 (by decide +kernel) (by decide +kernel)
theorem k_195 : (.code y_De_bytesOfRecord prog_1_method_20_code 2 (some .int) : Cond) ∈ gw := gw_of 210 (by decide +kernel) (by decide +kernel)
theorem k_196 : (.methodLink "LogDesk" 161 y_Ri_get : Cond) ∈ gw := gw_of 211 (by decide +kernel) (by decide +kernel)
theorem k_197 : (.instanceMethod y_Ri_get : Cond) ∈ gw := gw_of 212 (by decide +kernel) (by decide +kernel)
theorem k_198 : (.selects "LogDesk$Ring" y_Ri_get y_Ri_get : Cond) ∈ gw := gw_of 213 (by decide +kernel) (by decide +kernel)
theorem k_199 : (.code y_Ri_get prog_6_method_2_code 3 (some .int) : Cond) ∈ gw := gw_of 214 (by decide +kernel) (by decide +kernel)
theorem k_201 : (.static y_De_blockOf : Cond) ∈ gw := gw_of 216 (by decide +kernel) (by decide +kernel)
theorem k_202 : (.code y_De_blockOf prog_1_method_17_code 1 (some .int) : Cond) ∈ gw := gw_of 217 (by decide +kernel) (by decide +kernel)
theorem k_203 : (.methodLink "LogDesk" 93 y_Ha_clear : Cond) ∈ gw := gw_of 218 (by decide +kernel) (by decide +kernel)
theorem k_204 : (.instanceMethod y_Ha_clear : Cond) ∈ gw := gw_of 219 (by decide +kernel) (by decide +kernel)
theorem k_205 : (.selects "LogDesk$Hand" y_Ha_clear y_Ha_clear : Cond) ∈ gw := gw_of 220 (by decide +kernel) (by decide +kernel)
theorem k_206 : (.code y_Ha_clear prog_4_method_6_code 1 none : Cond) ∈ gw := gw_of 221 (by decide +kernel) (by decide +kernel)
theorem k_207 : (.methodLink "LogDesk" 176 y_Wa_clear : Cond) ∈ gw := gw_of 222 (by decide +kernel) (by decide +kernel)
theorem k_208 : (.instanceMethod y_Wa_clear : Cond) ∈ gw := gw_of 223 (by decide +kernel) (by decide +kernel)
theorem k_209 : (.selects "LogDesk$Waiting" y_Wa_clear y_Wa_clear : Cond) ∈ gw := gw_of 224 (by decide +kernel) (by decide +kernel)
theorem k_210 : (.code y_Wa_clear prog_7_method_9_code 1 none : Cond) ∈ gw := gw_of 225 (by decide +kernel) (by decide +kernel)
theorem k_211 : (.methodLink "LogDesk$Waiting" 26 y_Ar_fillI : Cond) ∈ gw := gw_of 226 (by decide +kernel) (by decide +kernel)
theorem k_212 : (.static y_Ar_fillI : Cond) ∈ gw := gw_of 227 (by decide +kernel) (by decide +kernel)
theorem k_213 : (.code y_Ar_fillI prog_18_method_103_code 4 none : Cond) ∈ gw := gw_of 228 (by decide +kernel) (by decide +kernel)
theorem k_214 : (.methodLink "LogDeskLaw" 98 y_De_length : Cond) ∈ gw := gw_of 229 (by decide +kernel) (by decide +kernel)
theorem k_215 : (.instanceMethod y_De_length : Cond) ∈ gw := gw_of 230 (by decide +kernel) (by decide +kernel)
theorem k_216 : (.selects "LogDesk" y_De_length y_De_length : Cond) ∈ gw := gw_of 231 (by decide +kernel) (by decide +kernel)
theorem k_217 : (.code y_De_length prog_1_method_13_code 1 (some .int) : Cond) ∈ gw := gw_of 232 (by decide +kernel) (by decide +kernel)
theorem k_218 : (.methodLink "LogDeskLaw" 102 y_De_byteOf : Cond) ∈ gw := gw_of 233 (by decide +kernel) (by decide +kernel)
theorem k_219 : (.instanceMethod y_De_byteOf : Cond) ∈ gw := gw_of 234 (by decide +kernel) (by decide +kernel)
theorem k_220 : (.selects "LogDesk" y_De_byteOf y_De_byteOf : Cond) ∈ gw := gw_of 235 (by decide +kernel) (by decide +kernel)
theorem k_221 : (.code y_De_byteOf prog_1_method_14_code 2 (some .int) : Cond) ∈ gw := gw_of 236 (by decide +kernel) (by decide +kernel)
theorem k_222 : (.methodLink "LogDeskLaw" 110 y_De_state : Cond) ∈ gw := gw_of 237 (by decide +kernel) (by decide +kernel)
theorem k_223 : (.instanceMethod y_De_state : Cond) ∈ gw := gw_of 238 (by decide +kernel) (by decide +kernel)
theorem k_224 : (.selects "LogDesk" y_De_state y_De_state : Cond) ∈ gw := gw_of 239 (by decide +kernel) (by decide +kernel)
theorem k_225 : (.code y_De_state prog_1_method_16_code 2 (some .int) : Cond) ∈ gw := gw_of 240 (by decide +kernel) (by decide +kernel)
theorem k_226 : (.methodLink "LogDesk" 170 y_Di_written : Cond) ∈ gw := gw_of 241 (by decide +kernel) (by decide +kernel)
theorem k_227 : (.instanceMethod y_Di_written : Cond) ∈ gw := gw_of 242 (by decide +kernel) (by decide +kernel)
theorem k_228 : (.selects "LogDesk$Disk" y_Di_written y_Di_written : Cond) ∈ gw := gw_of 243 (by decide +kernel) (by decide +kernel)
theorem k_229 : (.code y_Di_written prog_3_method_2_code 1 (some .int) : Cond) ∈ gw := gw_of 244 (by decide +kernel) (by decide +kernel)
theorem k_230 : (.methodLink "LogDesk" 66 y_Ha_count : Cond) ∈ gw := gw_of 245 (by decide +kernel) (by decide +kernel)
theorem k_231 : (.instanceMethod y_Ha_count : Cond) ∈ gw := gw_of 246 (by decide +kernel) (by decide +kernel)
theorem k_232 : (.selects "LogDesk$Hand" y_Ha_count y_Ha_count : Cond) ∈ gw := gw_of 247 (by decide +kernel) (by decide +kernel)
theorem k_233 : (.code y_Ha_count prog_4_method_2_code 1 (some .int) : Cond) ∈ gw := gw_of 248 (by decide +kernel) (by decide +kernel)
theorem k_234 : (.methodLink "LogDesk" 173 y_Wa_count : Cond) ∈ gw := gw_of 249 (by decide +kernel) (by decide +kernel)
theorem k_235 : (.instanceMethod y_Wa_count : Cond) ∈ gw := gw_of 250 (by decide +kernel) (by decide +kernel)
theorem k_236 : (.selects "LogDesk$Waiting" y_Wa_count y_Wa_count : Cond) ∈ gw := gw_of 251 (by decide +kernel) (by decide +kernel)
theorem k_237 : (.code y_Wa_count prog_7_method_8_code 3 (some .int) : Cond) ∈ gw := gw_of 252 (by decide +kernel) (by decide +kernel)
theorem k_238 : (.methodLink "LogDesk" 174 y_Pa_count : Cond) ∈ gw := gw_of 253 (by decide +kernel) (by decide +kernel)
theorem k_239 : (.instanceMethod y_Pa_count : Cond) ∈ gw := gw_of 254 (by decide +kernel) (by decide +kernel)
theorem k_240 : (.selects "LogDesk$Pages" y_Pa_count y_Pa_count : Cond) ∈ gw := gw_of 255 (by decide +kernel) (by decide +kernel)
theorem k_241 : (.code y_Pa_count prog_5_method_2_code 1 (some .int) : Cond) ∈ gw := gw_of 256 (by decide +kernel) (by decide +kernel)
theorem k_242 : (.methodLink "LogDeskLaw" 38 y_La_cell : Cond) ∈ gw := gw_of 257 (by decide +kernel) (by decide +kernel)
theorem k_243 : (.static y_La_cell : Cond) ∈ gw := gw_of 258 (by decide +kernel) (by decide +kernel)
theorem k_244 : (.code y_La_cell method_2_code 2 (some .int) : Cond) ∈ gw := gw_of 259 (by decide +kernel) (by decide +kernel)
theorem k_245 : (.methodLink "LogDeskLaw" 61 y_La_append : Cond) ∈ gw := gw_of 260 (by decide +kernel) (by decide +kernel)
theorem k_246 : (.static y_La_append : Cond) ∈ gw := gw_of 261 (by decide +kernel) (by decide +kernel)
theorem k_247 : (.codeWith y_La_append method_3_code 4 (some .int) [(0, 9, 12, 13), (0, 9, 15, 15)] : Cond) ∈ gw := gw_of 262 (by decide +kernel) (by decide +kernel)
theorem k_248 : (.classLink "LogDeskLaw" 13 "java/lang/IllegalArgumentException" : Cond) ∈ gw := gw_of 263 (by decide +kernel) (by decide +kernel)
theorem k_249 : (.classLink "LogDeskLaw" 15 "java/lang/IllegalStateException" : Cond) ∈ gw := gw_of 264 (by decide +kernel) (by decide +kernel)
theorem k_250 : (.methodLink "LogDeskLaw" 7 y_De_append : Cond) ∈ gw := gw_of 265 (by decide +kernel) (by decide +kernel)
theorem k_251 : (.instanceMethod y_De_append : Cond) ∈ gw := gw_of 266 (by decide +kernel) (by decide +kernel)
theorem k_252 : (.selects "LogDesk" y_De_append y_De_append : Cond) ∈ gw := gw_of 267 (by decide +kernel) (by decide +kernel)
theorem k_253 : (.code y_De_append prog_1_method_4_code 5 (some .int) : Cond) ∈ gw := gw_of 268 (by decide +kernel) (by decide +kernel)
theorem k_254 : (.classLink "LogDesk" 59 "java/lang/IllegalArgumentException" : Cond) ∈ gw := gw_of 269 (by decide +kernel) (by decide +kernel)
theorem k_255 : (.instantiable "java/lang/IllegalArgumentException" 6 : Cond) ∈ gw := gw_of 270 (by decide +kernel) (by decide +kernel)
theorem k_263 : (.selects "java/lang/IllegalArgumentException" ⟨"java/lang/Throwable", "fillInStackTrace", "(I)Ljava/lang/Throwable;"⟩ ⟨"java/lang/Throwable", "fillInStackTrace", "(I)Ljava/lang/Throwable;"⟩ : Cond) ∈ gw := gw_of 278 (by decide +kernel) (by decide +kernel)
theorem k_264 : (.selects "java/lang/IllegalArgumentException" ⟨"java/lang/Throwable", "fillInStackTrace", "()Ljava/lang/Throwable;"⟩ ⟨"java/lang/Throwable", "fillInStackTrace", "()Ljava/lang/Throwable;"⟩ : Cond) ∈ gw := gw_of 279 (by decide +kernel) (by decide +kernel)
theorem k_275 : (.fieldLink "java/lang/Throwable" 198 "java/lang/Throwable" "backtrace" "Ljava/lang/Object;" : Cond) ∈ gw := gw_of 290 (by decide +kernel) (by decide +kernel)
theorem k_277 : (.instanceMethod ⟨"java/lang/Throwable", "<init>", "()V"⟩ : Cond) ∈ gw := gw_of 292 (by decide +kernel) (by decide +kernel)
theorem k_278 : (.code ⟨"java/lang/Throwable", "<init>", "()V"⟩ prog_16_method_1_code 1 none : Cond) ∈ gw := gw_of 293 (by decide +kernel) (by decide +kernel)
theorem k_279 : (.methodLink "java/lang/Throwable" 1 ⟨"java/lang/Object", "<init>", "()V"⟩ : Cond) ∈ gw := gw_of 294 (by decide +kernel) (by decide +kernel)
theorem k_280 : (.fieldLink "java/lang/Throwable" 13 "java/lang/Throwable" "UNASSIGNED_STACK" "[Ljava/lang/StackTraceElement;" : Cond) ∈ gw := gw_of 295 (by decide +kernel) (by decide +kernel)
theorem k_282 : (.fieldLink "java/lang/Throwable" 20 "java/lang/Throwable" "SUPPRESSED_SENTINEL" "Ljava/util/List;" : Cond) ∈ gw := gw_of 297 (by decide +kernel) (by decide +kernel)
theorem k_284 : (.methodLink "java/lang/Throwable" 27 ⟨"java/lang/Throwable", "fillInStackTrace", "()Ljava/lang/Throwable;"⟩ : Cond) ∈ gw := gw_of 299 (by decide +kernel) (by decide +kernel)
theorem k_285 : (.instanceMethod ⟨"java/lang/Throwable", "fillInStackTrace", "()Ljava/lang/Throwable;"⟩ : Cond) ∈ gw := gw_of 300 (by decide +kernel) (by decide +kernel)
theorem k_287 : (.selects "java/lang/IllegalStateException" ⟨"java/lang/Throwable", "fillInStackTrace", "()Ljava/lang/Throwable;"⟩ ⟨"java/lang/Throwable", "fillInStackTrace", "()Ljava/lang/Throwable;"⟩ : Cond) ∈ gw := gw_of 302 (by decide +kernel) (by decide +kernel)
theorem k_288 : (.selects "java/lang/UnsupportedOperationException" ⟨"java/lang/Throwable", "fillInStackTrace", "()Ljava/lang/Throwable;"⟩ ⟨"java/lang/Throwable", "fillInStackTrace", "()Ljava/lang/Throwable;"⟩ : Cond) ∈ gw := gw_of 303 (by decide +kernel) (by decide +kernel)
theorem k_289 : (.selects "java/util/NoSuchElementException" ⟨"java/lang/Throwable", "fillInStackTrace", "()Ljava/lang/Throwable;"⟩ ⟨"java/lang/Throwable", "fillInStackTrace", "()Ljava/lang/Throwable;"⟩ : Cond) ∈ gw := gw_of 304 (by decide +kernel) (by decide +kernel)
theorem k_291 : (.methodLink "java/lang/Throwable" 202 ⟨"java/lang/Throwable", "fillInStackTrace", "(I)Ljava/lang/Throwable;"⟩ : Cond) ∈ gw := gw_of 306 (by decide +kernel) (by decide +kernel)
theorem k_293 : (.instanceMethod ⟨"java/lang/Throwable", "fillInStackTrace", "(I)Ljava/lang/Throwable;"⟩ : Cond) ∈ gw := gw_of 308 (by decide +kernel) (by decide +kernel)
theorem k_294 : (.instantiable "java/lang/Throwable" 6 : Cond) ∈ gw := gw_of 309 (by decide +kernel) (by decide +kernel)
theorem k_297 : (.methodLink "LogDesk" 63 ⟨"java/lang/IllegalArgumentException", "<init>", "(Ljava/lang/String;)V"⟩ : Cond) ∈ gw := gw_of 312 (by decide +kernel) (by decide +kernel)
theorem k_298 : (.instanceMethod ⟨"java/lang/IllegalArgumentException", "<init>", "(Ljava/lang/String;)V"⟩ : Cond) ∈ gw := gw_of 313 (by decide +kernel) (by decide +kernel)
theorem k_299 : (.code ⟨"java/lang/IllegalArgumentException", "<init>", "(Ljava/lang/String;)V"⟩ prog_11_method_2_code 2 none : Cond) ∈ gw := gw_of 314 (by decide +kernel) (by decide +kernel)
theorem k_300 : (.methodLink "java/lang/IllegalArgumentException" 7 ⟨"java/lang/RuntimeException", "<init>", "(Ljava/lang/String;)V"⟩ : Cond) ∈ gw := gw_of 315 (by decide +kernel) (by decide +kernel)
theorem k_301 : (.instanceMethod ⟨"java/lang/RuntimeException", "<init>", "(Ljava/lang/String;)V"⟩ : Cond) ∈ gw := gw_of 316 (by decide +kernel) (by decide +kernel)
theorem k_302 : (.code ⟨"java/lang/RuntimeException", "<init>", "(Ljava/lang/String;)V"⟩ prog_14_method_2_code 2 none : Cond) ∈ gw := gw_of 317 (by decide +kernel) (by decide +kernel)
theorem k_303 : (.methodLink "java/lang/RuntimeException" 7 ⟨"java/lang/Exception", "<init>", "(Ljava/lang/String;)V"⟩ : Cond) ∈ gw := gw_of 318 (by decide +kernel) (by decide +kernel)
theorem k_304 : (.instanceMethod ⟨"java/lang/Exception", "<init>", "(Ljava/lang/String;)V"⟩ : Cond) ∈ gw := gw_of 319 (by decide +kernel) (by decide +kernel)
theorem k_305 : (.code ⟨"java/lang/Exception", "<init>", "(Ljava/lang/String;)V"⟩ prog_10_method_2_code 2 none : Cond) ∈ gw := gw_of 320 (by decide +kernel) (by decide +kernel)
theorem k_306 : (.methodLink "java/lang/Exception" 7 ⟨"java/lang/Throwable", "<init>", "(Ljava/lang/String;)V"⟩ : Cond) ∈ gw := gw_of 321 (by decide +kernel) (by decide +kernel)
theorem k_307 : (.instanceMethod ⟨"java/lang/Throwable", "<init>", "(Ljava/lang/String;)V"⟩ : Cond) ∈ gw := gw_of 322 (by decide +kernel) (by decide +kernel)
theorem k_308 : (.code ⟨"java/lang/Throwable", "<init>", "(Ljava/lang/String;)V"⟩ prog_16_method_2_code 2 none : Cond) ∈ gw := gw_of 323 (by decide +kernel) (by decide +kernel)
theorem k_309 : (.fieldLink "java/lang/Throwable" 198 "java/lang/Throwable" "backtrace" "Ljava/lang/Object;" : Cond) ∈ gw := gw_of 324 (by decide +kernel) (by decide +kernel)
theorem k_310 : (.fieldLink "java/lang/Throwable" 31 "java/lang/Throwable" "detailMessage" "Ljava/lang/String;" : Cond) ∈ gw := gw_of 325 (by decide +kernel) (by decide +kernel)
theorem k_311 : (.fieldLink "java/lang/Throwable" 7 "java/lang/Throwable" "cause" "Ljava/lang/Throwable;" : Cond) ∈ gw := gw_of 326 (by decide +kernel) (by decide +kernel)
theorem k_312 : (.fieldLink "java/lang/Throwable" 17 "java/lang/Throwable" "stackTrace" "[Ljava/lang/StackTraceElement;" : Cond) ∈ gw := gw_of 327 (by decide +kernel) (by decide +kernel)
theorem k_313 : (.fieldLink "java/lang/Throwable" 24 "java/lang/Throwable" "suppressedExceptions" "Ljava/util/List;" : Cond) ∈ gw := gw_of 328 (by decide +kernel) (by decide +kernel)
theorem k_322 : (.methodLink "LogDesk" 70 y_De_isFullFor : Cond) ∈ gw := gw_of 337 (by decide +kernel) (by decide +kernel)
theorem k_324 : (.instanceMethod y_De_isFullFor : Cond) ∈ gw := gw_of 339 (by decide +kernel) (by decide +kernel)
theorem k_325 : (.code y_De_isFullFor prog_1_method_18_code 3 (some .boolean) : Cond) ∈ gw := gw_of 340 (by decide +kernel) (by decide +kernel)
theorem k_326 : (.constant "LogDesk" 175 (1000000000 : Int32) : Cond) ∈ gw := gw_of 341 (by decide +kernel) (by decide +kernel)
theorem k_327 : (.methodLink "LogDesk" 110 y_De_blockOf : Cond) ∈ gw := gw_of 342 (by decide +kernel) (by decide +kernel)
theorem k_328 : (.classLink "LogDesk" 73 "java/lang/IllegalStateException" : Cond) ∈ gw := gw_of 343 (by decide +kernel) (by decide +kernel)
theorem k_329 : (.instantiable "java/lang/IllegalStateException" 6 : Cond) ∈ gw := gw_of 344 (by decide +kernel) (by decide +kernel)
theorem k_331 : (.selects "java/lang/IllegalStateException" ⟨"java/lang/Throwable", "fillInStackTrace", "(I)Ljava/lang/Throwable;"⟩ ⟨"java/lang/Throwable", "fillInStackTrace", "(I)Ljava/lang/Throwable;"⟩ : Cond) ∈ gw := gw_of 346 (by decide +kernel) (by decide +kernel)
theorem k_338 : (.methodLink "LogDesk" 77 ⟨"java/lang/IllegalStateException", "<init>", "(Ljava/lang/String;)V"⟩ : Cond) ∈ gw := gw_of 353 (by decide +kernel) (by decide +kernel)
theorem k_339 : (.instanceMethod ⟨"java/lang/IllegalStateException", "<init>", "(Ljava/lang/String;)V"⟩ : Cond) ∈ gw := gw_of 354 (by decide +kernel) (by decide +kernel)
theorem k_340 : (.code ⟨"java/lang/IllegalStateException", "<init>", "(Ljava/lang/String;)V"⟩ prog_12_method_2_code 2 none : Cond) ∈ gw := gw_of 355 (by decide +kernel) (by decide +kernel)
theorem k_341 : (.methodLink "java/lang/IllegalStateException" 7 ⟨"java/lang/RuntimeException", "<init>", "(Ljava/lang/String;)V"⟩ : Cond) ∈ gw := gw_of 356 (by decide +kernel) (by decide +kernel)
theorem k_344 : (.methodLink "LogDesk" 78 y_De_writeHead : Cond) ∈ gw := gw_of 359 (by decide +kernel) (by decide +kernel)
theorem k_346 : (.instanceMethod y_De_writeHead : Cond) ∈ gw := gw_of 361 (by decide +kernel) (by decide +kernel)
theorem k_347 : (.code y_De_writeHead prog_1_method_19_code 3 (some .int) : Cond) ∈ gw := gw_of 362 (by decide +kernel) (by decide +kernel)
theorem k_348 : (.methodLink "LogDesk" 86 y_Ri_set : Cond) ∈ gw := gw_of 363 (by decide +kernel) (by decide +kernel)
theorem k_349 : (.instanceMethod y_Ri_set : Cond) ∈ gw := gw_of 364 (by decide +kernel) (by decide +kernel)
theorem k_350 : (.selects "LogDesk$Ring" y_Ri_set y_Ri_set : Cond) ∈ gw := gw_of 365 (by decide +kernel) (by decide +kernel)
theorem k_351 : (.code y_Ri_set prog_6_method_3_code 5 none : Cond) ∈ gw := gw_of 366 (by decide +kernel) (by decide +kernel)
theorem k_352 : (.instantiable "LogDesk$Block" 1 : Cond) ∈ gw := gw_of 367 (by decide +kernel) (by decide +kernel)
theorem k_354 : (.instanceMethod y_Bl_init : Cond) ∈ gw := gw_of 369 (by decide +kernel) (by decide +kernel)
theorem k_355 : (.code y_Bl_init prog_2_method_1_code 1 none : Cond) ∈ gw := gw_of 370 (by decide +kernel) (by decide +kernel)
theorem k_356 : (.methodLink "LogDesk$Block" 3 ⟨"java/lang/Object", "<init>", "()V"⟩ : Cond) ∈ gw := gw_of 371 (by decide +kernel) (by decide +kernel)
theorem k_357 : (.fieldLink "LogDesk$Block" 9 "LogDesk$Block" "cells" "[B" : Cond) ∈ gw := gw_of 372 (by decide +kernel) (by decide +kernel)
theorem k_362 : (.methodLink "LogDesk" 82 y_Ha_get : Cond) ∈ gw := gw_of 377 (by decide +kernel) (by decide +kernel)
theorem k_363 : (.instanceMethod y_Ha_get : Cond) ∈ gw := gw_of 378 (by decide +kernel) (by decide +kernel)
theorem k_364 : (.selects "LogDesk$Hand" y_Ha_get y_Ha_get : Cond) ∈ gw := gw_of 379 (by decide +kernel) (by decide +kernel)
theorem k_365 : (.code y_Ha_get prog_4_method_5_code 2 (some .int) : Cond) ∈ gw := gw_of 380 (by decide +kernel) (by decide +kernel)
theorem k_366 : (.methodLink "LogDeskLaw" 68 y_La_commit : Cond) ∈ gw := gw_of 381 (by decide +kernel) (by decide +kernel)
theorem k_367 : (.static y_La_commit : Cond) ∈ gw := gw_of 382 (by decide +kernel) (by decide +kernel)
theorem k_368 : (.codeWith y_La_commit method_4_code 4 (some .int) [(0, 9, 12, 13), (0, 9, 15, 15)] : Cond) ∈ gw := gw_of 383 (by decide +kernel) (by decide +kernel)
theorem k_369 : (.methodLink "LogDeskLaw" 17 y_De_commit : Cond) ∈ gw := gw_of 384 (by decide +kernel) (by decide +kernel)
theorem k_370 : (.instanceMethod y_De_commit : Cond) ∈ gw := gw_of 385 (by decide +kernel) (by decide +kernel)
theorem k_371 : (.selects "LogDesk" y_De_commit y_De_commit : Cond) ∈ gw := gw_of 386 (by decide +kernel) (by decide +kernel)
theorem k_372 : (.code y_De_commit prog_1_method_5_code 3 (some .int) : Cond) ∈ gw := gw_of 387 (by decide +kernel) (by decide +kernel)
theorem k_374 : (.methodLink "LogDesk" 98 y_Wa_has : Cond) ∈ gw := gw_of 389 (by decide +kernel) (by decide +kernel)
theorem k_376 : (.methodLink "LogDesk" 103 y_Wa_add : Cond) ∈ gw := gw_of 391 (by decide +kernel) (by decide +kernel)
theorem k_377 : (.instanceMethod y_Wa_add : Cond) ∈ gw := gw_of 392 (by decide +kernel) (by decide +kernel)
theorem k_378 : (.selects "LogDesk$Waiting" y_Wa_add y_Wa_add : Cond) ∈ gw := gw_of 393 (by decide +kernel) (by decide +kernel)
theorem k_379 : (.code y_Wa_add prog_7_method_5_code 3 none : Cond) ∈ gw := gw_of 394 (by decide +kernel) (by decide +kernel)
theorem k_380 : (.methodLink "LogDeskLaw" 71 y_La_flush : Cond) ∈ gw := gw_of 395 (by decide +kernel) (by decide +kernel)
theorem k_381 : (.static y_La_flush : Cond) ∈ gw := gw_of 396 (by decide +kernel) (by decide +kernel)
theorem k_382 : (.codeWith y_La_flush method_5_code 4 (some .int) [(0, 9, 12, 13), (0, 9, 15, 23)] : Cond) ∈ gw := gw_of 397 (by decide +kernel) (by decide +kernel)
theorem k_383 : (.classLink "LogDeskLaw" 23 "java/lang/UnsupportedOperationException" : Cond) ∈ gw := gw_of 398 (by decide +kernel) (by decide +kernel)
theorem k_384 : (.methodLink "LogDeskLaw" 20 y_De_flush : Cond) ∈ gw := gw_of 399 (by decide +kernel) (by decide +kernel)
theorem k_385 : (.instanceMethod y_De_flush : Cond) ∈ gw := gw_of 400 (by decide +kernel) (by decide +kernel)
theorem k_386 : (.selects "LogDesk" y_De_flush y_De_flush : Cond) ∈ gw := gw_of 401 (by decide +kernel) (by decide +kernel)
theorem k_387 : (.code y_De_flush prog_1_method_6_code 5 (some .int) : Cond) ∈ gw := gw_of 402 (by decide +kernel) (by decide +kernel)
theorem k_389 : (.methodLink "LogDesk" 113 y_Di_writeBlock : Cond) ∈ gw := gw_of 404 (by decide +kernel) (by decide +kernel)
theorem k_390 : (.instanceMethod y_Di_writeBlock : Cond) ∈ gw := gw_of 405 (by decide +kernel) (by decide +kernel)
theorem k_391 : (.selects "LogDesk$Disk" y_Di_writeBlock y_Di_writeBlock : Cond) ∈ gw := gw_of 406 (by decide +kernel) (by decide +kernel)
theorem k_392 : (.code y_Di_writeBlock prog_3_method_5_code 1 (some .boolean) : Cond) ∈ gw := gw_of 407 (by decide +kernel) (by decide +kernel)
theorem k_393 : (.methodLink "LogDesk" 117 y_De_cutPower : Cond) ∈ gw := gw_of 408 (by decide +kernel) (by decide +kernel)
theorem k_395 : (.instanceMethod y_De_cutPower : Cond) ∈ gw := gw_of 410 (by decide +kernel) (by decide +kernel)
theorem k_396 : (.code y_De_cutPower prog_1_method_24_code 1 none : Cond) ∈ gw := gw_of 411 (by decide +kernel) (by decide +kernel)
theorem k_397 : (.methodLink "LogDesk" 177 y_Di_dropCharge : Cond) ∈ gw := gw_of 412 (by decide +kernel) (by decide +kernel)
theorem k_398 : (.instanceMethod y_Di_dropCharge : Cond) ∈ gw := gw_of 413 (by decide +kernel) (by decide +kernel)
theorem k_399 : (.selects "LogDesk$Disk" y_Di_dropCharge y_Di_dropCharge : Cond) ∈ gw := gw_of 414 (by decide +kernel) (by decide +kernel)
theorem k_400 : (.code y_Di_dropCharge prog_3_method_4_code 1 none : Cond) ∈ gw := gw_of 415 (by decide +kernel) (by decide +kernel)
theorem k_401 : (.classLink "LogDesk" 120 "java/lang/UnsupportedOperationException" : Cond) ∈ gw := gw_of 416 (by decide +kernel) (by decide +kernel)
theorem k_402 : (.instantiable "java/lang/UnsupportedOperationException" 6 : Cond) ∈ gw := gw_of 417 (by decide +kernel) (by decide +kernel)
theorem k_404 : (.selects "java/lang/UnsupportedOperationException" ⟨"java/lang/Throwable", "fillInStackTrace", "(I)Ljava/lang/Throwable;"⟩ ⟨"java/lang/Throwable", "fillInStackTrace", "(I)Ljava/lang/Throwable;"⟩ : Cond) ∈ gw := gw_of 419 (by decide +kernel) (by decide +kernel)
theorem k_411 : (.methodLink "LogDesk" 124 ⟨"java/lang/UnsupportedOperationException", "<init>", "(Ljava/lang/String;)V"⟩ : Cond) ∈ gw := gw_of 426 (by decide +kernel) (by decide +kernel)
theorem k_412 : (.instanceMethod ⟨"java/lang/UnsupportedOperationException", "<init>", "(Ljava/lang/String;)V"⟩ : Cond) ∈ gw := gw_of 427 (by decide +kernel) (by decide +kernel)
theorem k_413 : (.code ⟨"java/lang/UnsupportedOperationException", "<init>", "(Ljava/lang/String;)V"⟩ prog_17_method_2_code 2 none : Cond) ∈ gw := gw_of 428 (by decide +kernel) (by decide +kernel)
theorem k_414 : (.methodLink "java/lang/UnsupportedOperationException" 7 ⟨"java/lang/RuntimeException", "<init>", "(Ljava/lang/String;)V"⟩ : Cond) ∈ gw := gw_of 429 (by decide +kernel) (by decide +kernel)
theorem k_417 : (.methodLink "LogDesk" 125 y_Ma_min : Cond) ∈ gw := gw_of 432 (by decide +kernel) (by decide +kernel)
theorem k_418 : (.static y_Ma_min : Cond) ∈ gw := gw_of 433 (by decide +kernel) (by decide +kernel)
theorem k_419 : (.code y_Ma_min prog_13_method_69_code 2 (some .int) : Cond) ∈ gw := gw_of 434 (by decide +kernel) (by decide +kernel)
theorem k_420 : (.methodLink "LogDeskLaw" 87 y_La_checkpoint : Cond) ∈ gw := gw_of 435 (by decide +kernel) (by decide +kernel)
theorem k_421 : (.static y_La_checkpoint : Cond) ∈ gw := gw_of 436 (by decide +kernel) (by decide +kernel)
theorem k_422 : (.codeWith y_La_checkpoint method_6_code 4 (some .int) [(0, 9, 12, 13), (0, 9, 15, 23)] : Cond) ∈ gw := gw_of 437 (by decide +kernel) (by decide +kernel)
theorem k_423 : (.methodLink "LogDeskLaw" 25 y_De_checkpoint : Cond) ∈ gw := gw_of 438 (by decide +kernel) (by decide +kernel)
theorem k_424 : (.instanceMethod y_De_checkpoint : Cond) ∈ gw := gw_of 439 (by decide +kernel) (by decide +kernel)
theorem k_425 : (.selects "LogDesk" y_De_checkpoint y_De_checkpoint : Cond) ∈ gw := gw_of 440 (by decide +kernel) (by decide +kernel)
theorem k_426 : (.code y_De_checkpoint prog_1_method_10_code 2 (some .int) : Cond) ∈ gw := gw_of 441 (by decide +kernel) (by decide +kernel)
theorem k_427 : (.methodLink "LogDesk" 142 y_De_isEdge : Cond) ∈ gw := gw_of 442 (by decide +kernel) (by decide +kernel)
theorem k_429 : (.instanceMethod y_De_isEdge : Cond) ∈ gw := gw_of 444 (by decide +kernel) (by decide +kernel)
theorem k_430 : (.code y_De_isEdge prog_1_method_22_code 4 (some .boolean) : Cond) ∈ gw := gw_of 445 (by decide +kernel) (by decide +kernel)
theorem k_432 : (.methodLink "LogDeskLaw" 94 y_La_next : Cond) ∈ gw := gw_of 447 (by decide +kernel) (by decide +kernel)
theorem k_433 : (.static y_La_next : Cond) ∈ gw := gw_of 448 (by decide +kernel) (by decide +kernel)
theorem k_434 : (.codeWith y_La_next method_7_code 3 (some .int) [(0, 8, 11, 32)] : Cond) ∈ gw := gw_of 449 (by decide +kernel) (by decide +kernel)
theorem k_435 : (.classLink "LogDeskLaw" 32 "java/util/NoSuchElementException" : Cond) ∈ gw := gw_of 450 (by decide +kernel) (by decide +kernel)
theorem k_436 : (.methodLink "LogDeskLaw" 28 y_De_next : Cond) ∈ gw := gw_of 451 (by decide +kernel) (by decide +kernel)
theorem k_437 : (.instanceMethod y_De_next : Cond) ∈ gw := gw_of 452 (by decide +kernel) (by decide +kernel)
theorem k_438 : (.selects "LogDesk" y_De_next y_De_next : Cond) ∈ gw := gw_of 453 (by decide +kernel) (by decide +kernel)
theorem k_439 : (.code y_De_next prog_1_method_12_code 2 (some .int) : Cond) ∈ gw := gw_of 454 (by decide +kernel) (by decide +kernel)
theorem k_440 : (.classLink "LogDesk" 156 "java/util/NoSuchElementException" : Cond) ∈ gw := gw_of 455 (by decide +kernel) (by decide +kernel)
theorem k_441 : (.instantiable "java/util/NoSuchElementException" 6 : Cond) ∈ gw := gw_of 456 (by decide +kernel) (by decide +kernel)
theorem k_443 : (.selects "java/util/NoSuchElementException" ⟨"java/lang/Throwable", "fillInStackTrace", "(I)Ljava/lang/Throwable;"⟩ ⟨"java/lang/Throwable", "fillInStackTrace", "(I)Ljava/lang/Throwable;"⟩ : Cond) ∈ gw := gw_of 458 (by decide +kernel) (by decide +kernel)
theorem k_450 : (.methodLink "LogDesk" 160 ⟨"java/util/NoSuchElementException", "<init>", "(Ljava/lang/String;)V"⟩ : Cond) ∈ gw := gw_of 465 (by decide +kernel) (by decide +kernel)
theorem k_451 : (.instanceMethod ⟨"java/util/NoSuchElementException", "<init>", "(Ljava/lang/String;)V"⟩ : Cond) ∈ gw := gw_of 466 (by decide +kernel) (by decide +kernel)
theorem k_452 : (.code ⟨"java/util/NoSuchElementException", "<init>", "(Ljava/lang/String;)V"⟩ prog_19_method_4_code 2 none : Cond) ∈ gw := gw_of 467 (by decide +kernel) (by decide +kernel)
theorem k_453 : (.methodLink "java/util/NoSuchElementException" 13 ⟨"java/lang/RuntimeException", "<init>", "(Ljava/lang/String;)V"⟩ : Cond) ∈ gw := gw_of 468 (by decide +kernel) (by decide +kernel)
theorem k_456 : (.methodLink "LogDeskLaw" 106 y_La_charge : Cond) ∈ gw := gw_of 471 (by decide +kernel) (by decide +kernel)
theorem k_457 : (.static y_La_charge : Cond) ∈ gw := gw_of 472 (by decide +kernel) (by decide +kernel)
theorem k_458 : (.codeWith y_La_charge method_8_code 3 (some .int) [(0, 5, 8, 13)] : Cond) ∈ gw := gw_of 473 (by decide +kernel) (by decide +kernel)
theorem k_459 : (.methodLink "LogDeskLaw" 34 y_De_charge : Cond) ∈ gw := gw_of 474 (by decide +kernel) (by decide +kernel)
theorem k_460 : (.instanceMethod y_De_charge : Cond) ∈ gw := gw_of 475 (by decide +kernel) (by decide +kernel)
theorem k_461 : (.selects "LogDesk" y_De_charge y_De_charge : Cond) ∈ gw := gw_of 476 (by decide +kernel) (by decide +kernel)
theorem k_462 : (.code y_De_charge prog_1_method_15_code 2 none : Cond) ∈ gw := gw_of 477 (by decide +kernel) (by decide +kernel)
theorem k_464 : (.methodLink "LogDesk" 167 y_Di_setCharge : Cond) ∈ gw := gw_of 479 (by decide +kernel) (by decide +kernel)
theorem k_465 : (.instanceMethod y_Di_setCharge : Cond) ∈ gw := gw_of 480 (by decide +kernel) (by decide +kernel)
theorem k_466 : (.selects "LogDesk$Disk" y_Di_setCharge y_Di_setCharge : Cond) ∈ gw := gw_of 481 (by decide +kernel) (by decide +kernel)
theorem k_467 : (.code y_Di_setCharge prog_3_method_3_code 2 none : Cond) ∈ gw := gw_of 482 (by decide +kernel) (by decide +kernel)
theorem k_468 : (.classLink "LogDeskLaw" 46 "LogDeskModel" : Cond) ∈ gw := gw_of 483 (by decide +kernel) (by decide +kernel)
theorem k_469 : (.instantiable "LogDeskModel" 20 : Cond) ∈ gw := gw_of 484 (by decide +kernel) (by decide +kernel)
theorem k_470 : (.methodLink "LogDeskLaw" 48 y_Mo_init : Cond) ∈ gw := gw_of 485 (by decide +kernel) (by decide +kernel)
theorem k_471 : (.instanceMethod y_Mo_init : Cond) ∈ gw := gw_of 486 (by decide +kernel) (by decide +kernel)
theorem k_472 : (.code y_Mo_init prog_9_method_1_code 2 none : Cond) ∈ gw := gw_of 487 (by decide +kernel) (by decide +kernel)
theorem k_473 : (.methodLink "LogDeskModel" 1 ⟨"java/lang/Object", "<init>", "()V"⟩ : Cond) ∈ gw := gw_of 488 (by decide +kernel) (by decide +kernel)
theorem k_474 : (.fieldLink "LogDeskModel" 46 "LogDeskModel" "thrown" "I" : Cond) ∈ gw := gw_of 489 (by decide +kernel) (by decide +kernel)
theorem k_475 : (.fieldLink "LogDeskModel" 43 "LogDeskModel" "blocks" "I" : Cond) ∈ gw := gw_of 490 (by decide +kernel) (by decide +kernel)
theorem k_476 : (.fieldLink "LogDeskModel" 63 "LogDeskModel" "records" "I" : Cond) ∈ gw := gw_of 491 (by decide +kernel) (by decide +kernel)
theorem k_477 : (.fieldLink "LogDeskModel" 7 "LogDeskModel" "kinds" "[I" : Cond) ∈ gw := gw_of 492 (by decide +kernel) (by decide +kernel)
theorem k_478 : (.fieldLink "LogDeskModel" 13 "LogDeskModel" "froms" "[I" : Cond) ∈ gw := gw_of 493 (by decide +kernel) (by decide +kernel)
theorem k_479 : (.fieldLink "LogDeskModel" 16 "LogDeskModel" "sizes" "[I" : Cond) ∈ gw := gw_of 494 (by decide +kernel) (by decide +kernel)
theorem k_480 : (.fieldLink "LogDeskModel" 19 "LogDeskModel" "ends" "[I" : Cond) ∈ gw := gw_of 495 (by decide +kernel) (by decide +kernel)
theorem k_481 : (.fieldLink "LogDeskModel" 66 "LogDeskModel" "used" "I" : Cond) ∈ gw := gw_of 496 (by decide +kernel) (by decide +kernel)
theorem k_482 : (.fieldLink "LogDeskModel" 60 "LogDeskModel" "first" "I" : Cond) ∈ gw := gw_of 497 (by decide +kernel) (by decide +kernel)
theorem k_483 : (.fieldLink "LogDeskModel" 22 "LogDeskModel" "bytes" "[B" : Cond) ∈ gw := gw_of 498 (by decide +kernel) (by decide +kernel)
theorem k_484 : (.fieldLink "LogDeskModel" 26 "LogDeskModel" "hand" "[I" : Cond) ∈ gw := gw_of 499 (by decide +kernel) (by decide +kernel)
theorem k_485 : (.fieldLink "LogDeskModel" 49 "LogDeskModel" "inHand" "I" : Cond) ∈ gw := gw_of 500 (by decide +kernel) (by decide +kernel)
theorem k_486 : (.fieldLink "LogDeskModel" 57 "LogDeskModel" "begin" "I" : Cond) ∈ gw := gw_of 501 (by decide +kernel) (by decide +kernel)
theorem k_487 : (.fieldLink "LogDeskModel" 54 "LogDeskModel" "end" "I" : Cond) ∈ gw := gw_of 502 (by decide +kernel) (by decide +kernel)
theorem k_488 : (.fieldLink "LogDeskModel" 91 "LogDeskModel" "flushed" "I" : Cond) ∈ gw := gw_of 503 (by decide +kernel) (by decide +kernel)
theorem k_489 : (.fieldLink "LogDeskModel" 88 "LogDeskModel" "written" "I" : Cond) ∈ gw := gw_of 504 (by decide +kernel) (by decide +kernel)
theorem k_490 : (.fieldLink "LogDeskModel" 29 "LogDeskModel" "left" "I" : Cond) ∈ gw := gw_of 505 (by decide +kernel) (by decide +kernel)
theorem k_491 : (.fieldLink "LogDeskModel" 33 "LogDeskModel" "waits" "[I" : Cond) ∈ gw := gw_of 506 (by decide +kernel) (by decide +kernel)
theorem k_492 : (.fieldLink "LogDeskModel" 36 "LogDeskModel" "touched" "[Z" : Cond) ∈ gw := gw_of 507 (by decide +kernel) (by decide +kernel)
theorem k_493 : (.fieldLink "LogDeskModel" 40 "LogDeskModel" "read" "I" : Cond) ∈ gw := gw_of 508 (by decide +kernel) (by decide +kernel)
theorem k_535 : (.arrayClass .boolean : Cond) ∈ gw := gw_of 550 (by decide +kernel) (by decide +kernel)
theorem k_536 : (.methodLink "LogDeskLaw" 65 y_Mo_thrown : Cond) ∈ gw := gw_of 551 (by decide +kernel) (by decide +kernel)
theorem k_537 : (.instanceMethod y_Mo_thrown : Cond) ∈ gw := gw_of 552 (by decide +kernel) (by decide +kernel)
theorem k_538 : (.selects "LogDeskModel" y_Mo_thrown y_Mo_thrown : Cond) ∈ gw := gw_of 553 (by decide +kernel) (by decide +kernel)
theorem k_539 : (.code y_Mo_thrown prog_9_method_2_code 1 (some .int) : Cond) ∈ gw := gw_of 554 (by decide +kernel) (by decide +kernel)
theorem k_540 : (.methodLink "LogDeskLaw" 55 y_Mo_put : Cond) ∈ gw := gw_of 555 (by decide +kernel) (by decide +kernel)
theorem k_541 : (.instanceMethod y_Mo_put : Cond) ∈ gw := gw_of 556 (by decide +kernel) (by decide +kernel)
theorem k_542 : (.selects "LogDeskModel" y_Mo_put y_Mo_put : Cond) ∈ gw := gw_of 557 (by decide +kernel) (by decide +kernel)
theorem k_543 : (.code y_Mo_put prog_9_method_4_code 5 (some .boolean) : Cond) ∈ gw := gw_of 558 (by decide +kernel) (by decide +kernel)
theorem k_544 : (.constantLong "LogDeskModel" 52 (255 : Int64) : Cond) ∈ gw := gw_of 559 (by decide +kernel) (by decide +kernel)
theorem k_545 : (.methodLink "LogDeskLaw" 60 y_Mo_fill : Cond) ∈ gw := gw_of 560 (by decide +kernel) (by decide +kernel)
theorem k_546 : (.instanceMethod y_Mo_fill : Cond) ∈ gw := gw_of 561 (by decide +kernel) (by decide +kernel)
theorem k_547 : (.selects "LogDeskModel" y_Mo_fill y_Mo_fill : Cond) ∈ gw := gw_of 562 (by decide +kernel) (by decide +kernel)
theorem k_548 : (.code y_Mo_fill prog_9_method_5_code 4 (some .boolean) : Cond) ∈ gw := gw_of 563 (by decide +kernel) (by decide +kernel)
theorem k_549 : (.methodLink "LogDeskLaw" 64 y_Mo_append : Cond) ∈ gw := gw_of 564 (by decide +kernel) (by decide +kernel)
theorem k_550 : (.instanceMethod y_Mo_append : Cond) ∈ gw := gw_of 565 (by decide +kernel) (by decide +kernel)
theorem k_551 : (.selects "LogDeskModel" y_Mo_append y_Mo_append : Cond) ∈ gw := gw_of 566 (by decide +kernel) (by decide +kernel)
theorem k_552 : (.code y_Mo_append prog_9_method_9_code 3 (some .int) : Cond) ∈ gw := gw_of 567 (by decide +kernel) (by decide +kernel)
theorem k_553 : (.methodLink "LogDeskModel" 72 y_Mo_fails : Cond) ∈ gw := gw_of 568 (by decide +kernel) (by decide +kernel)
theorem k_555 : (.instanceMethod y_Mo_fails : Cond) ∈ gw := gw_of 570 (by decide +kernel) (by decide +kernel)
theorem k_556 : (.code y_Mo_fails prog_9_method_3_code 2 (some .int) : Cond) ∈ gw := gw_of 571 (by decide +kernel) (by decide +kernel)
theorem k_557 : (.methodLink "LogDeskModel" 76 y_Mo_isFull : Cond) ∈ gw := gw_of 572 (by decide +kernel) (by decide +kernel)
theorem k_559 : (.instanceMethod y_Mo_isFull : Cond) ∈ gw := gw_of 574 (by decide +kernel) (by decide +kernel)
theorem k_560 : (.code y_Mo_isFull prog_9_method_6_code 2 (some .boolean) : Cond) ∈ gw := gw_of 575 (by decide +kernel) (by decide +kernel)
theorem k_561 : (.methodLink "LogDeskModel" 80 y_Mo_record : Cond) ∈ gw := gw_of 576 (by decide +kernel) (by decide +kernel)
theorem k_563 : (.instanceMethod y_Mo_record : Cond) ∈ gw := gw_of 578 (by decide +kernel) (by decide +kernel)
theorem k_564 : (.code y_Mo_record prog_9_method_8_code 3 none : Cond) ∈ gw := gw_of 579 (by decide +kernel) (by decide +kernel)
theorem k_565 : (.methodLink "LogDeskModel" 69 y_Mo_shrink : Cond) ∈ gw := gw_of 580 (by decide +kernel) (by decide +kernel)
theorem k_567 : (.instanceMethod y_Mo_shrink : Cond) ∈ gw := gw_of 582 (by decide +kernel) (by decide +kernel)
theorem k_568 : (.code y_Mo_shrink prog_9_method_7_code 5 none : Cond) ∈ gw := gw_of 583 (by decide +kernel) (by decide +kernel)
theorem k_569 : (.methodLink "LogDeskLaw" 70 y_Mo_commit : Cond) ∈ gw := gw_of 584 (by decide +kernel) (by decide +kernel)
theorem k_570 : (.instanceMethod y_Mo_commit : Cond) ∈ gw := gw_of 585 (by decide +kernel) (by decide +kernel)
theorem k_571 : (.selects "LogDeskModel" y_Mo_commit y_Mo_commit : Cond) ∈ gw := gw_of 586 (by decide +kernel) (by decide +kernel)
theorem k_572 : (.code y_Mo_commit prog_9_method_10_code 2 (some .int) : Cond) ∈ gw := gw_of 587 (by decide +kernel) (by decide +kernel)
theorem k_573 : (.methodLink "LogDeskLaw" 73 y_Mo_flush : Cond) ∈ gw := gw_of 588 (by decide +kernel) (by decide +kernel)
theorem k_574 : (.instanceMethod y_Mo_flush : Cond) ∈ gw := gw_of 589 (by decide +kernel) (by decide +kernel)
theorem k_575 : (.selects "LogDeskModel" y_Mo_flush y_Mo_flush : Cond) ∈ gw := gw_of 590 (by decide +kernel) (by decide +kernel)
theorem k_576 : (.code y_Mo_flush prog_9_method_12_code 4 (some .int) : Cond) ∈ gw := gw_of 591 (by decide +kernel) (by decide +kernel)
theorem k_577 : (.methodLink "LogDeskModel" 94 y_Mo_writes : Cond) ∈ gw := gw_of 592 (by decide +kernel) (by decide +kernel)
theorem k_579 : (.instanceMethod y_Mo_writes : Cond) ∈ gw := gw_of 594 (by decide +kernel) (by decide +kernel)
theorem k_580 : (.code y_Mo_writes prog_9_method_11_code 1 (some .boolean) : Cond) ∈ gw := gw_of 595 (by decide +kernel) (by decide +kernel)
theorem k_581 : (.methodLink "LogDeskModel" 84 y_Mo_lose : Cond) ∈ gw := gw_of 596 (by decide +kernel) (by decide +kernel)
theorem k_583 : (.instanceMethod y_Mo_lose : Cond) ∈ gw := gw_of 598 (by decide +kernel) (by decide +kernel)
theorem k_584 : (.code y_Mo_lose prog_9_method_18_code 2 (some .int) : Cond) ∈ gw := gw_of 599 (by decide +kernel) (by decide +kernel)
theorem k_585 : (.methodLink "LogDeskModel" 98 y_Mo_untouch : Cond) ∈ gw := gw_of 600 (by decide +kernel) (by decide +kernel)
theorem k_587 : (.instanceMethod y_Mo_untouch : Cond) ∈ gw := gw_of 602 (by decide +kernel) (by decide +kernel)
theorem k_588 : (.code y_Mo_untouch prog_9_method_15_code 2 none : Cond) ∈ gw := gw_of 603 (by decide +kernel) (by decide +kernel)
theorem k_589 : (.methodLink "LogDeskLaw" 77 y_Mo_told : Cond) ∈ gw := gw_of 604 (by decide +kernel) (by decide +kernel)
theorem k_590 : (.instanceMethod y_Mo_told : Cond) ∈ gw := gw_of 605 (by decide +kernel) (by decide +kernel)
theorem k_591 : (.selects "LogDeskModel" y_Mo_told y_Mo_told : Cond) ∈ gw := gw_of 606 (by decide +kernel) (by decide +kernel)
theorem k_592 : (.code y_Mo_told prog_9_method_13_code 3 (some .int) : Cond) ∈ gw := gw_of 607 (by decide +kernel) (by decide +kernel)
theorem k_593 : (.methodLink "LogDeskLaw" 82 y_Mo_touch : Cond) ∈ gw := gw_of 608 (by decide +kernel) (by decide +kernel)
theorem k_594 : (.instanceMethod y_Mo_touch : Cond) ∈ gw := gw_of 609 (by decide +kernel) (by decide +kernel)
theorem k_595 : (.selects "LogDeskModel" y_Mo_touch y_Mo_touch : Cond) ∈ gw := gw_of 610 (by decide +kernel) (by decide +kernel)
theorem k_596 : (.code y_Mo_touch prog_9_method_14_code 2 (some .boolean) : Cond) ∈ gw := gw_of 611 (by decide +kernel) (by decide +kernel)
theorem k_597 : (.methodLink "LogDeskLaw" 86 y_Mo_mark : Cond) ∈ gw := gw_of 612 (by decide +kernel) (by decide +kernel)
theorem k_598 : (.instanceMethod y_Mo_mark : Cond) ∈ gw := gw_of 613 (by decide +kernel) (by decide +kernel)
theorem k_599 : (.selects "LogDeskModel" y_Mo_mark y_Mo_mark : Cond) ∈ gw := gw_of 614 (by decide +kernel) (by decide +kernel)
theorem k_600 : (.code y_Mo_mark prog_9_method_16_code 1 (some .int) : Cond) ∈ gw := gw_of 615 (by decide +kernel) (by decide +kernel)
theorem k_601 : (.methodLink "LogDeskLaw" 89 y_Mo_checkpoint : Cond) ∈ gw := gw_of 616 (by decide +kernel) (by decide +kernel)
theorem k_602 : (.instanceMethod y_Mo_checkpoint : Cond) ∈ gw := gw_of 617 (by decide +kernel) (by decide +kernel)
theorem k_603 : (.selects "LogDeskModel" y_Mo_checkpoint y_Mo_checkpoint : Cond) ∈ gw := gw_of 618 (by decide +kernel) (by decide +kernel)
theorem k_604 : (.code y_Mo_checkpoint prog_9_method_17_code 4 (some .int) : Cond) ∈ gw := gw_of 619 (by decide +kernel) (by decide +kernel)
theorem k_605 : (.methodLink "LogDeskLaw" 93 y_Mo_open : Cond) ∈ gw := gw_of 620 (by decide +kernel) (by decide +kernel)
theorem k_606 : (.instanceMethod y_Mo_open : Cond) ∈ gw := gw_of 621 (by decide +kernel) (by decide +kernel)
theorem k_607 : (.selects "LogDeskModel" y_Mo_open y_Mo_open : Cond) ∈ gw := gw_of 622 (by decide +kernel) (by decide +kernel)
theorem k_608 : (.code y_Mo_open prog_9_method_19_code 1 (some .int) : Cond) ∈ gw := gw_of 623 (by decide +kernel) (by decide +kernel)
theorem k_609 : (.methodLink "LogDeskLaw" 97 y_Mo_next : Cond) ∈ gw := gw_of 624 (by decide +kernel) (by decide +kernel)
theorem k_610 : (.instanceMethod y_Mo_next : Cond) ∈ gw := gw_of 625 (by decide +kernel) (by decide +kernel)
theorem k_611 : (.selects "LogDeskModel" y_Mo_next y_Mo_next : Cond) ∈ gw := gw_of 626 (by decide +kernel) (by decide +kernel)
theorem k_612 : (.code y_Mo_next prog_9_method_20_code 1 (some .int) : Cond) ∈ gw := gw_of 627 (by decide +kernel) (by decide +kernel)
theorem k_613 : (.methodLink "LogDeskLaw" 101 y_Mo_length : Cond) ∈ gw := gw_of 628 (by decide +kernel) (by decide +kernel)
theorem k_614 : (.instanceMethod y_Mo_length : Cond) ∈ gw := gw_of 629 (by decide +kernel) (by decide +kernel)
theorem k_615 : (.selects "LogDeskModel" y_Mo_length y_Mo_length : Cond) ∈ gw := gw_of 630 (by decide +kernel) (by decide +kernel)
theorem k_616 : (.code y_Mo_length prog_9_method_21_code 1 (some .int) : Cond) ∈ gw := gw_of 631 (by decide +kernel) (by decide +kernel)
theorem k_617 : (.methodLink "LogDeskLaw" 105 y_Mo_byteOf : Cond) ∈ gw := gw_of 632 (by decide +kernel) (by decide +kernel)
theorem k_618 : (.instanceMethod y_Mo_byteOf : Cond) ∈ gw := gw_of 633 (by decide +kernel) (by decide +kernel)
theorem k_619 : (.selects "LogDeskModel" y_Mo_byteOf y_Mo_byteOf : Cond) ∈ gw := gw_of 634 (by decide +kernel) (by decide +kernel)
theorem k_620 : (.code y_Mo_byteOf prog_9_method_22_code 2 (some .int) : Cond) ∈ gw := gw_of 635 (by decide +kernel) (by decide +kernel)
theorem k_621 : (.methodLink "LogDeskLaw" 109 y_Mo_charge : Cond) ∈ gw := gw_of 636 (by decide +kernel) (by decide +kernel)
theorem k_622 : (.instanceMethod y_Mo_charge : Cond) ∈ gw := gw_of 637 (by decide +kernel) (by decide +kernel)
theorem k_623 : (.selects "LogDeskModel" y_Mo_charge y_Mo_charge : Cond) ∈ gw := gw_of 638 (by decide +kernel) (by decide +kernel)
theorem k_624 : (.code y_Mo_charge prog_9_method_23_code 2 none : Cond) ∈ gw := gw_of 639 (by decide +kernel) (by decide +kernel)
theorem k_625 : (.methodLink "LogDeskLaw" 113 y_Mo_state : Cond) ∈ gw := gw_of 640 (by decide +kernel) (by decide +kernel)
theorem k_626 : (.instanceMethod y_Mo_state : Cond) ∈ gw := gw_of 641 (by decide +kernel) (by decide +kernel)
theorem k_627 : (.selects "LogDeskModel" y_Mo_state y_Mo_state : Cond) ∈ gw := gw_of 642 (by decide +kernel) (by decide +kernel)
theorem k_628 : (.code y_Mo_state prog_9_method_24_code 5 (some .int) : Cond) ∈ gw := gw_of 643 (by decide +kernel) (by decide +kernel)
theorem k_629 : (.constantLong "LogDeskLaw" 49 (4294967295 : Int64) : Cond) ∈ gw := gw_of 644 (by decide +kernel) (by decide +kernel)
theorem k_p0 : (.selects "LogDesk" y_De_recover y_De_recover : Cond) ∈ gw := gw_of 0 (by decide +kernel) (by decide +kernel)
theorem k_p1 : (.selects "LogDesk" y_De_endOfRecord y_De_endOfRecord : Cond) ∈ gw := gw_of 1 (by decide +kernel) (by decide +kernel)
theorem k_p2 : (.selects "LogDesk" y_De_bytesOfRecord y_De_bytesOfRecord : Cond) ∈ gw := gw_of 2 (by decide +kernel) (by decide +kernel)
theorem k_p4 : (.selects "LogDesk" y_De_isFullFor y_De_isFullFor : Cond) ∈ gw := gw_of 4 (by decide +kernel) (by decide +kernel)
theorem k_p5 : (.selects "LogDesk" y_De_writeHead y_De_writeHead : Cond) ∈ gw := gw_of 5 (by decide +kernel) (by decide +kernel)
theorem k_p6 : (.selects "LogDesk" y_De_cutPower y_De_cutPower : Cond) ∈ gw := gw_of 6 (by decide +kernel) (by decide +kernel)
theorem k_p7 : (.selects "LogDesk" y_De_isEdge y_De_isEdge : Cond) ∈ gw := gw_of 7 (by decide +kernel) (by decide +kernel)
theorem k_p8 : (.selects "LogDeskModel" y_Mo_fails y_Mo_fails : Cond) ∈ gw := gw_of 8 (by decide +kernel) (by decide +kernel)
theorem k_p9 : (.selects "LogDeskModel" y_Mo_isFull y_Mo_isFull : Cond) ∈ gw := gw_of 9 (by decide +kernel) (by decide +kernel)
theorem k_p10 : (.selects "LogDeskModel" y_Mo_record y_Mo_record : Cond) ∈ gw := gw_of 10 (by decide +kernel) (by decide +kernel)
theorem k_p11 : (.selects "LogDeskModel" y_Mo_shrink y_Mo_shrink : Cond) ∈ gw := gw_of 11 (by decide +kernel) (by decide +kernel)
theorem k_p12 : (.selects "LogDeskModel" y_Mo_writes y_Mo_writes : Cond) ∈ gw := gw_of 12 (by decide +kernel) (by decide +kernel)
theorem k_p13 : (.selects "LogDeskModel" y_Mo_lose y_Mo_lose : Cond) ∈ gw := gw_of 13 (by decide +kernel) (by decide +kernel)
theorem k_p14 : (.selects "LogDeskModel" y_Mo_untouch y_Mo_untouch : Cond) ∈ gw := gw_of 14 (by decide +kernel) (by decide +kernel)
end
section
def F_Bl : u_T := fun k => match k with
  | _ => ("LogDesk$Block", "cells", "[B", true)
def t_Bl : Nat → FieldType := fun k => match k with
  | _ => .array .byte
theorem n_Bl : ∀ a, a < 1 → ∀ b, b < 1 → a ≠ b → (F_Bl a).2.1 ≠ (F_Bl b).2.1 := by decide +kernel
theorem t_Bl_ok : ∀ k, k < 1 → parseFieldDescriptor (F_Bl k).2.2.1 = some (t_Bl k) := by decide +kernel
theorem hin_Bl : ∀ w ∈ u_ws "LogDesk$Block" F_Bl 1, w ∈ gw := by decide +kernel
def F_Di : u_T := fun k => match k with
  | 0 => ("LogDesk$Disk", "written", "I", false)
  | _ => ("LogDesk$Disk", "left", "I", false)
def t_Di : Nat → FieldType := fun k => match k with
  | 0 => .int
  | _ => .int
theorem n_Di : ∀ a, a < 2 → ∀ b, b < 2 → a ≠ b → (F_Di a).2.1 ≠ (F_Di b).2.1 := by decide +kernel
theorem t_Di_ok : ∀ k, k < 2 → parseFieldDescriptor (F_Di k).2.2.1 = some (t_Di k) := by decide +kernel
theorem hin_Di : ∀ w ∈ u_ws "LogDesk$Disk" F_Di 2, w ∈ gw := by decide +kernel
def F_Ha : u_T := fun k => match k with
  | 0 => ("LogDesk$Hand", "bytes", "[B", true)
  | _ => ("LogDesk$Hand", "count", "I", false)
def t_Ha : Nat → FieldType := fun k => match k with
  | 0 => .array .byte
  | _ => .int
theorem n_Ha : ∀ a, a < 2 → ∀ b, b < 2 → a ≠ b → (F_Ha a).2.1 ≠ (F_Ha b).2.1 := by decide +kernel
theorem t_Ha_ok : ∀ k, k < 2 → parseFieldDescriptor (F_Ha k).2.2.1 = some (t_Ha k) := by decide +kernel
theorem hin_Ha : ∀ w ∈ u_ws "LogDesk$Hand" F_Ha 2, w ∈ gw := by decide +kernel
def F_Pa : u_T := fun k => match k with
  | 0 => ("LogDesk$Pages", "bits", "[J", true)
  | _ => ("LogDesk$Pages", "count", "I", false)
def t_Pa : Nat → FieldType := fun k => match k with
  | 0 => .array .long
  | _ => .int
theorem n_Pa : ∀ a, a < 2 → ∀ b, b < 2 → a ≠ b → (F_Pa a).2.1 ≠ (F_Pa b).2.1 := by decide +kernel
theorem t_Pa_ok : ∀ k, k < 2 → parseFieldDescriptor (F_Pa k).2.2.1 = some (t_Pa k) := by decide +kernel
theorem hin_Pa : ∀ w ∈ u_ws "LogDesk$Pages" F_Pa 2, w ∈ gw := by decide +kernel
def F_Ri : u_T := fun k => match k with
  | _ => ("LogDesk$Ring", "blocks", "[LLogDesk$Block;", true)
def t_Ri : Nat → FieldType := fun k => match k with
  | _ => .array (.object "LogDesk$Block")
theorem n_Ri : ∀ a, a < 1 → ∀ b, b < 1 → a ≠ b → (F_Ri a).2.1 ≠ (F_Ri b).2.1 := by decide +kernel
theorem t_Ri_ok : ∀ k, k < 1 → parseFieldDescriptor (F_Ri k).2.2.1 = some (t_Ri k) := by decide +kernel
theorem hin_Ri : ∀ w ∈ u_ws "LogDesk$Ring" F_Ri 1, w ∈ gw := by decide +kernel
def F_Wa : u_T := fun k => match k with
  | _ => ("LogDesk$Waiting", "ends", "[I", true)
def t_Wa : Nat → FieldType := fun k => match k with
  | _ => .array .int
theorem n_Wa : ∀ a, a < 1 → ∀ b, b < 1 → a ≠ b → (F_Wa a).2.1 ≠ (F_Wa b).2.1 := by decide +kernel
theorem t_Wa_ok : ∀ k, k < 1 → parseFieldDescriptor (F_Wa k).2.2.1 = some (t_Wa k) := by decide +kernel
theorem hin_Wa : ∀ w ∈ u_ws "LogDesk$Waiting" F_Wa 1, w ∈ gw := by decide +kernel
def F_De : u_T := fun k => match k with
  | 0 => ("LogDesk", "room", "I", true)
  | 1 => ("LogDesk", "ring", "LLogDesk$Ring;", true)
  | 2 => ("LogDesk", "hand", "LLogDesk$Hand;", true)
  | 3 => ("LogDesk", "waiting", "LLogDesk$Waiting;", true)
  | 4 => ("LogDesk", "pages", "LLogDesk$Pages;", true)
  | 5 => ("LogDesk", "disk", "LLogDesk$Disk;", true)
  | 6 => ("LogDesk", "begin", "I", false)
  | 7 => ("LogDesk", "end", "I", false)
  | 8 => ("LogDesk", "flushed", "I", false)
  | _ => ("LogDesk", "readStart", "I", false)
def t_De : Nat → FieldType := fun k => match k with
  | 0 => .int
  | 1 => .object "LogDesk$Ring"
  | 2 => .object "LogDesk$Hand"
  | 3 => .object "LogDesk$Waiting"
  | 4 => .object "LogDesk$Pages"
  | 5 => .object "LogDesk$Disk"
  | 6 => .int
  | 7 => .int
  | 8 => .int
  | _ => .int
theorem n_De : ∀ a, a < 10 → ∀ b, b < 10 → a ≠ b → (F_De a).2.1 ≠ (F_De b).2.1 := by decide +kernel
theorem t_De_ok : ∀ k, k < 10 → parseFieldDescriptor (F_De k).2.2.1 = some (t_De k) := by decide +kernel
theorem hin_De : ∀ w ∈ u_ws "LogDesk" F_De 10, w ∈ gw := by decide +kernel
def F_Mo : u_T := fun k => match k with
  | 0 => ("LogDeskModel", "thrown", "I", false)
  | 1 => ("LogDeskModel", "blocks", "I", true)
  | 2 => ("LogDeskModel", "records", "I", false)
  | 3 => ("LogDeskModel", "kinds", "[I", true)
  | 4 => ("LogDeskModel", "froms", "[I", true)
  | 5 => ("LogDeskModel", "sizes", "[I", true)
  | 6 => ("LogDeskModel", "ends", "[I", true)
  | 7 => ("LogDeskModel", "used", "I", false)
  | 8 => ("LogDeskModel", "first", "I", false)
  | 9 => ("LogDeskModel", "bytes", "[B", true)
  | 10 => ("LogDeskModel", "hand", "[I", true)
  | 11 => ("LogDeskModel", "inHand", "I", false)
  | 12 => ("LogDeskModel", "begin", "I", false)
  | 13 => ("LogDeskModel", "end", "I", false)
  | 14 => ("LogDeskModel", "flushed", "I", false)
  | 15 => ("LogDeskModel", "written", "I", false)
  | 16 => ("LogDeskModel", "left", "I", false)
  | 17 => ("LogDeskModel", "waits", "[I", true)
  | 18 => ("LogDeskModel", "touched", "[Z", true)
  | _ => ("LogDeskModel", "read", "I", false)
def t_Mo : Nat → FieldType := fun k => match k with
  | 0 => .int
  | 1 => .int
  | 2 => .int
  | 3 => .array .int
  | 4 => .array .int
  | 5 => .array .int
  | 6 => .array .int
  | 7 => .int
  | 8 => .int
  | 9 => .array .byte
  | 10 => .array .int
  | 11 => .int
  | 12 => .int
  | 13 => .int
  | 14 => .int
  | 15 => .int
  | 16 => .int
  | 17 => .array .int
  | 18 => .array .boolean
  | _ => .int
theorem n_Mo : ∀ a, a < 20 → ∀ b, b < 20 → a ≠ b → (F_Mo a).2.1 ≠ (F_Mo b).2.1 := by decide +kernel
theorem t_Mo_ok : ∀ k, k < 20 → parseFieldDescriptor (F_Mo k).2.2.1 = some (t_Mo k) := by decide +kernel
theorem hin_Mo : ∀ w ∈ u_ws "LogDeskModel" F_Mo 20, w ∈ gw := by decide +kernel
abbrev vwCl : List vw_C := [("LogDesk$Block", F_Bl, 1), ("LogDesk$Disk", F_Di, 2), ("LogDesk$Hand", F_Ha, 2), ("LogDesk$Pages", F_Pa, 2), ("LogDesk$Ring", F_Ri, 1), ("LogDesk$Waiting", F_Wa, 1), ("LogDesk", F_De, 10), ("LogDeskModel", F_Mo, 20)]
end
section
theorem d_De_init_0 : decode prog_1_method_1_code 0 = .ok (.aload_n 0, 1) := by decide +kernel
theorem d_De_init_1 : decode prog_1_method_1_code 1 = .ok (.invokespecial 3, 3) := by decide +kernel
theorem d_De_init_4 : decode prog_1_method_1_code 4 = .ok (.aload_n 0, 1) := by decide +kernel
theorem d_De_init_5 : decode prog_1_method_1_code 5 = .ok (.new 9, 3) := by decide +kernel
theorem d_De_init_8 : decode prog_1_method_1_code 8 = .ok (.dup, 1) := by decide +kernel
theorem d_De_init_9 : decode prog_1_method_1_code 9 = .ok (.invokespecial 11, 3) := by decide +kernel
theorem d_De_init_12 : decode prog_1_method_1_code 12 = .ok (.putfield 12, 3) := by decide +kernel
theorem d_De_init_15 : decode prog_1_method_1_code 15 = .ok (.aload_n 0, 1) := by decide +kernel
theorem d_De_init_16 : decode prog_1_method_1_code 16 = .ok (.new 16, 3) := by decide +kernel
theorem d_De_init_19 : decode prog_1_method_1_code 19 = .ok (.dup, 1) := by decide +kernel
theorem d_De_init_20 : decode prog_1_method_1_code 20 = .ok (.invokespecial 18, 3) := by decide +kernel
theorem d_De_init_23 : decode prog_1_method_1_code 23 = .ok (.putfield 19, 3) := by decide +kernel
theorem d_De_init_26 : decode prog_1_method_1_code 26 = .ok (.aload_n 0, 1) := by decide +kernel
theorem d_De_init_27 : decode prog_1_method_1_code 27 = .ok (.new 23, 3) := by decide +kernel
theorem d_De_init_30 : decode prog_1_method_1_code 30 = .ok (.dup, 1) := by decide +kernel
theorem d_De_init_31 : decode prog_1_method_1_code 31 = .ok (.invokespecial 25, 3) := by decide +kernel
theorem d_De_init_34 : decode prog_1_method_1_code 34 = .ok (.putfield 26, 3) := by decide +kernel
theorem d_De_init_37 : decode prog_1_method_1_code 37 = .ok (.aload_n 0, 1) := by decide +kernel
theorem d_De_init_38 : decode prog_1_method_1_code 38 = .ok (.new 30, 3) := by decide +kernel
theorem d_De_init_41 : decode prog_1_method_1_code 41 = .ok (.dup, 1) := by decide +kernel
theorem d_De_init_42 : decode prog_1_method_1_code 42 = .ok (.invokespecial 32, 3) := by decide +kernel
theorem d_De_init_45 : decode prog_1_method_1_code 45 = .ok (.putfield 33, 3) := by decide +kernel
theorem d_De_init_48 : decode prog_1_method_1_code 48 = .ok (.aload_n 0, 1) := by decide +kernel
theorem d_De_init_49 : decode prog_1_method_1_code 49 = .ok (.new 37, 3) := by decide +kernel
theorem d_De_init_52 : decode prog_1_method_1_code 52 = .ok (.dup, 1) := by decide +kernel
theorem d_De_init_53 : decode prog_1_method_1_code 53 = .ok (.invokespecial 39, 3) := by decide +kernel
theorem d_De_init_56 : decode prog_1_method_1_code 56 = .ok (.putfield 40, 3) := by decide +kernel
theorem d_De_init_59 : decode prog_1_method_1_code 59 = .ok (.aload_n 0, 1) := by decide +kernel
theorem d_De_init_60 : decode prog_1_method_1_code 60 = .ok (.iload_n 1, 1) := by decide +kernel
theorem d_De_init_61 : decode prog_1_method_1_code 61 = .ok (.iconst 3, 1) := by decide +kernel
theorem d_De_init_62 : decode prog_1_method_1_code 62 = .ok (.if_icmp .lt 13, 3) := by decide +kernel
theorem d_De_init_65 : decode prog_1_method_1_code 65 = .ok (.iload_n 1, 1) := by decide +kernel
theorem d_De_init_66 : decode prog_1_method_1_code 66 = .ok (.bipush 32, 2) := by decide +kernel
theorem d_De_init_68 : decode prog_1_method_1_code 68 = .ok (.if_icmp .gt 7, 3) := by decide +kernel
theorem d_De_init_71 : decode prog_1_method_1_code 71 = .ok (.iload_n 1, 1) := by decide +kernel
theorem d_De_init_72 : decode prog_1_method_1_code 72 = .ok (.goto 5, 3) := by decide +kernel
theorem d_De_init_75 : decode prog_1_method_1_code 75 = .ok (.bipush 32, 2) := by decide +kernel
theorem d_De_init_77 : decode prog_1_method_1_code 77 = .ok (.putfield 44, 3) := by decide +kernel
theorem d_De_init_80 : decode prog_1_method_1_code 80 = .ok (.aload_n 0, 1) := by decide +kernel
theorem d_De_init_81 : decode prog_1_method_1_code 81 = .ok (.iconst (-1), 1) := by decide +kernel
theorem d_De_init_82 : decode prog_1_method_1_code 82 = .ok (.putfield 48, 3) := by decide +kernel
theorem d_De_init_85 : decode prog_1_method_1_code 85 = .ok (.return_, 1) := by decide +kernel
theorem d_Ri_init_0 : decode prog_6_method_1_code 0 = .ok (.aload_n 0, 1) := by decide +kernel
theorem d_Ri_init_1 : decode prog_6_method_1_code 1 = .ok (.invokespecial 3, 3) := by decide +kernel
theorem d_Ri_init_4 : decode prog_6_method_1_code 4 = .ok (.aload_n 0, 1) := by decide +kernel
theorem d_Ri_init_5 : decode prog_6_method_1_code 5 = .ok (.bipush 32, 2) := by decide +kernel
theorem d_Ri_init_7 : decode prog_6_method_1_code 7 = .ok (.anewarray 9, 3) := by decide +kernel
theorem d_Ri_init_10 : decode prog_6_method_1_code 10 = .ok (.putfield 11, 3) := by decide +kernel
theorem d_Ri_init_13 : decode prog_6_method_1_code 13 = .ok (.return_, 1) := by decide +kernel
theorem d_Ha_init_0 : decode prog_4_method_1_code 0 = .ok (.aload_n 0, 1) := by decide +kernel
theorem d_Ha_init_1 : decode prog_4_method_1_code 1 = .ok (.invokespecial 3, 3) := by decide +kernel
theorem d_Ha_init_4 : decode prog_4_method_1_code 4 = .ok (.aload_n 0, 1) := by decide +kernel
theorem d_Ha_init_5 : decode prog_4_method_1_code 5 = .ok (.sipush 600, 3) := by decide +kernel
theorem d_Ha_init_8 : decode prog_4_method_1_code 8 = .ok (.newarray .byte, 2) := by decide +kernel
theorem d_Ha_init_10 : decode prog_4_method_1_code 10 = .ok (.putfield 9, 3) := by decide +kernel
theorem d_Ha_init_13 : decode prog_4_method_1_code 13 = .ok (.return_, 1) := by decide +kernel
theorem d_Wa_init_0 : decode prog_7_method_1_code 0 = .ok (.aload_n 0, 1) := by decide +kernel
theorem d_Wa_init_1 : decode prog_7_method_1_code 1 = .ok (.invokespecial 3, 3) := by decide +kernel
theorem d_Wa_init_4 : decode prog_7_method_1_code 4 = .ok (.aload_n 0, 1) := by decide +kernel
theorem d_Wa_init_5 : decode prog_7_method_1_code 5 = .ok (.bipush 6, 2) := by decide +kernel
theorem d_Wa_init_7 : decode prog_7_method_1_code 7 = .ok (.newarray .int, 2) := by decide +kernel
theorem d_Wa_init_9 : decode prog_7_method_1_code 9 = .ok (.putfield 9, 3) := by decide +kernel
theorem d_Wa_init_12 : decode prog_7_method_1_code 12 = .ok (.return_, 1) := by decide +kernel
theorem d_Pa_init_0 : decode prog_5_method_1_code 0 = .ok (.aload_n 0, 1) := by decide +kernel
theorem d_Pa_init_1 : decode prog_5_method_1_code 1 = .ok (.invokespecial 3, 3) := by decide +kernel
theorem d_Pa_init_4 : decode prog_5_method_1_code 4 = .ok (.aload_n 0, 1) := by decide +kernel
theorem d_Pa_init_5 : decode prog_5_method_1_code 5 = .ok (.bipush 32, 2) := by decide +kernel
theorem d_Pa_init_7 : decode prog_5_method_1_code 7 = .ok (.newarray .long, 2) := by decide +kernel
theorem d_Pa_init_9 : decode prog_5_method_1_code 9 = .ok (.putfield 9, 3) := by decide +kernel
theorem d_Pa_init_12 : decode prog_5_method_1_code 12 = .ok (.return_, 1) := by decide +kernel
theorem d_Di_init_0 : decode prog_3_method_1_code 0 = .ok (.aload_n 0, 1) := by decide +kernel
theorem d_Di_init_1 : decode prog_3_method_1_code 1 = .ok (.invokespecial 3, 3) := by decide +kernel
theorem d_Di_init_4 : decode prog_3_method_1_code 4 = .ok (.aload_n 0, 1) := by decide +kernel
theorem d_Di_init_5 : decode prog_3_method_1_code 5 = .ok (.iconst (-1), 1) := by decide +kernel
theorem d_Di_init_6 : decode prog_3_method_1_code 6 = .ok (.putfield 9, 3) := by decide +kernel
theorem d_Di_init_9 : decode prog_3_method_1_code 9 = .ok (.return_, 1) := by decide +kernel
theorem d_De_put_0 : decode prog_1_method_2_code 0 = .ok (.iload_n 3, 1) := by decide +kernel
theorem d_De_put_1 : decode prog_1_method_2_code 1 = .ok (.iconst 1, 1) := by decide +kernel
theorem d_De_put_2 : decode prog_1_method_2_code 2 = .ok (.if_icmp .lt 20, 3) := by decide +kernel
theorem d_De_put_5 : decode prog_1_method_2_code 5 = .ok (.iload_n 3, 1) := by decide +kernel
theorem d_De_put_6 : decode prog_1_method_2_code 6 = .ok (.bipush 8, 2) := by decide +kernel
theorem d_De_put_8 : decode prog_1_method_2_code 8 = .ok (.if_icmp .gt 14, 3) := by decide +kernel
theorem d_De_put_11 : decode prog_1_method_2_code 11 = .ok (.aload_n 0, 1) := by decide +kernel
theorem d_De_put_12 : decode prog_1_method_2_code 12 = .ok (.getfield 19, 3) := by decide +kernel
theorem d_De_put_15 : decode prog_1_method_2_code 15 = .ok (.iload_n 3, 1) := by decide +kernel
theorem d_De_put_16 : decode prog_1_method_2_code 16 = .ok (.invokevirtual 51, 3) := by decide +kernel
theorem d_De_put_19 : decode prog_1_method_2_code 19 = .ok (.ifCond .ne 5, 3) := by decide +kernel
theorem d_De_put_22 : decode prog_1_method_2_code 22 = .ok (.iconst 0, 1) := by decide +kernel
theorem d_De_put_23 : decode prog_1_method_2_code 23 = .ok (.ireturn, 1) := by decide +kernel
theorem d_De_put_24 : decode prog_1_method_2_code 24 = .ok (.iload_n 3, 1) := by decide +kernel
theorem d_De_put_25 : decode prog_1_method_2_code 25 = .ok (.iconst 1, 1) := by decide +kernel
theorem d_De_put_26 : decode prog_1_method_2_code 26 = .ok (.isub, 1) := by decide +kernel
theorem d_De_put_27 : decode prog_1_method_2_code 27 = .ok (.istore 4, 2) := by decide +kernel
theorem d_De_put_29 : decode prog_1_method_2_code 29 = .ok (.iload 4, 2) := by decide +kernel
theorem d_De_put_31 : decode prog_1_method_2_code 31 = .ok (.ifCond .lt 24, 3) := by decide +kernel
theorem d_De_put_34 : decode prog_1_method_2_code 34 = .ok (.aload_n 0, 1) := by decide +kernel
theorem d_De_put_35 : decode prog_1_method_2_code 35 = .ok (.getfield 19, 3) := by decide +kernel
theorem d_De_put_38 : decode prog_1_method_2_code 38 = .ok (.lload_n 1, 1) := by decide +kernel
theorem d_De_put_39 : decode prog_1_method_2_code 39 = .ok (.bipush 8, 2) := by decide +kernel
theorem d_De_put_41 : decode prog_1_method_2_code 41 = .ok (.iload 4, 2) := by decide +kernel
theorem d_De_put_43 : decode prog_1_method_2_code 43 = .ok (.imul, 1) := by decide +kernel
theorem d_De_put_44 : decode prog_1_method_2_code 44 = .ok (.lushr, 1) := by decide +kernel
theorem d_De_put_45 : decode prog_1_method_2_code 45 = .ok (.l2i, 1) := by decide +kernel
theorem d_De_put_46 : decode prog_1_method_2_code 46 = .ok (.invokevirtual 55, 3) := by decide +kernel
theorem d_De_put_49 : decode prog_1_method_2_code 49 = .ok (.iinc 4 (-1), 3) := by decide +kernel
theorem d_De_put_52 : decode prog_1_method_2_code 52 = .ok (.goto (-23), 3) := by decide +kernel
theorem d_De_put_55 : decode prog_1_method_2_code 55 = .ok (.iconst 1, 1) := by decide +kernel
theorem d_De_put_56 : decode prog_1_method_2_code 56 = .ok (.ireturn, 1) := by decide +kernel
theorem d_Ha_hasRoomFor_0 : decode prog_4_method_3_code 0 = .ok (.iload_n 1, 1) := by decide +kernel
theorem d_Ha_hasRoomFor_1 : decode prog_4_method_3_code 1 = .ok (.sipush 600, 3) := by decide +kernel
theorem d_Ha_hasRoomFor_4 : decode prog_4_method_3_code 4 = .ok (.aload_n 0, 1) := by decide +kernel
theorem d_Ha_hasRoomFor_5 : decode prog_4_method_3_code 5 = .ok (.getfield 15, 3) := by decide +kernel
theorem d_Ha_hasRoomFor_8 : decode prog_4_method_3_code 8 = .ok (.isub, 1) := by decide +kernel
theorem d_Ha_hasRoomFor_9 : decode prog_4_method_3_code 9 = .ok (.if_icmp .gt 7, 3) := by decide +kernel
theorem d_Ha_hasRoomFor_12 : decode prog_4_method_3_code 12 = .ok (.iconst 1, 1) := by decide +kernel
theorem d_Ha_hasRoomFor_13 : decode prog_4_method_3_code 13 = .ok (.goto 4, 3) := by decide +kernel
theorem d_Ha_hasRoomFor_16 : decode prog_4_method_3_code 16 = .ok (.iconst 0, 1) := by decide +kernel
theorem d_Ha_hasRoomFor_17 : decode prog_4_method_3_code 17 = .ok (.ireturn, 1) := by decide +kernel
theorem d_Ha_add_0 : decode prog_4_method_4_code 0 = .ok (.aload_n 0, 1) := by decide +kernel
theorem d_Ha_add_1 : decode prog_4_method_4_code 1 = .ok (.getfield 15, 3) := by decide +kernel
theorem d_Ha_add_4 : decode prog_4_method_4_code 4 = .ok (.ifCond .lt 34, 3) := by decide +kernel
theorem d_Ha_add_7 : decode prog_4_method_4_code 7 = .ok (.aload_n 0, 1) := by decide +kernel
theorem d_Ha_add_8 : decode prog_4_method_4_code 8 = .ok (.getfield 15, 3) := by decide +kernel
theorem d_Ha_add_11 : decode prog_4_method_4_code 11 = .ok (.sipush 600, 3) := by decide +kernel
theorem d_Ha_add_14 : decode prog_4_method_4_code 14 = .ok (.if_icmp .ge 24, 3) := by decide +kernel
theorem d_Ha_add_17 : decode prog_4_method_4_code 17 = .ok (.aload_n 0, 1) := by decide +kernel
theorem d_Ha_add_18 : decode prog_4_method_4_code 18 = .ok (.getfield 9, 3) := by decide +kernel
theorem d_Ha_add_21 : decode prog_4_method_4_code 21 = .ok (.aload_n 0, 1) := by decide +kernel
theorem d_Ha_add_22 : decode prog_4_method_4_code 22 = .ok (.getfield 15, 3) := by decide +kernel
theorem d_Ha_add_25 : decode prog_4_method_4_code 25 = .ok (.iload_n 1, 1) := by decide +kernel
theorem d_Ha_add_26 : decode prog_4_method_4_code 26 = .ok (.i2b, 1) := by decide +kernel
theorem d_Ha_add_27 : decode prog_4_method_4_code 27 = .ok (.bastore, 1) := by decide +kernel
theorem d_Ha_add_28 : decode prog_4_method_4_code 28 = .ok (.aload_n 0, 1) := by decide +kernel
theorem d_Ha_add_29 : decode prog_4_method_4_code 29 = .ok (.dup, 1) := by decide +kernel
theorem d_Ha_add_30 : decode prog_4_method_4_code 30 = .ok (.getfield 15, 3) := by decide +kernel
theorem d_Ha_add_33 : decode prog_4_method_4_code 33 = .ok (.iconst 1, 1) := by decide +kernel
theorem d_Ha_add_34 : decode prog_4_method_4_code 34 = .ok (.iadd, 1) := by decide +kernel
theorem d_Ha_add_35 : decode prog_4_method_4_code 35 = .ok (.putfield 15, 3) := by decide +kernel
theorem d_Ha_add_38 : decode prog_4_method_4_code 38 = .ok (.return_, 1) := by decide +kernel
theorem d_De_fill_0 : decode prog_1_method_3_code 0 = .ok (.iload_n 2, 1) := by decide +kernel
theorem d_De_fill_1 : decode prog_1_method_3_code 1 = .ok (.iconst 1, 1) := by decide +kernel
theorem d_De_fill_2 : decode prog_1_method_3_code 2 = .ok (.if_icmp .lt 21, 3) := by decide +kernel
theorem d_De_fill_5 : decode prog_1_method_3_code 5 = .ok (.iload_n 2, 1) := by decide +kernel
theorem d_De_fill_6 : decode prog_1_method_3_code 6 = .ok (.sipush 600, 3) := by decide +kernel
theorem d_De_fill_9 : decode prog_1_method_3_code 9 = .ok (.if_icmp .gt 14, 3) := by decide +kernel
theorem d_De_fill_12 : decode prog_1_method_3_code 12 = .ok (.aload_n 0, 1) := by decide +kernel
theorem d_De_fill_13 : decode prog_1_method_3_code 13 = .ok (.getfield 19, 3) := by decide +kernel
theorem d_De_fill_16 : decode prog_1_method_3_code 16 = .ok (.iload_n 2, 1) := by decide +kernel
theorem d_De_fill_17 : decode prog_1_method_3_code 17 = .ok (.invokevirtual 51, 3) := by decide +kernel
theorem d_De_fill_20 : decode prog_1_method_3_code 20 = .ok (.ifCond .ne 5, 3) := by decide +kernel
theorem d_De_fill_23 : decode prog_1_method_3_code 23 = .ok (.iconst 0, 1) := by decide +kernel
theorem d_De_fill_24 : decode prog_1_method_3_code 24 = .ok (.ireturn, 1) := by decide +kernel
theorem d_De_fill_25 : decode prog_1_method_3_code 25 = .ok (.iconst 0, 1) := by decide +kernel
theorem d_De_fill_26 : decode prog_1_method_3_code 26 = .ok (.istore_n 3, 1) := by decide +kernel
theorem d_De_fill_27 : decode prog_1_method_3_code 27 = .ok (.iload_n 3, 1) := by decide +kernel
theorem d_De_fill_28 : decode prog_1_method_3_code 28 = .ok (.iload_n 2, 1) := by decide +kernel
theorem d_De_fill_29 : decode prog_1_method_3_code 29 = .ok (.if_icmp .ge 17, 3) := by decide +kernel
theorem d_De_fill_32 : decode prog_1_method_3_code 32 = .ok (.aload_n 0, 1) := by decide +kernel
theorem d_De_fill_33 : decode prog_1_method_3_code 33 = .ok (.getfield 19, 3) := by decide +kernel
theorem d_De_fill_36 : decode prog_1_method_3_code 36 = .ok (.iload_n 1, 1) := by decide +kernel
theorem d_De_fill_37 : decode prog_1_method_3_code 37 = .ok (.invokevirtual 55, 3) := by decide +kernel
theorem d_De_fill_40 : decode prog_1_method_3_code 40 = .ok (.iinc 3 1, 3) := by decide +kernel
theorem d_De_fill_43 : decode prog_1_method_3_code 43 = .ok (.goto (-16), 3) := by decide +kernel
theorem d_De_fill_46 : decode prog_1_method_3_code 46 = .ok (.iconst 1, 1) := by decide +kernel
theorem d_De_fill_47 : decode prog_1_method_3_code 47 = .ok (.ireturn, 1) := by decide +kernel
theorem d_De_told_0 : decode prog_1_method_7_code 0 = .ok (.aload_n 0, 1) := by decide +kernel
theorem d_De_told_1 : decode prog_1_method_7_code 1 = .ok (.getfield 26, 3) := by decide +kernel
theorem d_De_told_4 : decode prog_1_method_7_code 4 = .ok (.invokevirtual 130, 3) := by decide +kernel
theorem d_De_told_7 : decode prog_1_method_7_code 7 = .ok (.istore_n 1, 1) := by decide +kernel
theorem d_De_told_8 : decode prog_1_method_7_code 8 = .ok (.iload_n 1, 1) := by decide +kernel
theorem d_De_told_9 : decode prog_1_method_7_code 9 = .ok (.iconst (-1), 1) := by decide +kernel
theorem d_De_told_10 : decode prog_1_method_7_code 10 = .ok (.if_icmp .eq 18, 3) := by decide +kernel
theorem d_De_told_13 : decode prog_1_method_7_code 13 = .ok (.aload_n 0, 1) := by decide +kernel
theorem d_De_told_14 : decode prog_1_method_7_code 14 = .ok (.getfield 26, 3) := by decide +kernel
theorem d_De_told_17 : decode prog_1_method_7_code 17 = .ok (.iload_n 1, 1) := by decide +kernel
theorem d_De_told_18 : decode prog_1_method_7_code 18 = .ok (.invokevirtual 133, 3) := by decide +kernel
theorem d_De_told_21 : decode prog_1_method_7_code 21 = .ok (.aload_n 0, 1) := by decide +kernel
theorem d_De_told_22 : decode prog_1_method_7_code 22 = .ok (.getfield 107, 3) := by decide +kernel
theorem d_De_told_25 : decode prog_1_method_7_code 25 = .ok (.if_icmp .le 5, 3) := by decide +kernel
theorem d_De_told_28 : decode prog_1_method_7_code 28 = .ok (.iconst (-1), 1) := by decide +kernel
theorem d_De_told_29 : decode prog_1_method_7_code 29 = .ok (.ireturn, 1) := by decide +kernel
theorem d_De_told_30 : decode prog_1_method_7_code 30 = .ok (.aload_n 0, 1) := by decide +kernel
theorem d_De_told_31 : decode prog_1_method_7_code 31 = .ok (.getfield 26, 3) := by decide +kernel
theorem d_De_told_34 : decode prog_1_method_7_code 34 = .ok (.iload_n 1, 1) := by decide +kernel
theorem d_De_told_35 : decode prog_1_method_7_code 35 = .ok (.invokevirtual 136, 3) := by decide +kernel
theorem d_De_told_38 : decode prog_1_method_7_code 38 = .ok (.iload_n 1, 1) := by decide +kernel
theorem d_De_told_39 : decode prog_1_method_7_code 39 = .ok (.ireturn, 1) := by decide +kernel
theorem d_Wa_first_0 : decode prog_7_method_7_code 0 = .ok (.iconst (-1), 1) := by decide +kernel
theorem d_Wa_first_1 : decode prog_7_method_7_code 1 = .ok (.istore_n 1, 1) := by decide +kernel
theorem d_Wa_first_2 : decode prog_7_method_7_code 2 = .ok (.iconst 0, 1) := by decide +kernel
theorem d_Wa_first_3 : decode prog_7_method_7_code 3 = .ok (.istore_n 2, 1) := by decide +kernel
theorem d_Wa_first_4 : decode prog_7_method_7_code 4 = .ok (.iload_n 2, 1) := by decide +kernel
theorem d_Wa_first_5 : decode prog_7_method_7_code 5 = .ok (.bipush 6, 2) := by decide +kernel
theorem d_Wa_first_7 : decode prog_7_method_7_code 7 = .ok (.if_icmp .ge 38, 3) := by decide +kernel
theorem d_Wa_first_10 : decode prog_7_method_7_code 10 = .ok (.aload_n 0, 1) := by decide +kernel
theorem d_Wa_first_11 : decode prog_7_method_7_code 11 = .ok (.iload_n 2, 1) := by decide +kernel
theorem d_Wa_first_12 : decode prog_7_method_7_code 12 = .ok (.invokevirtual 19, 3) := by decide +kernel
theorem d_Wa_first_15 : decode prog_7_method_7_code 15 = .ok (.ifCond .eq 24, 3) := by decide +kernel
theorem d_Wa_first_18 : decode prog_7_method_7_code 18 = .ok (.iload_n 1, 1) := by decide +kernel
theorem d_Wa_first_19 : decode prog_7_method_7_code 19 = .ok (.iconst (-1), 1) := by decide +kernel
theorem d_Wa_first_20 : decode prog_7_method_7_code 20 = .ok (.if_icmp .eq 17, 3) := by decide +kernel
theorem d_Wa_first_23 : decode prog_7_method_7_code 23 = .ok (.aload_n 0, 1) := by decide +kernel
theorem d_Wa_first_24 : decode prog_7_method_7_code 24 = .ok (.getfield 9, 3) := by decide +kernel
theorem d_Wa_first_27 : decode prog_7_method_7_code 27 = .ok (.iload_n 2, 1) := by decide +kernel
theorem d_Wa_first_28 : decode prog_7_method_7_code 28 = .ok (.iaload, 1) := by decide +kernel
theorem d_Wa_first_29 : decode prog_7_method_7_code 29 = .ok (.aload_n 0, 1) := by decide +kernel
theorem d_Wa_first_30 : decode prog_7_method_7_code 30 = .ok (.iload_n 1, 1) := by decide +kernel
theorem d_Wa_first_31 : decode prog_7_method_7_code 31 = .ok (.invokevirtual 22, 3) := by decide +kernel
theorem d_Wa_first_34 : decode prog_7_method_7_code 34 = .ok (.if_icmp .ge 5, 3) := by decide +kernel
theorem d_Wa_first_37 : decode prog_7_method_7_code 37 = .ok (.iload_n 2, 1) := by decide +kernel
theorem d_Wa_first_38 : decode prog_7_method_7_code 38 = .ok (.istore_n 1, 1) := by decide +kernel
theorem d_Wa_first_39 : decode prog_7_method_7_code 39 = .ok (.iinc 2 1, 3) := by decide +kernel
theorem d_Wa_first_42 : decode prog_7_method_7_code 42 = .ok (.goto (-38), 3) := by decide +kernel
theorem d_Wa_first_45 : decode prog_7_method_7_code 45 = .ok (.iload_n 1, 1) := by decide +kernel
theorem d_Wa_first_46 : decode prog_7_method_7_code 46 = .ok (.ireturn, 1) := by decide +kernel
theorem d_Wa_has_0 : decode prog_7_method_3_code 0 = .ok (.iload_n 1, 1) := by decide +kernel
theorem d_Wa_has_1 : decode prog_7_method_3_code 1 = .ok (.invokestatic 15, 3) := by decide +kernel
theorem d_Wa_has_4 : decode prog_7_method_3_code 4 = .ok (.ifCond .eq 16, 3) := by decide +kernel
theorem d_Wa_has_7 : decode prog_7_method_3_code 7 = .ok (.aload_n 0, 1) := by decide +kernel
theorem d_Wa_has_8 : decode prog_7_method_3_code 8 = .ok (.getfield 9, 3) := by decide +kernel
theorem d_Wa_has_11 : decode prog_7_method_3_code 11 = .ok (.iload_n 1, 1) := by decide +kernel
theorem d_Wa_has_12 : decode prog_7_method_3_code 12 = .ok (.iaload, 1) := by decide +kernel
theorem d_Wa_has_13 : decode prog_7_method_3_code 13 = .ok (.ifCond .eq 7, 3) := by decide +kernel
theorem d_Wa_has_16 : decode prog_7_method_3_code 16 = .ok (.iconst 1, 1) := by decide +kernel
theorem d_Wa_has_17 : decode prog_7_method_3_code 17 = .ok (.goto 4, 3) := by decide +kernel
theorem d_Wa_has_20 : decode prog_7_method_3_code 20 = .ok (.iconst 0, 1) := by decide +kernel
theorem d_Wa_has_21 : decode prog_7_method_3_code 21 = .ok (.ireturn, 1) := by decide +kernel
theorem d_Wa_isSession_0 : decode prog_7_method_2_code 0 = .ok (.iload_n 0, 1) := by decide +kernel
theorem d_Wa_isSession_1 : decode prog_7_method_2_code 1 = .ok (.ifCond .lt 13, 3) := by decide +kernel
theorem d_Wa_isSession_4 : decode prog_7_method_2_code 4 = .ok (.iload_n 0, 1) := by decide +kernel
theorem d_Wa_isSession_5 : decode prog_7_method_2_code 5 = .ok (.bipush 6, 2) := by decide +kernel
theorem d_Wa_isSession_7 : decode prog_7_method_2_code 7 = .ok (.if_icmp .ge 7, 3) := by decide +kernel
theorem d_Wa_isSession_10 : decode prog_7_method_2_code 10 = .ok (.iconst 1, 1) := by decide +kernel
theorem d_Wa_isSession_11 : decode prog_7_method_2_code 11 = .ok (.goto 4, 3) := by decide +kernel
theorem d_Wa_isSession_14 : decode prog_7_method_2_code 14 = .ok (.iconst 0, 1) := by decide +kernel
theorem d_Wa_isSession_15 : decode prog_7_method_2_code 15 = .ok (.ireturn, 1) := by decide +kernel
theorem d_Wa_endOf_0 : decode prog_7_method_4_code 0 = .ok (.iload_n 1, 1) := by decide +kernel
theorem d_Wa_endOf_1 : decode prog_7_method_4_code 1 = .ok (.invokestatic 15, 3) := by decide +kernel
theorem d_Wa_endOf_4 : decode prog_7_method_4_code 4 = .ok (.ifCond .eq 12, 3) := by decide +kernel
theorem d_Wa_endOf_7 : decode prog_7_method_4_code 7 = .ok (.aload_n 0, 1) := by decide +kernel
theorem d_Wa_endOf_8 : decode prog_7_method_4_code 8 = .ok (.getfield 9, 3) := by decide +kernel
theorem d_Wa_endOf_11 : decode prog_7_method_4_code 11 = .ok (.iload_n 1, 1) := by decide +kernel
theorem d_Wa_endOf_12 : decode prog_7_method_4_code 12 = .ok (.iaload, 1) := by decide +kernel
theorem d_Wa_endOf_13 : decode prog_7_method_4_code 13 = .ok (.goto 4, 3) := by decide +kernel
theorem d_Wa_endOf_16 : decode prog_7_method_4_code 16 = .ok (.iconst 0, 1) := by decide +kernel
theorem d_Wa_endOf_17 : decode prog_7_method_4_code 17 = .ok (.ireturn, 1) := by decide +kernel
theorem d_Wa_remove_0 : decode prog_7_method_6_code 0 = .ok (.iload_n 1, 1) := by decide +kernel
theorem d_Wa_remove_1 : decode prog_7_method_6_code 1 = .ok (.invokestatic 15, 3) := by decide +kernel
theorem d_Wa_remove_4 : decode prog_7_method_6_code 4 = .ok (.ifCond .eq 10, 3) := by decide +kernel
theorem d_Wa_remove_7 : decode prog_7_method_6_code 7 = .ok (.aload_n 0, 1) := by decide +kernel
theorem d_Wa_remove_8 : decode prog_7_method_6_code 8 = .ok (.getfield 9, 3) := by decide +kernel
theorem d_Wa_remove_11 : decode prog_7_method_6_code 11 = .ok (.iload_n 1, 1) := by decide +kernel
theorem d_Wa_remove_12 : decode prog_7_method_6_code 12 = .ok (.iconst 0, 1) := by decide +kernel
theorem d_Wa_remove_13 : decode prog_7_method_6_code 13 = .ok (.iastore, 1) := by decide +kernel
theorem d_Wa_remove_14 : decode prog_7_method_6_code 14 = .ok (.return_, 1) := by decide +kernel
theorem d_De_touch_0 : decode prog_1_method_8_code 0 = .ok (.aload_n 0, 1) := by decide +kernel
theorem d_De_touch_1 : decode prog_1_method_8_code 1 = .ok (.getfield 33, 3) := by decide +kernel
theorem d_De_touch_4 : decode prog_1_method_8_code 4 = .ok (.iload_n 1, 1) := by decide +kernel
theorem d_De_touch_5 : decode prog_1_method_8_code 5 = .ok (.invokevirtual 139, 3) := by decide +kernel
theorem d_De_touch_8 : decode prog_1_method_8_code 8 = .ok (.ireturn, 1) := by decide +kernel
theorem d_Pa_add_0 : decode prog_5_method_3_code 0 = .ok (.iload_n 1, 1) := by decide +kernel
theorem d_Pa_add_1 : decode prog_5_method_3_code 1 = .ok (.ifCond .lt 10, 3) := by decide +kernel
theorem d_Pa_add_4 : decode prog_5_method_3_code 4 = .ok (.iload_n 1, 1) := by decide +kernel
theorem d_Pa_add_5 : decode prog_5_method_3_code 5 = .ok (.sipush 2048, 3) := by decide +kernel
theorem d_Pa_add_8 : decode prog_5_method_3_code 8 = .ok (.if_icmp .lt 5, 3) := by decide +kernel
theorem d_Pa_add_11 : decode prog_5_method_3_code 11 = .ok (.iconst 0, 1) := by decide +kernel
theorem d_Pa_add_12 : decode prog_5_method_3_code 12 = .ok (.ireturn, 1) := by decide +kernel
theorem d_Pa_add_13 : decode prog_5_method_3_code 13 = .ok (.iload_n 1, 1) := by decide +kernel
theorem d_Pa_add_14 : decode prog_5_method_3_code 14 = .ok (.bipush 64, 2) := by decide +kernel
theorem d_Pa_add_16 : decode prog_5_method_3_code 16 = .ok (.idiv, 1) := by decide +kernel
theorem d_Pa_add_17 : decode prog_5_method_3_code 17 = .ok (.istore_n 2, 1) := by decide +kernel
theorem d_Pa_add_18 : decode prog_5_method_3_code 18 = .ok (.lconst 1, 1) := by decide +kernel
theorem d_Pa_add_19 : decode prog_5_method_3_code 19 = .ok (.iload_n 1, 1) := by decide +kernel
theorem d_Pa_add_20 : decode prog_5_method_3_code 20 = .ok (.bipush 64, 2) := by decide +kernel
theorem d_Pa_add_22 : decode prog_5_method_3_code 22 = .ok (.irem, 1) := by decide +kernel
theorem d_Pa_add_23 : decode prog_5_method_3_code 23 = .ok (.lshl, 1) := by decide +kernel
theorem d_Pa_add_24 : decode prog_5_method_3_code 24 = .ok (.lstore_n 3, 1) := by decide +kernel
theorem d_Pa_add_25 : decode prog_5_method_3_code 25 = .ok (.aload_n 0, 1) := by decide +kernel
theorem d_Pa_add_26 : decode prog_5_method_3_code 26 = .ok (.getfield 9, 3) := by decide +kernel
theorem d_Pa_add_29 : decode prog_5_method_3_code 29 = .ok (.iload_n 2, 1) := by decide +kernel
theorem d_Pa_add_30 : decode prog_5_method_3_code 30 = .ok (.laload, 1) := by decide +kernel
theorem d_Pa_add_31 : decode prog_5_method_3_code 31 = .ok (.lload_n 3, 1) := by decide +kernel
theorem d_Pa_add_32 : decode prog_5_method_3_code 32 = .ok (.land, 1) := by decide +kernel
theorem d_Pa_add_33 : decode prog_5_method_3_code 33 = .ok (.lconst 0, 1) := by decide +kernel
theorem d_Pa_add_34 : decode prog_5_method_3_code 34 = .ok (.lcmp, 1) := by decide +kernel
theorem d_Pa_add_35 : decode prog_5_method_3_code 35 = .ok (.ifCond .eq 5, 3) := by decide +kernel
theorem d_Pa_add_38 : decode prog_5_method_3_code 38 = .ok (.iconst 0, 1) := by decide +kernel
theorem d_Pa_add_39 : decode prog_5_method_3_code 39 = .ok (.ireturn, 1) := by decide +kernel
theorem d_Pa_add_40 : decode prog_5_method_3_code 40 = .ok (.aload_n 0, 1) := by decide +kernel
theorem d_Pa_add_41 : decode prog_5_method_3_code 41 = .ok (.getfield 9, 3) := by decide +kernel
theorem d_Pa_add_44 : decode prog_5_method_3_code 44 = .ok (.iload_n 2, 1) := by decide +kernel
theorem d_Pa_add_45 : decode prog_5_method_3_code 45 = .ok (.dup2, 1) := by decide +kernel
theorem d_Pa_add_46 : decode prog_5_method_3_code 46 = .ok (.laload, 1) := by decide +kernel
theorem d_Pa_add_47 : decode prog_5_method_3_code 47 = .ok (.lload_n 3, 1) := by decide +kernel
theorem d_Pa_add_48 : decode prog_5_method_3_code 48 = .ok (.lor, 1) := by decide +kernel
theorem d_Pa_add_49 : decode prog_5_method_3_code 49 = .ok (.lastore, 1) := by decide +kernel
theorem d_Pa_add_50 : decode prog_5_method_3_code 50 = .ok (.aload_n 0, 1) := by decide +kernel
theorem d_Pa_add_51 : decode prog_5_method_3_code 51 = .ok (.dup, 1) := by decide +kernel
theorem d_Pa_add_52 : decode prog_5_method_3_code 52 = .ok (.getfield 15, 3) := by decide +kernel
theorem d_Pa_add_55 : decode prog_5_method_3_code 55 = .ok (.iconst 1, 1) := by decide +kernel
theorem d_Pa_add_56 : decode prog_5_method_3_code 56 = .ok (.iadd, 1) := by decide +kernel
theorem d_Pa_add_57 : decode prog_5_method_3_code 57 = .ok (.putfield 15, 3) := by decide +kernel
theorem d_Pa_add_60 : decode prog_5_method_3_code 60 = .ok (.iconst 1, 1) := by decide +kernel
theorem d_Pa_add_61 : decode prog_5_method_3_code 61 = .ok (.ireturn, 1) := by decide +kernel
theorem d_De_mark_0 : decode prog_1_method_9_code 0 = .ok (.aload_n 0, 1) := by decide +kernel
theorem d_De_mark_1 : decode prog_1_method_9_code 1 = .ok (.getfield 33, 3) := by decide +kernel
theorem d_De_mark_4 : decode prog_1_method_9_code 4 = .ok (.invokevirtual 141, 3) := by decide +kernel
theorem d_De_mark_7 : decode prog_1_method_9_code 7 = .ok (.aload_n 0, 1) := by decide +kernel
theorem d_De_mark_8 : decode prog_1_method_9_code 8 = .ok (.getfield 90, 3) := by decide +kernel
theorem d_De_mark_11 : decode prog_1_method_9_code 11 = .ok (.ireturn, 1) := by decide +kernel
theorem d_Pa_clear_0 : decode prog_5_method_4_code 0 = .ok (.aload_n 0, 1) := by decide +kernel
theorem d_Pa_clear_1 : decode prog_5_method_4_code 1 = .ok (.getfield 9, 3) := by decide +kernel
theorem d_Pa_clear_4 : decode prog_5_method_4_code 4 = .ok (.lconst 0, 1) := by decide +kernel
theorem d_Pa_clear_5 : decode prog_5_method_4_code 5 = .ok (.invokestatic 19, 3) := by decide +kernel
theorem d_Pa_clear_8 : decode prog_5_method_4_code 8 = .ok (.aload_n 0, 1) := by decide +kernel
theorem d_Pa_clear_9 : decode prog_5_method_4_code 9 = .ok (.iconst 0, 1) := by decide +kernel
theorem d_Pa_clear_10 : decode prog_5_method_4_code 10 = .ok (.putfield 15, 3) := by decide +kernel
theorem d_Pa_clear_13 : decode prog_5_method_4_code 13 = .ok (.return_, 1) := by decide +kernel
theorem d_Ar_fillJ_0 : decode prog_18_method_101_code 0 = .ok (.iconst 0, 1) := by decide +kernel
theorem d_Ar_fillJ_1 : decode prog_18_method_101_code 1 = .ok (.istore_n 3, 1) := by decide +kernel
theorem d_Ar_fillJ_2 : decode prog_18_method_101_code 2 = .ok (.aload_n 0, 1) := by decide +kernel
theorem d_Ar_fillJ_3 : decode prog_18_method_101_code 3 = .ok (.arraylength, 1) := by decide +kernel
theorem d_Ar_fillJ_4 : decode prog_18_method_101_code 4 = .ok (.istore 4, 2) := by decide +kernel
theorem d_Ar_fillJ_6 : decode prog_18_method_101_code 6 = .ok (.iload_n 3, 1) := by decide +kernel
theorem d_Ar_fillJ_7 : decode prog_18_method_101_code 7 = .ok (.iload 4, 2) := by decide +kernel
theorem d_Ar_fillJ_9 : decode prog_18_method_101_code 9 = .ok (.if_icmp .ge 13, 3) := by decide +kernel
theorem d_Ar_fillJ_12 : decode prog_18_method_101_code 12 = .ok (.aload_n 0, 1) := by decide +kernel
theorem d_Ar_fillJ_13 : decode prog_18_method_101_code 13 = .ok (.iload_n 3, 1) := by decide +kernel
theorem d_Ar_fillJ_14 : decode prog_18_method_101_code 14 = .ok (.lload_n 1, 1) := by decide +kernel
theorem d_Ar_fillJ_15 : decode prog_18_method_101_code 15 = .ok (.lastore, 1) := by decide +kernel
theorem d_Ar_fillJ_16 : decode prog_18_method_101_code 16 = .ok (.iinc 3 1, 3) := by decide +kernel
theorem d_Ar_fillJ_19 : decode prog_18_method_101_code 19 = .ok (.goto (-13), 3) := by decide +kernel
theorem d_Ar_fillJ_22 : decode prog_18_method_101_code 22 = .ok (.return_, 1) := by decide +kernel
theorem d_De_open_0 : decode prog_1_method_11_code 0 = .ok (.aload_n 0, 1) := by decide +kernel
theorem d_De_open_1 : decode prog_1_method_11_code 1 = .ok (.invokevirtual 150, 3) := by decide +kernel
theorem d_De_open_4 : decode prog_1_method_11_code 4 = .ok (.ireturn, 1) := by decide +kernel
theorem d_De_recover_0 : decode prog_1_method_23_code 0 = .ok (.iconst 0, 1) := by decide +kernel
theorem d_De_recover_1 : decode prog_1_method_23_code 1 = .ok (.istore_n 1, 1) := by decide +kernel
theorem d_De_recover_2 : decode prog_1_method_23_code 2 = .ok (.aload_n 0, 1) := by decide +kernel
theorem d_De_recover_3 : decode prog_1_method_23_code 3 = .ok (.getfield 147, 3) := by decide +kernel
theorem d_De_recover_6 : decode prog_1_method_23_code 6 = .ok (.istore_n 2, 1) := by decide +kernel
theorem d_De_recover_7 : decode prog_1_method_23_code 7 = .ok (.iload_n 1, 1) := by decide +kernel
theorem d_De_recover_8 : decode prog_1_method_23_code 8 = .ok (.sipush 5334, 3) := by decide +kernel
theorem d_De_recover_11 : decode prog_1_method_23_code 11 = .ok (.if_icmp .ge 35, 3) := by decide +kernel
theorem d_De_recover_14 : decode prog_1_method_23_code 14 = .ok (.iload_n 2, 1) := by decide +kernel
theorem d_De_recover_15 : decode prog_1_method_23_code 15 = .ok (.aload_n 0, 1) := by decide +kernel
theorem d_De_recover_16 : decode prog_1_method_23_code 16 = .ok (.getfield 90, 3) := by decide +kernel
theorem d_De_recover_19 : decode prog_1_method_23_code 19 = .ok (.if_icmp .ge 27, 3) := by decide +kernel
theorem d_De_recover_22 : decode prog_1_method_23_code 22 = .ok (.aload_n 0, 1) := by decide +kernel
theorem d_De_recover_23 : decode prog_1_method_23_code 23 = .ok (.iload_n 2, 1) := by decide +kernel
theorem d_De_recover_24 : decode prog_1_method_23_code 24 = .ok (.invokevirtual 153, 3) := by decide +kernel
theorem d_De_recover_27 : decode prog_1_method_23_code 27 = .ok (.aload_n 0, 1) := by decide +kernel
theorem d_De_recover_28 : decode prog_1_method_23_code 28 = .ok (.getfield 107, 3) := by decide +kernel
theorem d_De_recover_31 : decode prog_1_method_23_code 31 = .ok (.if_icmp .gt 15, 3) := by decide +kernel
theorem d_De_recover_34 : decode prog_1_method_23_code 34 = .ok (.aload_n 0, 1) := by decide +kernel
theorem d_De_recover_35 : decode prog_1_method_23_code 35 = .ok (.iload_n 2, 1) := by decide +kernel
theorem d_De_recover_36 : decode prog_1_method_23_code 36 = .ok (.invokevirtual 153, 3) := by decide +kernel
theorem d_De_recover_39 : decode prog_1_method_23_code 39 = .ok (.istore_n 2, 1) := by decide +kernel
theorem d_De_recover_40 : decode prog_1_method_23_code 40 = .ok (.iinc 1 1, 3) := by decide +kernel
theorem d_De_recover_43 : decode prog_1_method_23_code 43 = .ok (.goto (-36), 3) := by decide +kernel
theorem d_De_recover_46 : decode prog_1_method_23_code 46 = .ok (.aload_n 0, 1) := by decide +kernel
theorem d_De_recover_47 : decode prog_1_method_23_code 47 = .ok (.iload_n 2, 1) := by decide +kernel
theorem d_De_recover_48 : decode prog_1_method_23_code 48 = .ok (.putfield 90, 3) := by decide +kernel
theorem d_De_recover_51 : decode prog_1_method_23_code 51 = .ok (.aload_n 0, 1) := by decide +kernel
theorem d_De_recover_52 : decode prog_1_method_23_code 52 = .ok (.iload_n 2, 1) := by decide +kernel
theorem d_De_recover_53 : decode prog_1_method_23_code 53 = .ok (.putfield 107, 3) := by decide +kernel
theorem d_De_recover_56 : decode prog_1_method_23_code 56 = .ok (.aload_n 0, 1) := by decide +kernel
theorem d_De_recover_57 : decode prog_1_method_23_code 57 = .ok (.iconst (-1), 1) := by decide +kernel
theorem d_De_recover_58 : decode prog_1_method_23_code 58 = .ok (.putfield 48, 3) := by decide +kernel
theorem d_De_recover_61 : decode prog_1_method_23_code 61 = .ok (.aload_n 0, 1) := by decide +kernel
theorem d_De_recover_62 : decode prog_1_method_23_code 62 = .ok (.getfield 19, 3) := by decide +kernel
theorem d_De_recover_65 : decode prog_1_method_23_code 65 = .ok (.invokevirtual 93, 3) := by decide +kernel
theorem d_De_recover_68 : decode prog_1_method_23_code 68 = .ok (.aload_n 0, 1) := by decide +kernel
theorem d_De_recover_69 : decode prog_1_method_23_code 69 = .ok (.getfield 26, 3) := by decide +kernel
theorem d_De_recover_72 : decode prog_1_method_23_code 72 = .ok (.invokevirtual 176, 3) := by decide +kernel
theorem d_De_recover_75 : decode prog_1_method_23_code 75 = .ok (.aload_n 0, 1) := by decide +kernel
theorem d_De_recover_76 : decode prog_1_method_23_code 76 = .ok (.getfield 33, 3) := by decide +kernel
theorem d_De_recover_79 : decode prog_1_method_23_code 79 = .ok (.invokevirtual 141, 3) := by decide +kernel
theorem d_De_recover_82 : decode prog_1_method_23_code 82 = .ok (.iload_n 1, 1) := by decide +kernel
theorem d_De_recover_83 : decode prog_1_method_23_code 83 = .ok (.ireturn, 1) := by decide +kernel
theorem d_De_endOfRecord_0 : decode prog_1_method_21_code 0 = .ok (.iload_n 1, 1) := by decide +kernel
theorem d_De_endOfRecord_1 : decode prog_1_method_21_code 1 = .ok (.iconst 3, 1) := by decide +kernel
theorem d_De_endOfRecord_2 : decode prog_1_method_21_code 2 = .ok (.iadd, 1) := by decide +kernel
theorem d_De_endOfRecord_3 : decode prog_1_method_21_code 3 = .ok (.aload_n 0, 1) := by decide +kernel
theorem d_De_endOfRecord_4 : decode prog_1_method_21_code 4 = .ok (.iload_n 1, 1) := by decide +kernel
theorem d_De_endOfRecord_5 : decode prog_1_method_21_code 5 = .ok (.invokevirtual 162, 3) := by decide +kernel
theorem d_De_endOfRecord_8 : decode prog_1_method_21_code 8 = .ok (.iadd, 1) := by decide +kernel
theorem d_De_endOfRecord_9 : decode prog_1_method_21_code 9 = .ok (.ireturn, 1) := by decide +kernel
theorem d_De_bytesOfRecord_0 : decode prog_1_method_20_code 0 = .ok (.aload_n 0, 1) := by decide +kernel
theorem d_De_bytesOfRecord_1 : decode prog_1_method_20_code 1 = .ok (.getfield 12, 3) := by decide +kernel
theorem d_De_bytesOfRecord_4 : decode prog_1_method_20_code 4 = .ok (.iload_n 1, 1) := by decide +kernel
theorem d_De_bytesOfRecord_5 : decode prog_1_method_20_code 5 = .ok (.iconst 1, 1) := by decide +kernel
theorem d_De_bytesOfRecord_6 : decode prog_1_method_20_code 6 = .ok (.iadd, 1) := by decide +kernel
theorem d_De_bytesOfRecord_7 : decode prog_1_method_20_code 7 = .ok (.invokevirtual 161, 3) := by decide +kernel
theorem d_De_bytesOfRecord_10 : decode prog_1_method_20_code 10 = .ok (.bipush 8, 2) := by decide +kernel
theorem d_De_bytesOfRecord_12 : decode prog_1_method_20_code 12 = .ok (.ishl, 1) := by decide +kernel
theorem d_De_bytesOfRecord_13 : decode prog_1_method_20_code 13 = .ok (.aload_n 0, 1) := by decide +kernel
theorem d_De_bytesOfRecord_14 : decode prog_1_method_20_code 14 = .ok (.getfield 12, 3) := by decide +kernel
theorem d_De_bytesOfRecord_17 : decode prog_1_method_20_code 17 = .ok (.iload_n 1, 1) := by decide +kernel
theorem d_De_bytesOfRecord_18 : decode prog_1_method_20_code 18 = .ok (.iconst 2, 1) := by decide +kernel
theorem d_De_bytesOfRecord_19 : decode prog_1_method_20_code 19 = .ok (.iadd, 1) := by decide +kernel
theorem d_De_bytesOfRecord_20 : decode prog_1_method_20_code 20 = .ok (.invokevirtual 161, 3) := by decide +kernel
theorem d_De_bytesOfRecord_23 : decode prog_1_method_20_code 23 = .ok (.ior, 1) := by decide +kernel
theorem d_De_bytesOfRecord_24 : decode prog_1_method_20_code 24 = .ok (.ireturn, 1) := by decide +kernel
theorem d_Ri_get_0 : decode prog_6_method_2_code 0 = .ok (.iload_n 1, 1) := by decide +kernel
theorem d_Ri_get_1 : decode prog_6_method_2_code 1 = .ok (.ifCond .ge 5, 3) := by decide +kernel
theorem d_Ri_get_4 : decode prog_6_method_2_code 4 = .ok (.iconst 0, 1) := by decide +kernel
theorem d_Ri_get_5 : decode prog_6_method_2_code 5 = .ok (.ireturn, 1) := by decide +kernel
theorem d_Ri_get_6 : decode prog_6_method_2_code 6 = .ok (.aload_n 0, 1) := by decide +kernel
theorem d_Ri_get_7 : decode prog_6_method_2_code 7 = .ok (.getfield 11, 3) := by decide +kernel
theorem d_Ri_get_10 : decode prog_6_method_2_code 10 = .ok (.iload_n 1, 1) := by decide +kernel
theorem d_Ri_get_11 : decode prog_6_method_2_code 11 = .ok (.invokestatic 17, 3) := by decide +kernel
theorem d_Ri_get_14 : decode prog_6_method_2_code 14 = .ok (.bipush 32, 2) := by decide +kernel
theorem d_Ri_get_16 : decode prog_6_method_2_code 16 = .ok (.irem, 1) := by decide +kernel
theorem d_Ri_get_17 : decode prog_6_method_2_code 17 = .ok (.aaload, 1) := by decide +kernel
theorem d_Ri_get_18 : decode prog_6_method_2_code 18 = .ok (.astore_n 2, 1) := by decide +kernel
theorem d_Ri_get_19 : decode prog_6_method_2_code 19 = .ok (.aload_n 2, 1) := by decide +kernel
theorem d_Ri_get_20 : decode prog_6_method_2_code 20 = .ok (.ifnonnull 7, 3) := by decide +kernel
theorem d_Ri_get_23 : decode prog_6_method_2_code 23 = .ok (.iconst 0, 1) := by decide +kernel
theorem d_Ri_get_24 : decode prog_6_method_2_code 24 = .ok (.goto 17, 3) := by decide +kernel
theorem d_Ri_get_27 : decode prog_6_method_2_code 27 = .ok (.aload_n 2, 1) := by decide +kernel
theorem d_Ri_get_28 : decode prog_6_method_2_code 28 = .ok (.getfield 21, 3) := by decide +kernel
theorem d_Ri_get_31 : decode prog_6_method_2_code 31 = .ok (.iload_n 1, 1) := by decide +kernel
theorem d_Ri_get_32 : decode prog_6_method_2_code 32 = .ok (.sipush 500, 3) := by decide +kernel
theorem d_Ri_get_35 : decode prog_6_method_2_code 35 = .ok (.irem, 1) := by decide +kernel
theorem d_Ri_get_36 : decode prog_6_method_2_code 36 = .ok (.baload, 1) := by decide +kernel
theorem d_Ri_get_37 : decode prog_6_method_2_code 37 = .ok (.sipush 255, 3) := by decide +kernel
theorem d_Ri_get_40 : decode prog_6_method_2_code 40 = .ok (.iand, 1) := by decide +kernel
theorem d_Ri_get_41 : decode prog_6_method_2_code 41 = .ok (.ireturn, 1) := by decide +kernel
theorem d_De_blockOf_0 : decode prog_1_method_17_code 0 = .ok (.iload_n 0, 1) := by decide +kernel
theorem d_De_blockOf_1 : decode prog_1_method_17_code 1 = .ok (.sipush 500, 3) := by decide +kernel
theorem d_De_blockOf_4 : decode prog_1_method_17_code 4 = .ok (.idiv, 1) := by decide +kernel
theorem d_De_blockOf_5 : decode prog_1_method_17_code 5 = .ok (.ireturn, 1) := by decide +kernel
theorem d_Ha_clear_0 : decode prog_4_method_6_code 0 = .ok (.aload_n 0, 1) := by decide +kernel
theorem d_Ha_clear_1 : decode prog_4_method_6_code 1 = .ok (.iconst 0, 1) := by decide +kernel
theorem d_Ha_clear_2 : decode prog_4_method_6_code 2 = .ok (.putfield 15, 3) := by decide +kernel
theorem d_Ha_clear_5 : decode prog_4_method_6_code 5 = .ok (.return_, 1) := by decide +kernel
theorem d_Wa_clear_0 : decode prog_7_method_9_code 0 = .ok (.aload_n 0, 1) := by decide +kernel
theorem d_Wa_clear_1 : decode prog_7_method_9_code 1 = .ok (.getfield 9, 3) := by decide +kernel
theorem d_Wa_clear_4 : decode prog_7_method_9_code 4 = .ok (.iconst 0, 1) := by decide +kernel
theorem d_Wa_clear_5 : decode prog_7_method_9_code 5 = .ok (.invokestatic 26, 3) := by decide +kernel
theorem d_Wa_clear_8 : decode prog_7_method_9_code 8 = .ok (.return_, 1) := by decide +kernel
theorem d_Ar_fillI_0 : decode prog_18_method_103_code 0 = .ok (.iconst 0, 1) := by decide +kernel
theorem d_Ar_fillI_1 : decode prog_18_method_103_code 1 = .ok (.istore_n 2, 1) := by decide +kernel
theorem d_Ar_fillI_2 : decode prog_18_method_103_code 2 = .ok (.aload_n 0, 1) := by decide +kernel
theorem d_Ar_fillI_3 : decode prog_18_method_103_code 3 = .ok (.arraylength, 1) := by decide +kernel
theorem d_Ar_fillI_4 : decode prog_18_method_103_code 4 = .ok (.istore_n 3, 1) := by decide +kernel
theorem d_Ar_fillI_5 : decode prog_18_method_103_code 5 = .ok (.iload_n 2, 1) := by decide +kernel
theorem d_Ar_fillI_6 : decode prog_18_method_103_code 6 = .ok (.iload_n 3, 1) := by decide +kernel
theorem d_Ar_fillI_7 : decode prog_18_method_103_code 7 = .ok (.if_icmp .ge 13, 3) := by decide +kernel
theorem d_Ar_fillI_10 : decode prog_18_method_103_code 10 = .ok (.aload_n 0, 1) := by decide +kernel
theorem d_Ar_fillI_11 : decode prog_18_method_103_code 11 = .ok (.iload_n 2, 1) := by decide +kernel
theorem d_Ar_fillI_12 : decode prog_18_method_103_code 12 = .ok (.iload_n 1, 1) := by decide +kernel
theorem d_Ar_fillI_13 : decode prog_18_method_103_code 13 = .ok (.iastore, 1) := by decide +kernel
theorem d_Ar_fillI_14 : decode prog_18_method_103_code 14 = .ok (.iinc 2 1, 3) := by decide +kernel
theorem d_Ar_fillI_17 : decode prog_18_method_103_code 17 = .ok (.goto (-12), 3) := by decide +kernel
theorem d_Ar_fillI_20 : decode prog_18_method_103_code 20 = .ok (.return_, 1) := by decide +kernel
theorem d_De_length_0 : decode prog_1_method_13_code 0 = .ok (.aload_n 0, 1) := by decide +kernel
theorem d_De_length_1 : decode prog_1_method_13_code 1 = .ok (.getfield 48, 3) := by decide +kernel
theorem d_De_length_4 : decode prog_1_method_13_code 4 = .ok (.iconst (-1), 1) := by decide +kernel
theorem d_De_length_5 : decode prog_1_method_13_code 5 = .ok (.if_icmp .ne 7, 3) := by decide +kernel
theorem d_De_length_8 : decode prog_1_method_13_code 8 = .ok (.iconst (-1), 1) := by decide +kernel
theorem d_De_length_9 : decode prog_1_method_13_code 9 = .ok (.goto 11, 3) := by decide +kernel
theorem d_De_length_12 : decode prog_1_method_13_code 12 = .ok (.aload_n 0, 1) := by decide +kernel
theorem d_De_length_13 : decode prog_1_method_13_code 13 = .ok (.aload_n 0, 1) := by decide +kernel
theorem d_De_length_14 : decode prog_1_method_13_code 14 = .ok (.getfield 48, 3) := by decide +kernel
theorem d_De_length_17 : decode prog_1_method_13_code 17 = .ok (.invokevirtual 162, 3) := by decide +kernel
theorem d_De_length_20 : decode prog_1_method_13_code 20 = .ok (.ireturn, 1) := by decide +kernel
theorem d_De_byteOf_0 : decode prog_1_method_14_code 0 = .ok (.aload_n 0, 1) := by decide +kernel
theorem d_De_byteOf_1 : decode prog_1_method_14_code 1 = .ok (.getfield 48, 3) := by decide +kernel
theorem d_De_byteOf_4 : decode prog_1_method_14_code 4 = .ok (.iconst (-1), 1) := by decide +kernel
theorem d_De_byteOf_5 : decode prog_1_method_14_code 5 = .ok (.if_icmp .eq 19, 3) := by decide +kernel
theorem d_De_byteOf_8 : decode prog_1_method_14_code 8 = .ok (.iload_n 1, 1) := by decide +kernel
theorem d_De_byteOf_9 : decode prog_1_method_14_code 9 = .ok (.ifCond .lt 15, 3) := by decide +kernel
theorem d_De_byteOf_12 : decode prog_1_method_14_code 12 = .ok (.iload_n 1, 1) := by decide +kernel
theorem d_De_byteOf_13 : decode prog_1_method_14_code 13 = .ok (.aload_n 0, 1) := by decide +kernel
theorem d_De_byteOf_14 : decode prog_1_method_14_code 14 = .ok (.aload_n 0, 1) := by decide +kernel
theorem d_De_byteOf_15 : decode prog_1_method_14_code 15 = .ok (.getfield 48, 3) := by decide +kernel
theorem d_De_byteOf_18 : decode prog_1_method_14_code 18 = .ok (.invokevirtual 162, 3) := by decide +kernel
theorem d_De_byteOf_21 : decode prog_1_method_14_code 21 = .ok (.if_icmp .lt 5, 3) := by decide +kernel
theorem d_De_byteOf_24 : decode prog_1_method_14_code 24 = .ok (.iconst (-1), 1) := by decide +kernel
theorem d_De_byteOf_25 : decode prog_1_method_14_code 25 = .ok (.ireturn, 1) := by decide +kernel
theorem d_De_byteOf_26 : decode prog_1_method_14_code 26 = .ok (.aload_n 0, 1) := by decide +kernel
theorem d_De_byteOf_27 : decode prog_1_method_14_code 27 = .ok (.getfield 12, 3) := by decide +kernel
theorem d_De_byteOf_30 : decode prog_1_method_14_code 30 = .ok (.aload_n 0, 1) := by decide +kernel
theorem d_De_byteOf_31 : decode prog_1_method_14_code 31 = .ok (.getfield 48, 3) := by decide +kernel
theorem d_De_byteOf_34 : decode prog_1_method_14_code 34 = .ok (.iconst 3, 1) := by decide +kernel
theorem d_De_byteOf_35 : decode prog_1_method_14_code 35 = .ok (.iadd, 1) := by decide +kernel
theorem d_De_byteOf_36 : decode prog_1_method_14_code 36 = .ok (.iload_n 1, 1) := by decide +kernel
theorem d_De_byteOf_37 : decode prog_1_method_14_code 37 = .ok (.iadd, 1) := by decide +kernel
theorem d_De_byteOf_38 : decode prog_1_method_14_code 38 = .ok (.invokevirtual 161, 3) := by decide +kernel
theorem d_De_byteOf_41 : decode prog_1_method_14_code 41 = .ok (.ireturn, 1) := by decide +kernel
theorem d_De_state_0 : decode prog_1_method_16_code 0 = .ok (.iload_n 1, 1) := by decide +kernel
theorem d_De_state_1 : decode prog_1_method_16_code 1 = .ok (.tableswitch 115 0 7 #[47, 52, 57, 62, 70, 78, 86, 94], 47) := by decide +kernel
theorem d_De_state_48 : decode prog_1_method_16_code 48 = .ok (.aload_n 0, 1) := by decide +kernel
theorem d_De_state_49 : decode prog_1_method_16_code 49 = .ok (.getfield 147, 3) := by decide +kernel
theorem d_De_state_52 : decode prog_1_method_16_code 52 = .ok (.ireturn, 1) := by decide +kernel
theorem d_De_state_53 : decode prog_1_method_16_code 53 = .ok (.aload_n 0, 1) := by decide +kernel
theorem d_De_state_54 : decode prog_1_method_16_code 54 = .ok (.getfield 90, 3) := by decide +kernel
theorem d_De_state_57 : decode prog_1_method_16_code 57 = .ok (.ireturn, 1) := by decide +kernel
theorem d_De_state_58 : decode prog_1_method_16_code 58 = .ok (.aload_n 0, 1) := by decide +kernel
theorem d_De_state_59 : decode prog_1_method_16_code 59 = .ok (.getfield 107, 3) := by decide +kernel
theorem d_De_state_62 : decode prog_1_method_16_code 62 = .ok (.ireturn, 1) := by decide +kernel
theorem d_De_state_63 : decode prog_1_method_16_code 63 = .ok (.aload_n 0, 1) := by decide +kernel
theorem d_De_state_64 : decode prog_1_method_16_code 64 = .ok (.getfield 40, 3) := by decide +kernel
theorem d_De_state_67 : decode prog_1_method_16_code 67 = .ok (.invokevirtual 170, 3) := by decide +kernel
theorem d_De_state_70 : decode prog_1_method_16_code 70 = .ok (.ireturn, 1) := by decide +kernel
theorem d_De_state_71 : decode prog_1_method_16_code 71 = .ok (.aload_n 0, 1) := by decide +kernel
theorem d_De_state_72 : decode prog_1_method_16_code 72 = .ok (.getfield 19, 3) := by decide +kernel
theorem d_De_state_75 : decode prog_1_method_16_code 75 = .ok (.invokevirtual 66, 3) := by decide +kernel
theorem d_De_state_78 : decode prog_1_method_16_code 78 = .ok (.ireturn, 1) := by decide +kernel
theorem d_De_state_79 : decode prog_1_method_16_code 79 = .ok (.aload_n 0, 1) := by decide +kernel
theorem d_De_state_80 : decode prog_1_method_16_code 80 = .ok (.getfield 26, 3) := by decide +kernel
theorem d_De_state_83 : decode prog_1_method_16_code 83 = .ok (.invokevirtual 173, 3) := by decide +kernel
theorem d_De_state_86 : decode prog_1_method_16_code 86 = .ok (.ireturn, 1) := by decide +kernel
theorem d_De_state_87 : decode prog_1_method_16_code 87 = .ok (.aload_n 0, 1) := by decide +kernel
theorem d_De_state_88 : decode prog_1_method_16_code 88 = .ok (.getfield 33, 3) := by decide +kernel
theorem d_De_state_91 : decode prog_1_method_16_code 91 = .ok (.invokevirtual 174, 3) := by decide +kernel
theorem d_De_state_94 : decode prog_1_method_16_code 94 = .ok (.ireturn, 1) := by decide +kernel
theorem d_De_state_95 : decode prog_1_method_16_code 95 = .ok (.aload_n 0, 1) := by decide +kernel
theorem d_De_state_96 : decode prog_1_method_16_code 96 = .ok (.getfield 48, 3) := by decide +kernel
theorem d_De_state_99 : decode prog_1_method_16_code 99 = .ok (.iconst (-1), 1) := by decide +kernel
theorem d_De_state_100 : decode prog_1_method_16_code 100 = .ok (.if_icmp .ne 7, 3) := by decide +kernel
theorem d_De_state_103 : decode prog_1_method_16_code 103 = .ok (.iconst (-1), 1) := by decide +kernel
theorem d_De_state_104 : decode prog_1_method_16_code 104 = .ok (.goto 11, 3) := by decide +kernel
theorem d_De_state_107 : decode prog_1_method_16_code 107 = .ok (.aload_n 0, 1) := by decide +kernel
theorem d_De_state_108 : decode prog_1_method_16_code 108 = .ok (.aload_n 0, 1) := by decide +kernel
theorem d_De_state_109 : decode prog_1_method_16_code 109 = .ok (.getfield 48, 3) := by decide +kernel
theorem d_De_state_112 : decode prog_1_method_16_code 112 = .ok (.invokevirtual 153, 3) := by decide +kernel
theorem d_De_state_115 : decode prog_1_method_16_code 115 = .ok (.ireturn, 1) := by decide +kernel
theorem d_De_state_116 : decode prog_1_method_16_code 116 = .ok (.iconst (-1), 1) := by decide +kernel
theorem d_De_state_117 : decode prog_1_method_16_code 117 = .ok (.ireturn, 1) := by decide +kernel
theorem d_Di_written_0 : decode prog_3_method_2_code 0 = .ok (.aload_n 0, 1) := by decide +kernel
theorem d_Di_written_1 : decode prog_3_method_2_code 1 = .ok (.getfield 15, 3) := by decide +kernel
theorem d_Di_written_4 : decode prog_3_method_2_code 4 = .ok (.ireturn, 1) := by decide +kernel
theorem d_Ha_count_0 : decode prog_4_method_2_code 0 = .ok (.aload_n 0, 1) := by decide +kernel
theorem d_Ha_count_1 : decode prog_4_method_2_code 1 = .ok (.getfield 15, 3) := by decide +kernel
theorem d_Ha_count_4 : decode prog_4_method_2_code 4 = .ok (.ireturn, 1) := by decide +kernel
theorem d_Wa_count_0 : decode prog_7_method_8_code 0 = .ok (.iconst 0, 1) := by decide +kernel
theorem d_Wa_count_1 : decode prog_7_method_8_code 1 = .ok (.istore_n 1, 1) := by decide +kernel
theorem d_Wa_count_2 : decode prog_7_method_8_code 2 = .ok (.iconst 0, 1) := by decide +kernel
theorem d_Wa_count_3 : decode prog_7_method_8_code 3 = .ok (.istore_n 2, 1) := by decide +kernel
theorem d_Wa_count_4 : decode prog_7_method_8_code 4 = .ok (.iload_n 2, 1) := by decide +kernel
theorem d_Wa_count_5 : decode prog_7_method_8_code 5 = .ok (.bipush 6, 2) := by decide +kernel
theorem d_Wa_count_7 : decode prog_7_method_8_code 7 = .ok (.if_icmp .ge 20, 3) := by decide +kernel
theorem d_Wa_count_10 : decode prog_7_method_8_code 10 = .ok (.aload_n 0, 1) := by decide +kernel
theorem d_Wa_count_11 : decode prog_7_method_8_code 11 = .ok (.iload_n 2, 1) := by decide +kernel
theorem d_Wa_count_12 : decode prog_7_method_8_code 12 = .ok (.invokevirtual 19, 3) := by decide +kernel
theorem d_Wa_count_15 : decode prog_7_method_8_code 15 = .ok (.ifCond .eq 6, 3) := by decide +kernel
theorem d_Wa_count_18 : decode prog_7_method_8_code 18 = .ok (.iinc 1 1, 3) := by decide +kernel
theorem d_Wa_count_21 : decode prog_7_method_8_code 21 = .ok (.iinc 2 1, 3) := by decide +kernel
theorem d_Wa_count_24 : decode prog_7_method_8_code 24 = .ok (.goto (-20), 3) := by decide +kernel
theorem d_Wa_count_27 : decode prog_7_method_8_code 27 = .ok (.iload_n 1, 1) := by decide +kernel
theorem d_Wa_count_28 : decode prog_7_method_8_code 28 = .ok (.ireturn, 1) := by decide +kernel
theorem d_Pa_count_0 : decode prog_5_method_2_code 0 = .ok (.aload_n 0, 1) := by decide +kernel
theorem d_Pa_count_1 : decode prog_5_method_2_code 1 = .ok (.getfield 15, 3) := by decide +kernel
theorem d_Pa_count_4 : decode prog_5_method_2_code 4 = .ok (.ireturn, 1) := by decide +kernel
theorem d_De_append_0 : decode prog_1_method_4_code 0 = .ok (.iload_n 1, 1) := by decide +kernel
theorem d_De_append_1 : decode prog_1_method_4_code 1 = .ok (.iconst 1, 1) := by decide +kernel
theorem d_De_append_2 : decode prog_1_method_4_code 2 = .ok (.if_icmp .lt 9, 3) := by decide +kernel
theorem d_De_append_5 : decode prog_1_method_4_code 5 = .ok (.iload_n 1, 1) := by decide +kernel
theorem d_De_append_6 : decode prog_1_method_4_code 6 = .ok (.bipush 15, 2) := by decide +kernel
theorem d_De_append_8 : decode prog_1_method_4_code 8 = .ok (.if_icmp .lt 13, 3) := by decide +kernel
theorem d_De_append_11 : decode prog_1_method_4_code 11 = .ok (.new 59, 3) := by decide +kernel
theorem d_De_append_14 : decode prog_1_method_4_code 14 = .ok (.dup, 1) := by decide +kernel
theorem d_De_append_15 : decode prog_1_method_4_code 15 = .ok (.ldc 61, 2) := by decide +kernel
theorem d_De_append_17 : decode prog_1_method_4_code 17 = .ok (.invokespecial 63, 3) := by decide +kernel
theorem d_De_append_20 : decode prog_1_method_4_code 20 = .ok (.athrow, 1) := by decide +kernel
theorem d_De_append_21 : decode prog_1_method_4_code 21 = .ok (.aload_n 0, 1) := by decide +kernel
theorem d_De_append_22 : decode prog_1_method_4_code 22 = .ok (.getfield 19, 3) := by decide +kernel
theorem d_De_append_25 : decode prog_1_method_4_code 25 = .ok (.invokevirtual 66, 3) := by decide +kernel
theorem d_De_append_28 : decode prog_1_method_4_code 28 = .ok (.istore_n 2, 1) := by decide +kernel
theorem d_De_append_29 : decode prog_1_method_4_code 29 = .ok (.aload_n 0, 1) := by decide +kernel
theorem d_De_append_30 : decode prog_1_method_4_code 30 = .ok (.iload_n 2, 1) := by decide +kernel
theorem d_De_append_31 : decode prog_1_method_4_code 31 = .ok (.invokevirtual 70, 3) := by decide +kernel
theorem d_De_append_34 : decode prog_1_method_4_code 34 = .ok (.ifCond .eq 13, 3) := by decide +kernel
theorem d_De_append_37 : decode prog_1_method_4_code 37 = .ok (.new 73, 3) := by decide +kernel
theorem d_De_append_40 : decode prog_1_method_4_code 40 = .ok (.dup, 1) := by decide +kernel
theorem d_De_append_41 : decode prog_1_method_4_code 41 = .ok (.ldc 75, 2) := by decide +kernel
theorem d_De_append_43 : decode prog_1_method_4_code 43 = .ok (.invokespecial 77, 3) := by decide +kernel
theorem d_De_append_46 : decode prog_1_method_4_code 46 = .ok (.athrow, 1) := by decide +kernel
theorem d_De_append_47 : decode prog_1_method_4_code 47 = .ok (.aload_n 0, 1) := by decide +kernel
theorem d_De_append_48 : decode prog_1_method_4_code 48 = .ok (.iload_n 1, 1) := by decide +kernel
theorem d_De_append_49 : decode prog_1_method_4_code 49 = .ok (.iload_n 2, 1) := by decide +kernel
theorem d_De_append_50 : decode prog_1_method_4_code 50 = .ok (.invokevirtual 78, 3) := by decide +kernel
theorem d_De_append_53 : decode prog_1_method_4_code 53 = .ok (.istore_n 3, 1) := by decide +kernel
theorem d_De_append_54 : decode prog_1_method_4_code 54 = .ok (.iconst 0, 1) := by decide +kernel
theorem d_De_append_55 : decode prog_1_method_4_code 55 = .ok (.istore 4, 2) := by decide +kernel
theorem d_De_append_57 : decode prog_1_method_4_code 57 = .ok (.iload 4, 2) := by decide +kernel
theorem d_De_append_59 : decode prog_1_method_4_code 59 = .ok (.iload_n 2, 1) := by decide +kernel
theorem d_De_append_60 : decode prog_1_method_4_code 60 = .ok (.if_icmp .ge 29, 3) := by decide +kernel
theorem d_De_append_63 : decode prog_1_method_4_code 63 = .ok (.aload_n 0, 1) := by decide +kernel
theorem d_De_append_64 : decode prog_1_method_4_code 64 = .ok (.getfield 12, 3) := by decide +kernel
theorem d_De_append_67 : decode prog_1_method_4_code 67 = .ok (.iload_n 3, 1) := by decide +kernel
theorem d_De_append_68 : decode prog_1_method_4_code 68 = .ok (.iload 4, 2) := by decide +kernel
theorem d_De_append_70 : decode prog_1_method_4_code 70 = .ok (.iadd, 1) := by decide +kernel
theorem d_De_append_71 : decode prog_1_method_4_code 71 = .ok (.aload_n 0, 1) := by decide +kernel
theorem d_De_append_72 : decode prog_1_method_4_code 72 = .ok (.getfield 19, 3) := by decide +kernel
theorem d_De_append_75 : decode prog_1_method_4_code 75 = .ok (.iload 4, 2) := by decide +kernel
theorem d_De_append_77 : decode prog_1_method_4_code 77 = .ok (.invokevirtual 82, 3) := by decide +kernel
theorem d_De_append_80 : decode prog_1_method_4_code 80 = .ok (.invokevirtual 86, 3) := by decide +kernel
theorem d_De_append_83 : decode prog_1_method_4_code 83 = .ok (.iinc 4 1, 3) := by decide +kernel
theorem d_De_append_86 : decode prog_1_method_4_code 86 = .ok (.goto (-29), 3) := by decide +kernel
theorem d_De_append_89 : decode prog_1_method_4_code 89 = .ok (.aload_n 0, 1) := by decide +kernel
theorem d_De_append_90 : decode prog_1_method_4_code 90 = .ok (.iload_n 3, 1) := by decide +kernel
theorem d_De_append_91 : decode prog_1_method_4_code 91 = .ok (.iload_n 2, 1) := by decide +kernel
theorem d_De_append_92 : decode prog_1_method_4_code 92 = .ok (.iadd, 1) := by decide +kernel
theorem d_De_append_93 : decode prog_1_method_4_code 93 = .ok (.putfield 90, 3) := by decide +kernel
theorem d_De_append_96 : decode prog_1_method_4_code 96 = .ok (.aload_n 0, 1) := by decide +kernel
theorem d_De_append_97 : decode prog_1_method_4_code 97 = .ok (.getfield 19, 3) := by decide +kernel
theorem d_De_append_100 : decode prog_1_method_4_code 100 = .ok (.invokevirtual 93, 3) := by decide +kernel
theorem d_De_append_103 : decode prog_1_method_4_code 103 = .ok (.aload_n 0, 1) := by decide +kernel
theorem d_De_append_104 : decode prog_1_method_4_code 104 = .ok (.getfield 90, 3) := by decide +kernel
theorem d_De_append_107 : decode prog_1_method_4_code 107 = .ok (.ireturn, 1) := by decide +kernel
theorem d_De_isFullFor_0 : decode prog_1_method_18_code 0 = .ok (.aload_n 0, 1) := by decide +kernel
theorem d_De_isFullFor_1 : decode prog_1_method_18_code 1 = .ok (.getfield 90, 3) := by decide +kernel
theorem d_De_isFullFor_4 : decode prog_1_method_18_code 4 = .ok (.iconst 3, 1) := by decide +kernel
theorem d_De_isFullFor_5 : decode prog_1_method_18_code 5 = .ok (.iadd, 1) := by decide +kernel
theorem d_De_isFullFor_6 : decode prog_1_method_18_code 6 = .ok (.iload_n 1, 1) := by decide +kernel
theorem d_De_isFullFor_7 : decode prog_1_method_18_code 7 = .ok (.iadd, 1) := by decide +kernel
theorem d_De_isFullFor_8 : decode prog_1_method_18_code 8 = .ok (.istore_n 2, 1) := by decide +kernel
theorem d_De_isFullFor_9 : decode prog_1_method_18_code 9 = .ok (.iload_n 2, 1) := by decide +kernel
theorem d_De_isFullFor_10 : decode prog_1_method_18_code 10 = .ok (.ldc 175, 2) := by decide +kernel
theorem d_De_isFullFor_12 : decode prog_1_method_18_code 12 = .ok (.if_icmp .gt 24, 3) := by decide +kernel
theorem d_De_isFullFor_15 : decode prog_1_method_18_code 15 = .ok (.iload_n 2, 1) := by decide +kernel
theorem d_De_isFullFor_16 : decode prog_1_method_18_code 16 = .ok (.iconst 1, 1) := by decide +kernel
theorem d_De_isFullFor_17 : decode prog_1_method_18_code 17 = .ok (.isub, 1) := by decide +kernel
theorem d_De_isFullFor_18 : decode prog_1_method_18_code 18 = .ok (.invokestatic 110, 3) := by decide +kernel
theorem d_De_isFullFor_21 : decode prog_1_method_18_code 21 = .ok (.aload_n 0, 1) := by decide +kernel
theorem d_De_isFullFor_22 : decode prog_1_method_18_code 22 = .ok (.getfield 147, 3) := by decide +kernel
theorem d_De_isFullFor_25 : decode prog_1_method_18_code 25 = .ok (.invokestatic 110, 3) := by decide +kernel
theorem d_De_isFullFor_28 : decode prog_1_method_18_code 28 = .ok (.isub, 1) := by decide +kernel
theorem d_De_isFullFor_29 : decode prog_1_method_18_code 29 = .ok (.aload_n 0, 1) := by decide +kernel
theorem d_De_isFullFor_30 : decode prog_1_method_18_code 30 = .ok (.getfield 44, 3) := by decide +kernel
theorem d_De_isFullFor_33 : decode prog_1_method_18_code 33 = .ok (.if_icmp .lt 7, 3) := by decide +kernel
theorem d_De_isFullFor_36 : decode prog_1_method_18_code 36 = .ok (.iconst 1, 1) := by decide +kernel
theorem d_De_isFullFor_37 : decode prog_1_method_18_code 37 = .ok (.goto 4, 3) := by decide +kernel
theorem d_De_isFullFor_40 : decode prog_1_method_18_code 40 = .ok (.iconst 0, 1) := by decide +kernel
theorem d_De_isFullFor_41 : decode prog_1_method_18_code 41 = .ok (.ireturn, 1) := by decide +kernel
theorem d_De_writeHead_0 : decode prog_1_method_19_code 0 = .ok (.aload_n 0, 1) := by decide +kernel
theorem d_De_writeHead_1 : decode prog_1_method_19_code 1 = .ok (.getfield 12, 3) := by decide +kernel
theorem d_De_writeHead_4 : decode prog_1_method_19_code 4 = .ok (.aload_n 0, 1) := by decide +kernel
theorem d_De_writeHead_5 : decode prog_1_method_19_code 5 = .ok (.getfield 90, 3) := by decide +kernel
theorem d_De_writeHead_8 : decode prog_1_method_19_code 8 = .ok (.iload_n 1, 1) := by decide +kernel
theorem d_De_writeHead_9 : decode prog_1_method_19_code 9 = .ok (.invokevirtual 86, 3) := by decide +kernel
theorem d_De_writeHead_12 : decode prog_1_method_19_code 12 = .ok (.aload_n 0, 1) := by decide +kernel
theorem d_De_writeHead_13 : decode prog_1_method_19_code 13 = .ok (.getfield 12, 3) := by decide +kernel
theorem d_De_writeHead_16 : decode prog_1_method_19_code 16 = .ok (.aload_n 0, 1) := by decide +kernel
theorem d_De_writeHead_17 : decode prog_1_method_19_code 17 = .ok (.getfield 90, 3) := by decide +kernel
theorem d_De_writeHead_20 : decode prog_1_method_19_code 20 = .ok (.iconst 1, 1) := by decide +kernel
theorem d_De_writeHead_21 : decode prog_1_method_19_code 21 = .ok (.iadd, 1) := by decide +kernel
theorem d_De_writeHead_22 : decode prog_1_method_19_code 22 = .ok (.iload_n 2, 1) := by decide +kernel
theorem d_De_writeHead_23 : decode prog_1_method_19_code 23 = .ok (.bipush 8, 2) := by decide +kernel
theorem d_De_writeHead_25 : decode prog_1_method_19_code 25 = .ok (.ishr, 1) := by decide +kernel
theorem d_De_writeHead_26 : decode prog_1_method_19_code 26 = .ok (.invokevirtual 86, 3) := by decide +kernel
theorem d_De_writeHead_29 : decode prog_1_method_19_code 29 = .ok (.aload_n 0, 1) := by decide +kernel
theorem d_De_writeHead_30 : decode prog_1_method_19_code 30 = .ok (.getfield 12, 3) := by decide +kernel
theorem d_De_writeHead_33 : decode prog_1_method_19_code 33 = .ok (.aload_n 0, 1) := by decide +kernel
theorem d_De_writeHead_34 : decode prog_1_method_19_code 34 = .ok (.getfield 90, 3) := by decide +kernel
theorem d_De_writeHead_37 : decode prog_1_method_19_code 37 = .ok (.iconst 2, 1) := by decide +kernel
theorem d_De_writeHead_38 : decode prog_1_method_19_code 38 = .ok (.iadd, 1) := by decide +kernel
theorem d_De_writeHead_39 : decode prog_1_method_19_code 39 = .ok (.iload_n 2, 1) := by decide +kernel
theorem d_De_writeHead_40 : decode prog_1_method_19_code 40 = .ok (.invokevirtual 86, 3) := by decide +kernel
theorem d_De_writeHead_43 : decode prog_1_method_19_code 43 = .ok (.aload_n 0, 1) := by decide +kernel
theorem d_De_writeHead_44 : decode prog_1_method_19_code 44 = .ok (.getfield 90, 3) := by decide +kernel
theorem d_De_writeHead_47 : decode prog_1_method_19_code 47 = .ok (.iconst 3, 1) := by decide +kernel
theorem d_De_writeHead_48 : decode prog_1_method_19_code 48 = .ok (.iadd, 1) := by decide +kernel
theorem d_De_writeHead_49 : decode prog_1_method_19_code 49 = .ok (.ireturn, 1) := by decide +kernel
theorem d_Ri_set_0 : decode prog_6_method_3_code 0 = .ok (.iload_n 1, 1) := by decide +kernel
theorem d_Ri_set_1 : decode prog_6_method_3_code 1 = .ok (.ifCond .ge 4, 3) := by decide +kernel
theorem d_Ri_set_4 : decode prog_6_method_3_code 4 = .ok (.return_, 1) := by decide +kernel
theorem d_Ri_set_5 : decode prog_6_method_3_code 5 = .ok (.iload_n 1, 1) := by decide +kernel
theorem d_Ri_set_6 : decode prog_6_method_3_code 6 = .ok (.invokestatic 17, 3) := by decide +kernel
theorem d_Ri_set_9 : decode prog_6_method_3_code 9 = .ok (.bipush 32, 2) := by decide +kernel
theorem d_Ri_set_11 : decode prog_6_method_3_code 11 = .ok (.irem, 1) := by decide +kernel
theorem d_Ri_set_12 : decode prog_6_method_3_code 12 = .ok (.istore_n 3, 1) := by decide +kernel
theorem d_Ri_set_13 : decode prog_6_method_3_code 13 = .ok (.aload_n 0, 1) := by decide +kernel
theorem d_Ri_set_14 : decode prog_6_method_3_code 14 = .ok (.getfield 11, 3) := by decide +kernel
theorem d_Ri_set_17 : decode prog_6_method_3_code 17 = .ok (.iload_n 3, 1) := by decide +kernel
theorem d_Ri_set_18 : decode prog_6_method_3_code 18 = .ok (.aaload, 1) := by decide +kernel
theorem d_Ri_set_19 : decode prog_6_method_3_code 19 = .ok (.astore 4, 2) := by decide +kernel
theorem d_Ri_set_21 : decode prog_6_method_3_code 21 = .ok (.aload 4, 2) := by decide +kernel
theorem d_Ri_set_23 : decode prog_6_method_3_code 23 = .ok (.ifnonnull 20, 3) := by decide +kernel
theorem d_Ri_set_26 : decode prog_6_method_3_code 26 = .ok (.new 9, 3) := by decide +kernel
theorem d_Ri_set_29 : decode prog_6_method_3_code 29 = .ok (.dup, 1) := by decide +kernel
theorem d_Ri_set_30 : decode prog_6_method_3_code 30 = .ok (.invokespecial 25, 3) := by decide +kernel
theorem d_Ri_set_33 : decode prog_6_method_3_code 33 = .ok (.astore 4, 2) := by decide +kernel
theorem d_Ri_set_35 : decode prog_6_method_3_code 35 = .ok (.aload_n 0, 1) := by decide +kernel
theorem d_Ri_set_36 : decode prog_6_method_3_code 36 = .ok (.getfield 11, 3) := by decide +kernel
theorem d_Ri_set_39 : decode prog_6_method_3_code 39 = .ok (.iload_n 3, 1) := by decide +kernel
theorem d_Ri_set_40 : decode prog_6_method_3_code 40 = .ok (.aload 4, 2) := by decide +kernel
theorem d_Ri_set_42 : decode prog_6_method_3_code 42 = .ok (.aastore, 1) := by decide +kernel
theorem d_Ri_set_43 : decode prog_6_method_3_code 43 = .ok (.aload 4, 2) := by decide +kernel
theorem d_Ri_set_45 : decode prog_6_method_3_code 45 = .ok (.getfield 21, 3) := by decide +kernel
theorem d_Ri_set_48 : decode prog_6_method_3_code 48 = .ok (.iload_n 1, 1) := by decide +kernel
theorem d_Ri_set_49 : decode prog_6_method_3_code 49 = .ok (.sipush 500, 3) := by decide +kernel
theorem d_Ri_set_52 : decode prog_6_method_3_code 52 = .ok (.irem, 1) := by decide +kernel
theorem d_Ri_set_53 : decode prog_6_method_3_code 53 = .ok (.iload_n 2, 1) := by decide +kernel
theorem d_Ri_set_54 : decode prog_6_method_3_code 54 = .ok (.i2b, 1) := by decide +kernel
theorem d_Ri_set_55 : decode prog_6_method_3_code 55 = .ok (.bastore, 1) := by decide +kernel
theorem d_Ri_set_56 : decode prog_6_method_3_code 56 = .ok (.return_, 1) := by decide +kernel
theorem d_Bl_init_0 : decode prog_2_method_1_code 0 = .ok (.aload_n 0, 1) := by decide +kernel
theorem d_Bl_init_1 : decode prog_2_method_1_code 1 = .ok (.invokespecial 3, 3) := by decide +kernel
theorem d_Bl_init_4 : decode prog_2_method_1_code 4 = .ok (.aload_n 0, 1) := by decide +kernel
theorem d_Bl_init_5 : decode prog_2_method_1_code 5 = .ok (.sipush 500, 3) := by decide +kernel
theorem d_Bl_init_8 : decode prog_2_method_1_code 8 = .ok (.newarray .byte, 2) := by decide +kernel
theorem d_Bl_init_10 : decode prog_2_method_1_code 10 = .ok (.putfield 9, 3) := by decide +kernel
theorem d_Bl_init_13 : decode prog_2_method_1_code 13 = .ok (.return_, 1) := by decide +kernel
theorem d_Ha_get_0 : decode prog_4_method_5_code 0 = .ok (.iload_n 1, 1) := by decide +kernel
theorem d_Ha_get_1 : decode prog_4_method_5_code 1 = .ok (.ifCond .lt 31, 3) := by decide +kernel
theorem d_Ha_get_4 : decode prog_4_method_5_code 4 = .ok (.iload_n 1, 1) := by decide +kernel
theorem d_Ha_get_5 : decode prog_4_method_5_code 5 = .ok (.aload_n 0, 1) := by decide +kernel
theorem d_Ha_get_6 : decode prog_4_method_5_code 6 = .ok (.getfield 15, 3) := by decide +kernel
theorem d_Ha_get_9 : decode prog_4_method_5_code 9 = .ok (.if_icmp .ge 23, 3) := by decide +kernel
theorem d_Ha_get_12 : decode prog_4_method_5_code 12 = .ok (.iload_n 1, 1) := by decide +kernel
theorem d_Ha_get_13 : decode prog_4_method_5_code 13 = .ok (.sipush 600, 3) := by decide +kernel
theorem d_Ha_get_16 : decode prog_4_method_5_code 16 = .ok (.if_icmp .ge 16, 3) := by decide +kernel
theorem d_Ha_get_19 : decode prog_4_method_5_code 19 = .ok (.aload_n 0, 1) := by decide +kernel
theorem d_Ha_get_20 : decode prog_4_method_5_code 20 = .ok (.getfield 9, 3) := by decide +kernel
theorem d_Ha_get_23 : decode prog_4_method_5_code 23 = .ok (.iload_n 1, 1) := by decide +kernel
theorem d_Ha_get_24 : decode prog_4_method_5_code 24 = .ok (.baload, 1) := by decide +kernel
theorem d_Ha_get_25 : decode prog_4_method_5_code 25 = .ok (.sipush 255, 3) := by decide +kernel
theorem d_Ha_get_28 : decode prog_4_method_5_code 28 = .ok (.iand, 1) := by decide +kernel
theorem d_Ha_get_29 : decode prog_4_method_5_code 29 = .ok (.goto 4, 3) := by decide +kernel
theorem d_Ha_get_32 : decode prog_4_method_5_code 32 = .ok (.iconst 0, 1) := by decide +kernel
theorem d_Ha_get_33 : decode prog_4_method_5_code 33 = .ok (.ireturn, 1) := by decide +kernel
theorem d_De_commit_0 : decode prog_1_method_5_code 0 = .ok (.iload_n 1, 1) := by decide +kernel
theorem d_De_commit_1 : decode prog_1_method_5_code 1 = .ok (.ifCond .lt 9, 3) := by decide +kernel
theorem d_De_commit_4 : decode prog_1_method_5_code 4 = .ok (.iload_n 1, 1) := by decide +kernel
theorem d_De_commit_5 : decode prog_1_method_5_code 5 = .ok (.bipush 6, 2) := by decide +kernel
theorem d_De_commit_7 : decode prog_1_method_5_code 7 = .ok (.if_icmp .lt 13, 3) := by decide +kernel
theorem d_De_commit_10 : decode prog_1_method_5_code 10 = .ok (.new 59, 3) := by decide +kernel
theorem d_De_commit_13 : decode prog_1_method_5_code 13 = .ok (.dup, 1) := by decide +kernel
theorem d_De_commit_14 : decode prog_1_method_5_code 14 = .ok (.ldc 96, 2) := by decide +kernel
theorem d_De_commit_16 : decode prog_1_method_5_code 16 = .ok (.invokespecial 63, 3) := by decide +kernel
theorem d_De_commit_19 : decode prog_1_method_5_code 19 = .ok (.athrow, 1) := by decide +kernel
theorem d_De_commit_20 : decode prog_1_method_5_code 20 = .ok (.aload_n 0, 1) := by decide +kernel
theorem d_De_commit_21 : decode prog_1_method_5_code 21 = .ok (.getfield 26, 3) := by decide +kernel
theorem d_De_commit_24 : decode prog_1_method_5_code 24 = .ok (.iload_n 1, 1) := by decide +kernel
theorem d_De_commit_25 : decode prog_1_method_5_code 25 = .ok (.invokevirtual 98, 3) := by decide +kernel
theorem d_De_commit_28 : decode prog_1_method_5_code 28 = .ok (.ifCond .eq 13, 3) := by decide +kernel
theorem d_De_commit_31 : decode prog_1_method_5_code 31 = .ok (.new 73, 3) := by decide +kernel
theorem d_De_commit_34 : decode prog_1_method_5_code 34 = .ok (.dup, 1) := by decide +kernel
theorem d_De_commit_35 : decode prog_1_method_5_code 35 = .ok (.ldc 101, 2) := by decide +kernel
theorem d_De_commit_37 : decode prog_1_method_5_code 37 = .ok (.invokespecial 77, 3) := by decide +kernel
theorem d_De_commit_40 : decode prog_1_method_5_code 40 = .ok (.athrow, 1) := by decide +kernel
theorem d_De_commit_41 : decode prog_1_method_5_code 41 = .ok (.aload_n 0, 1) := by decide +kernel
theorem d_De_commit_42 : decode prog_1_method_5_code 42 = .ok (.iconst 1, 1) := by decide +kernel
theorem d_De_commit_43 : decode prog_1_method_5_code 43 = .ok (.invokevirtual 70, 3) := by decide +kernel
theorem d_De_commit_46 : decode prog_1_method_5_code 46 = .ok (.ifCond .eq 13, 3) := by decide +kernel
theorem d_De_commit_49 : decode prog_1_method_5_code 49 = .ok (.new 73, 3) := by decide +kernel
theorem d_De_commit_52 : decode prog_1_method_5_code 52 = .ok (.dup, 1) := by decide +kernel
theorem d_De_commit_53 : decode prog_1_method_5_code 53 = .ok (.ldc 75, 2) := by decide +kernel
theorem d_De_commit_55 : decode prog_1_method_5_code 55 = .ok (.invokespecial 77, 3) := by decide +kernel
theorem d_De_commit_58 : decode prog_1_method_5_code 58 = .ok (.athrow, 1) := by decide +kernel
theorem d_De_commit_59 : decode prog_1_method_5_code 59 = .ok (.aload_n 0, 1) := by decide +kernel
theorem d_De_commit_60 : decode prog_1_method_5_code 60 = .ok (.bipush 15, 2) := by decide +kernel
theorem d_De_commit_62 : decode prog_1_method_5_code 62 = .ok (.iconst 1, 1) := by decide +kernel
theorem d_De_commit_63 : decode prog_1_method_5_code 63 = .ok (.invokevirtual 78, 3) := by decide +kernel
theorem d_De_commit_66 : decode prog_1_method_5_code 66 = .ok (.istore_n 2, 1) := by decide +kernel
theorem d_De_commit_67 : decode prog_1_method_5_code 67 = .ok (.aload_n 0, 1) := by decide +kernel
theorem d_De_commit_68 : decode prog_1_method_5_code 68 = .ok (.getfield 12, 3) := by decide +kernel
theorem d_De_commit_71 : decode prog_1_method_5_code 71 = .ok (.iload_n 2, 1) := by decide +kernel
theorem d_De_commit_72 : decode prog_1_method_5_code 72 = .ok (.iload_n 1, 1) := by decide +kernel
theorem d_De_commit_73 : decode prog_1_method_5_code 73 = .ok (.invokevirtual 86, 3) := by decide +kernel
theorem d_De_commit_76 : decode prog_1_method_5_code 76 = .ok (.aload_n 0, 1) := by decide +kernel
theorem d_De_commit_77 : decode prog_1_method_5_code 77 = .ok (.iload_n 2, 1) := by decide +kernel
theorem d_De_commit_78 : decode prog_1_method_5_code 78 = .ok (.iconst 1, 1) := by decide +kernel
theorem d_De_commit_79 : decode prog_1_method_5_code 79 = .ok (.iadd, 1) := by decide +kernel
theorem d_De_commit_80 : decode prog_1_method_5_code 80 = .ok (.putfield 90, 3) := by decide +kernel
theorem d_De_commit_83 : decode prog_1_method_5_code 83 = .ok (.aload_n 0, 1) := by decide +kernel
theorem d_De_commit_84 : decode prog_1_method_5_code 84 = .ok (.getfield 26, 3) := by decide +kernel
theorem d_De_commit_87 : decode prog_1_method_5_code 87 = .ok (.iload_n 1, 1) := by decide +kernel
theorem d_De_commit_88 : decode prog_1_method_5_code 88 = .ok (.aload_n 0, 1) := by decide +kernel
theorem d_De_commit_89 : decode prog_1_method_5_code 89 = .ok (.getfield 90, 3) := by decide +kernel
theorem d_De_commit_92 : decode prog_1_method_5_code 92 = .ok (.invokevirtual 103, 3) := by decide +kernel
theorem d_De_commit_95 : decode prog_1_method_5_code 95 = .ok (.aload_n 0, 1) := by decide +kernel
theorem d_De_commit_96 : decode prog_1_method_5_code 96 = .ok (.getfield 90, 3) := by decide +kernel
theorem d_De_commit_99 : decode prog_1_method_5_code 99 = .ok (.ireturn, 1) := by decide +kernel
theorem d_Wa_add_0 : decode prog_7_method_5_code 0 = .ok (.iload_n 1, 1) := by decide +kernel
theorem d_Wa_add_1 : decode prog_7_method_5_code 1 = .ok (.invokestatic 15, 3) := by decide +kernel
theorem d_Wa_add_4 : decode prog_7_method_5_code 4 = .ok (.ifCond .eq 10, 3) := by decide +kernel
theorem d_Wa_add_7 : decode prog_7_method_5_code 7 = .ok (.aload_n 0, 1) := by decide +kernel
theorem d_Wa_add_8 : decode prog_7_method_5_code 8 = .ok (.getfield 9, 3) := by decide +kernel
theorem d_Wa_add_11 : decode prog_7_method_5_code 11 = .ok (.iload_n 1, 1) := by decide +kernel
theorem d_Wa_add_12 : decode prog_7_method_5_code 12 = .ok (.iload_n 2, 1) := by decide +kernel
theorem d_Wa_add_13 : decode prog_7_method_5_code 13 = .ok (.iastore, 1) := by decide +kernel
theorem d_Wa_add_14 : decode prog_7_method_5_code 14 = .ok (.return_, 1) := by decide +kernel
theorem d_De_flush_0 : decode prog_1_method_6_code 0 = .ok (.iload_n 1, 1) := by decide +kernel
theorem d_De_flush_1 : decode prog_1_method_6_code 1 = .ok (.ifCond .lt 11, 3) := by decide +kernel
theorem d_De_flush_4 : decode prog_1_method_6_code 4 = .ok (.iload_n 1, 1) := by decide +kernel
theorem d_De_flush_5 : decode prog_1_method_6_code 5 = .ok (.aload_n 0, 1) := by decide +kernel
theorem d_De_flush_6 : decode prog_1_method_6_code 6 = .ok (.getfield 90, 3) := by decide +kernel
theorem d_De_flush_9 : decode prog_1_method_6_code 9 = .ok (.if_icmp .le 13, 3) := by decide +kernel
theorem d_De_flush_12 : decode prog_1_method_6_code 12 = .ok (.new 59, 3) := by decide +kernel
theorem d_De_flush_15 : decode prog_1_method_6_code 15 = .ok (.dup, 1) := by decide +kernel
theorem d_De_flush_16 : decode prog_1_method_6_code 16 = .ok (.ldc 105, 2) := by decide +kernel
theorem d_De_flush_18 : decode prog_1_method_6_code 18 = .ok (.invokespecial 63, 3) := by decide +kernel
theorem d_De_flush_21 : decode prog_1_method_6_code 21 = .ok (.athrow, 1) := by decide +kernel
theorem d_De_flush_22 : decode prog_1_method_6_code 22 = .ok (.iload_n 1, 1) := by decide +kernel
theorem d_De_flush_23 : decode prog_1_method_6_code 23 = .ok (.aload_n 0, 1) := by decide +kernel
theorem d_De_flush_24 : decode prog_1_method_6_code 24 = .ok (.getfield 107, 3) := by decide +kernel
theorem d_De_flush_27 : decode prog_1_method_6_code 27 = .ok (.if_icmp .gt 5, 3) := by decide +kernel
theorem d_De_flush_30 : decode prog_1_method_6_code 30 = .ok (.iconst 0, 1) := by decide +kernel
theorem d_De_flush_31 : decode prog_1_method_6_code 31 = .ok (.ireturn, 1) := by decide +kernel
theorem d_De_flush_32 : decode prog_1_method_6_code 32 = .ok (.aload_n 0, 1) := by decide +kernel
theorem d_De_flush_33 : decode prog_1_method_6_code 33 = .ok (.getfield 107, 3) := by decide +kernel
theorem d_De_flush_36 : decode prog_1_method_6_code 36 = .ok (.invokestatic 110, 3) := by decide +kernel
theorem d_De_flush_39 : decode prog_1_method_6_code 39 = .ok (.istore_n 2, 1) := by decide +kernel
theorem d_De_flush_40 : decode prog_1_method_6_code 40 = .ok (.iload_n 1, 1) := by decide +kernel
theorem d_De_flush_41 : decode prog_1_method_6_code 41 = .ok (.iconst 1, 1) := by decide +kernel
theorem d_De_flush_42 : decode prog_1_method_6_code 42 = .ok (.isub, 1) := by decide +kernel
theorem d_De_flush_43 : decode prog_1_method_6_code 43 = .ok (.invokestatic 110, 3) := by decide +kernel
theorem d_De_flush_46 : decode prog_1_method_6_code 46 = .ok (.istore_n 3, 1) := by decide +kernel
theorem d_De_flush_47 : decode prog_1_method_6_code 47 = .ok (.iload_n 2, 1) := by decide +kernel
theorem d_De_flush_48 : decode prog_1_method_6_code 48 = .ok (.istore 4, 2) := by decide +kernel
theorem d_De_flush_50 : decode prog_1_method_6_code 50 = .ok (.iload 4, 2) := by decide +kernel
theorem d_De_flush_52 : decode prog_1_method_6_code 52 = .ok (.iload_n 3, 1) := by decide +kernel
theorem d_De_flush_53 : decode prog_1_method_6_code 53 = .ok (.if_icmp .gt 52, 3) := by decide +kernel
theorem d_De_flush_56 : decode prog_1_method_6_code 56 = .ok (.aload_n 0, 1) := by decide +kernel
theorem d_De_flush_57 : decode prog_1_method_6_code 57 = .ok (.getfield 40, 3) := by decide +kernel
theorem d_De_flush_60 : decode prog_1_method_6_code 60 = .ok (.invokevirtual 113, 3) := by decide +kernel
theorem d_De_flush_63 : decode prog_1_method_6_code 63 = .ok (.ifCond .ne 17, 3) := by decide +kernel
theorem d_De_flush_66 : decode prog_1_method_6_code 66 = .ok (.aload_n 0, 1) := by decide +kernel
theorem d_De_flush_67 : decode prog_1_method_6_code 67 = .ok (.invokevirtual 117, 3) := by decide +kernel
theorem d_De_flush_70 : decode prog_1_method_6_code 70 = .ok (.new 120, 3) := by decide +kernel
theorem d_De_flush_73 : decode prog_1_method_6_code 73 = .ok (.dup, 1) := by decide +kernel
theorem d_De_flush_74 : decode prog_1_method_6_code 74 = .ok (.ldc 122, 2) := by decide +kernel
theorem d_De_flush_76 : decode prog_1_method_6_code 76 = .ok (.invokespecial 124, 3) := by decide +kernel
theorem d_De_flush_79 : decode prog_1_method_6_code 79 = .ok (.athrow, 1) := by decide +kernel
theorem d_De_flush_80 : decode prog_1_method_6_code 80 = .ok (.aload_n 0, 1) := by decide +kernel
theorem d_De_flush_81 : decode prog_1_method_6_code 81 = .ok (.iload 4, 2) := by decide +kernel
theorem d_De_flush_83 : decode prog_1_method_6_code 83 = .ok (.iconst 1, 1) := by decide +kernel
theorem d_De_flush_84 : decode prog_1_method_6_code 84 = .ok (.iadd, 1) := by decide +kernel
theorem d_De_flush_85 : decode prog_1_method_6_code 85 = .ok (.sipush 500, 3) := by decide +kernel
theorem d_De_flush_88 : decode prog_1_method_6_code 88 = .ok (.imul, 1) := by decide +kernel
theorem d_De_flush_89 : decode prog_1_method_6_code 89 = .ok (.aload_n 0, 1) := by decide +kernel
theorem d_De_flush_90 : decode prog_1_method_6_code 90 = .ok (.getfield 90, 3) := by decide +kernel
theorem d_De_flush_93 : decode prog_1_method_6_code 93 = .ok (.invokestatic 125, 3) := by decide +kernel
theorem d_De_flush_96 : decode prog_1_method_6_code 96 = .ok (.putfield 107, 3) := by decide +kernel
theorem d_De_flush_99 : decode prog_1_method_6_code 99 = .ok (.iinc 4 1, 3) := by decide +kernel
theorem d_De_flush_102 : decode prog_1_method_6_code 102 = .ok (.goto (-52), 3) := by decide +kernel
theorem d_De_flush_105 : decode prog_1_method_6_code 105 = .ok (.iload_n 3, 1) := by decide +kernel
theorem d_De_flush_106 : decode prog_1_method_6_code 106 = .ok (.iload_n 2, 1) := by decide +kernel
theorem d_De_flush_107 : decode prog_1_method_6_code 107 = .ok (.isub, 1) := by decide +kernel
theorem d_De_flush_108 : decode prog_1_method_6_code 108 = .ok (.iconst 1, 1) := by decide +kernel
theorem d_De_flush_109 : decode prog_1_method_6_code 109 = .ok (.iadd, 1) := by decide +kernel
theorem d_De_flush_110 : decode prog_1_method_6_code 110 = .ok (.ireturn, 1) := by decide +kernel
theorem d_Di_writeBlock_0 : decode prog_3_method_5_code 0 = .ok (.aload_n 0, 1) := by decide +kernel
theorem d_Di_writeBlock_1 : decode prog_3_method_5_code 1 = .ok (.getfield 9, 3) := by decide +kernel
theorem d_Di_writeBlock_4 : decode prog_3_method_5_code 4 = .ok (.ifCond .ne 5, 3) := by decide +kernel
theorem d_Di_writeBlock_7 : decode prog_3_method_5_code 7 = .ok (.iconst 0, 1) := by decide +kernel
theorem d_Di_writeBlock_8 : decode prog_3_method_5_code 8 = .ok (.ireturn, 1) := by decide +kernel
theorem d_Di_writeBlock_9 : decode prog_3_method_5_code 9 = .ok (.aload_n 0, 1) := by decide +kernel
theorem d_Di_writeBlock_10 : decode prog_3_method_5_code 10 = .ok (.getfield 9, 3) := by decide +kernel
theorem d_Di_writeBlock_13 : decode prog_3_method_5_code 13 = .ok (.iconst (-1), 1) := by decide +kernel
theorem d_Di_writeBlock_14 : decode prog_3_method_5_code 14 = .ok (.if_icmp .eq 13, 3) := by decide +kernel
theorem d_Di_writeBlock_17 : decode prog_3_method_5_code 17 = .ok (.aload_n 0, 1) := by decide +kernel
theorem d_Di_writeBlock_18 : decode prog_3_method_5_code 18 = .ok (.dup, 1) := by decide +kernel
theorem d_Di_writeBlock_19 : decode prog_3_method_5_code 19 = .ok (.getfield 9, 3) := by decide +kernel
theorem d_Di_writeBlock_22 : decode prog_3_method_5_code 22 = .ok (.iconst 1, 1) := by decide +kernel
theorem d_Di_writeBlock_23 : decode prog_3_method_5_code 23 = .ok (.isub, 1) := by decide +kernel
theorem d_Di_writeBlock_24 : decode prog_3_method_5_code 24 = .ok (.putfield 9, 3) := by decide +kernel
theorem d_Di_writeBlock_27 : decode prog_3_method_5_code 27 = .ok (.aload_n 0, 1) := by decide +kernel
theorem d_Di_writeBlock_28 : decode prog_3_method_5_code 28 = .ok (.dup, 1) := by decide +kernel
theorem d_Di_writeBlock_29 : decode prog_3_method_5_code 29 = .ok (.getfield 15, 3) := by decide +kernel
theorem d_Di_writeBlock_32 : decode prog_3_method_5_code 32 = .ok (.iconst 1, 1) := by decide +kernel
theorem d_Di_writeBlock_33 : decode prog_3_method_5_code 33 = .ok (.iadd, 1) := by decide +kernel
theorem d_Di_writeBlock_34 : decode prog_3_method_5_code 34 = .ok (.putfield 15, 3) := by decide +kernel
theorem d_Di_writeBlock_37 : decode prog_3_method_5_code 37 = .ok (.iconst 1, 1) := by decide +kernel
theorem d_Di_writeBlock_38 : decode prog_3_method_5_code 38 = .ok (.ireturn, 1) := by decide +kernel
theorem d_De_cutPower_0 : decode prog_1_method_24_code 0 = .ok (.aload_n 0, 1) := by decide +kernel
theorem d_De_cutPower_1 : decode prog_1_method_24_code 1 = .ok (.invokevirtual 150, 3) := by decide +kernel
theorem d_De_cutPower_4 : decode prog_1_method_24_code 4 = .ok (.pop, 1) := by decide +kernel
theorem d_De_cutPower_5 : decode prog_1_method_24_code 5 = .ok (.aload_n 0, 1) := by decide +kernel
theorem d_De_cutPower_6 : decode prog_1_method_24_code 6 = .ok (.getfield 40, 3) := by decide +kernel
theorem d_De_cutPower_9 : decode prog_1_method_24_code 9 = .ok (.invokevirtual 177, 3) := by decide +kernel
theorem d_De_cutPower_12 : decode prog_1_method_24_code 12 = .ok (.return_, 1) := by decide +kernel
theorem d_Di_dropCharge_0 : decode prog_3_method_4_code 0 = .ok (.aload_n 0, 1) := by decide +kernel
theorem d_Di_dropCharge_1 : decode prog_3_method_4_code 1 = .ok (.iconst (-1), 1) := by decide +kernel
theorem d_Di_dropCharge_2 : decode prog_3_method_4_code 2 = .ok (.putfield 9, 3) := by decide +kernel
theorem d_Di_dropCharge_5 : decode prog_3_method_4_code 5 = .ok (.return_, 1) := by decide +kernel
theorem d_Ma_min_0 : decode prog_13_method_69_code 0 = .ok (.iload_n 0, 1) := by decide +kernel
theorem d_Ma_min_1 : decode prog_13_method_69_code 1 = .ok (.iload_n 1, 1) := by decide +kernel
theorem d_Ma_min_2 : decode prog_13_method_69_code 2 = .ok (.if_icmp .gt 7, 3) := by decide +kernel
theorem d_Ma_min_5 : decode prog_13_method_69_code 5 = .ok (.iload_n 0, 1) := by decide +kernel
theorem d_Ma_min_6 : decode prog_13_method_69_code 6 = .ok (.goto 4, 3) := by decide +kernel
theorem d_Ma_min_9 : decode prog_13_method_69_code 9 = .ok (.iload_n 1, 1) := by decide +kernel
theorem d_Ma_min_10 : decode prog_13_method_69_code 10 = .ok (.ireturn, 1) := by decide +kernel
theorem d_De_checkpoint_0 : decode prog_1_method_10_code 0 = .ok (.iload_n 1, 1) := by decide +kernel
theorem d_De_checkpoint_1 : decode prog_1_method_10_code 1 = .ok (.aload_n 0, 1) := by decide +kernel
theorem d_De_checkpoint_2 : decode prog_1_method_10_code 2 = .ok (.getfield 107, 3) := by decide +kernel
theorem d_De_checkpoint_5 : decode prog_1_method_10_code 5 = .ok (.if_icmp .gt 11, 3) := by decide +kernel
theorem d_De_checkpoint_8 : decode prog_1_method_10_code 8 = .ok (.aload_n 0, 1) := by decide +kernel
theorem d_De_checkpoint_9 : decode prog_1_method_10_code 9 = .ok (.iload_n 1, 1) := by decide +kernel
theorem d_De_checkpoint_10 : decode prog_1_method_10_code 10 = .ok (.invokevirtual 142, 3) := by decide +kernel
theorem d_De_checkpoint_13 : decode prog_1_method_10_code 13 = .ok (.ifCond .ne 13, 3) := by decide +kernel
theorem d_De_checkpoint_16 : decode prog_1_method_10_code 16 = .ok (.new 59, 3) := by decide +kernel
theorem d_De_checkpoint_19 : decode prog_1_method_10_code 19 = .ok (.dup, 1) := by decide +kernel
theorem d_De_checkpoint_20 : decode prog_1_method_10_code 20 = .ok (.ldc 145, 2) := by decide +kernel
theorem d_De_checkpoint_22 : decode prog_1_method_10_code 22 = .ok (.invokespecial 63, 3) := by decide +kernel
theorem d_De_checkpoint_25 : decode prog_1_method_10_code 25 = .ok (.athrow, 1) := by decide +kernel
theorem d_De_checkpoint_26 : decode prog_1_method_10_code 26 = .ok (.aload_n 0, 1) := by decide +kernel
theorem d_De_checkpoint_27 : decode prog_1_method_10_code 27 = .ok (.getfield 40, 3) := by decide +kernel
theorem d_De_checkpoint_30 : decode prog_1_method_10_code 30 = .ok (.invokevirtual 113, 3) := by decide +kernel
theorem d_De_checkpoint_33 : decode prog_1_method_10_code 33 = .ok (.ifCond .ne 17, 3) := by decide +kernel
theorem d_De_checkpoint_36 : decode prog_1_method_10_code 36 = .ok (.aload_n 0, 1) := by decide +kernel
theorem d_De_checkpoint_37 : decode prog_1_method_10_code 37 = .ok (.invokevirtual 117, 3) := by decide +kernel
theorem d_De_checkpoint_40 : decode prog_1_method_10_code 40 = .ok (.new 120, 3) := by decide +kernel
theorem d_De_checkpoint_43 : decode prog_1_method_10_code 43 = .ok (.dup, 1) := by decide +kernel
theorem d_De_checkpoint_44 : decode prog_1_method_10_code 44 = .ok (.ldc 122, 2) := by decide +kernel
theorem d_De_checkpoint_46 : decode prog_1_method_10_code 46 = .ok (.invokespecial 124, 3) := by decide +kernel
theorem d_De_checkpoint_49 : decode prog_1_method_10_code 49 = .ok (.athrow, 1) := by decide +kernel
theorem d_De_checkpoint_50 : decode prog_1_method_10_code 50 = .ok (.aload_n 0, 1) := by decide +kernel
theorem d_De_checkpoint_51 : decode prog_1_method_10_code 51 = .ok (.iload_n 1, 1) := by decide +kernel
theorem d_De_checkpoint_52 : decode prog_1_method_10_code 52 = .ok (.putfield 147, 3) := by decide +kernel
theorem d_De_checkpoint_55 : decode prog_1_method_10_code 55 = .ok (.aload_n 0, 1) := by decide +kernel
theorem d_De_checkpoint_56 : decode prog_1_method_10_code 56 = .ok (.iconst (-1), 1) := by decide +kernel
theorem d_De_checkpoint_57 : decode prog_1_method_10_code 57 = .ok (.putfield 48, 3) := by decide +kernel
theorem d_De_checkpoint_60 : decode prog_1_method_10_code 60 = .ok (.aload_n 0, 1) := by decide +kernel
theorem d_De_checkpoint_61 : decode prog_1_method_10_code 61 = .ok (.getfield 44, 3) := by decide +kernel
theorem d_De_checkpoint_64 : decode prog_1_method_10_code 64 = .ok (.aload_n 0, 1) := by decide +kernel
theorem d_De_checkpoint_65 : decode prog_1_method_10_code 65 = .ok (.getfield 90, 3) := by decide +kernel
theorem d_De_checkpoint_68 : decode prog_1_method_10_code 68 = .ok (.invokestatic 110, 3) := by decide +kernel
theorem d_De_checkpoint_71 : decode prog_1_method_10_code 71 = .ok (.aload_n 0, 1) := by decide +kernel
theorem d_De_checkpoint_72 : decode prog_1_method_10_code 72 = .ok (.getfield 147, 3) := by decide +kernel
theorem d_De_checkpoint_75 : decode prog_1_method_10_code 75 = .ok (.invokestatic 110, 3) := by decide +kernel
theorem d_De_checkpoint_78 : decode prog_1_method_10_code 78 = .ok (.isub, 1) := by decide +kernel
theorem d_De_checkpoint_79 : decode prog_1_method_10_code 79 = .ok (.iconst 1, 1) := by decide +kernel
theorem d_De_checkpoint_80 : decode prog_1_method_10_code 80 = .ok (.iadd, 1) := by decide +kernel
theorem d_De_checkpoint_81 : decode prog_1_method_10_code 81 = .ok (.isub, 1) := by decide +kernel
theorem d_De_checkpoint_82 : decode prog_1_method_10_code 82 = .ok (.ireturn, 1) := by decide +kernel
theorem d_De_isEdge_0 : decode prog_1_method_22_code 0 = .ok (.aload_n 0, 1) := by decide +kernel
theorem d_De_isEdge_1 : decode prog_1_method_22_code 1 = .ok (.getfield 147, 3) := by decide +kernel
theorem d_De_isEdge_4 : decode prog_1_method_22_code 4 = .ok (.istore_n 2, 1) := by decide +kernel
theorem d_De_isEdge_5 : decode prog_1_method_22_code 5 = .ok (.iconst 0, 1) := by decide +kernel
theorem d_De_isEdge_6 : decode prog_1_method_22_code 6 = .ok (.istore_n 3, 1) := by decide +kernel
theorem d_De_isEdge_7 : decode prog_1_method_22_code 7 = .ok (.iload_n 3, 1) := by decide +kernel
theorem d_De_isEdge_8 : decode prog_1_method_22_code 8 = .ok (.sipush 5334, 3) := by decide +kernel
theorem d_De_isEdge_11 : decode prog_1_method_22_code 11 = .ok (.if_icmp .ge 28, 3) := by decide +kernel
theorem d_De_isEdge_14 : decode prog_1_method_22_code 14 = .ok (.iload_n 2, 1) := by decide +kernel
theorem d_De_isEdge_15 : decode prog_1_method_22_code 15 = .ok (.iload_n 1, 1) := by decide +kernel
theorem d_De_isEdge_16 : decode prog_1_method_22_code 16 = .ok (.if_icmp .ge 23, 3) := by decide +kernel
theorem d_De_isEdge_19 : decode prog_1_method_22_code 19 = .ok (.iload_n 2, 1) := by decide +kernel
theorem d_De_isEdge_20 : decode prog_1_method_22_code 20 = .ok (.aload_n 0, 1) := by decide +kernel
theorem d_De_isEdge_21 : decode prog_1_method_22_code 21 = .ok (.getfield 90, 3) := by decide +kernel
theorem d_De_isEdge_24 : decode prog_1_method_22_code 24 = .ok (.if_icmp .ge 15, 3) := by decide +kernel
theorem d_De_isEdge_27 : decode prog_1_method_22_code 27 = .ok (.aload_n 0, 1) := by decide +kernel
theorem d_De_isEdge_28 : decode prog_1_method_22_code 28 = .ok (.iload_n 2, 1) := by decide +kernel
theorem d_De_isEdge_29 : decode prog_1_method_22_code 29 = .ok (.invokevirtual 153, 3) := by decide +kernel
theorem d_De_isEdge_32 : decode prog_1_method_22_code 32 = .ok (.istore_n 2, 1) := by decide +kernel
theorem d_De_isEdge_33 : decode prog_1_method_22_code 33 = .ok (.iinc 3 1, 3) := by decide +kernel
theorem d_De_isEdge_36 : decode prog_1_method_22_code 36 = .ok (.goto (-29), 3) := by decide +kernel
theorem d_De_isEdge_39 : decode prog_1_method_22_code 39 = .ok (.iload_n 2, 1) := by decide +kernel
theorem d_De_isEdge_40 : decode prog_1_method_22_code 40 = .ok (.iload_n 1, 1) := by decide +kernel
theorem d_De_isEdge_41 : decode prog_1_method_22_code 41 = .ok (.if_icmp .ne 7, 3) := by decide +kernel
theorem d_De_isEdge_44 : decode prog_1_method_22_code 44 = .ok (.iconst 1, 1) := by decide +kernel
theorem d_De_isEdge_45 : decode prog_1_method_22_code 45 = .ok (.goto 4, 3) := by decide +kernel
theorem d_De_isEdge_48 : decode prog_1_method_22_code 48 = .ok (.iconst 0, 1) := by decide +kernel
theorem d_De_isEdge_49 : decode prog_1_method_22_code 49 = .ok (.ireturn, 1) := by decide +kernel
theorem d_De_next_0 : decode prog_1_method_12_code 0 = .ok (.aload_n 0, 1) := by decide +kernel
theorem d_De_next_1 : decode prog_1_method_12_code 1 = .ok (.getfield 48, 3) := by decide +kernel
theorem d_De_next_4 : decode prog_1_method_12_code 4 = .ok (.iconst (-1), 1) := by decide +kernel
theorem d_De_next_5 : decode prog_1_method_12_code 5 = .ok (.if_icmp .ne 10, 3) := by decide +kernel
theorem d_De_next_8 : decode prog_1_method_12_code 8 = .ok (.aload_n 0, 1) := by decide +kernel
theorem d_De_next_9 : decode prog_1_method_12_code 9 = .ok (.getfield 147, 3) := by decide +kernel
theorem d_De_next_12 : decode prog_1_method_12_code 12 = .ok (.goto 11, 3) := by decide +kernel
theorem d_De_next_15 : decode prog_1_method_12_code 15 = .ok (.aload_n 0, 1) := by decide +kernel
theorem d_De_next_16 : decode prog_1_method_12_code 16 = .ok (.aload_n 0, 1) := by decide +kernel
theorem d_De_next_17 : decode prog_1_method_12_code 17 = .ok (.getfield 48, 3) := by decide +kernel
theorem d_De_next_20 : decode prog_1_method_12_code 20 = .ok (.invokevirtual 153, 3) := by decide +kernel
theorem d_De_next_23 : decode prog_1_method_12_code 23 = .ok (.istore_n 1, 1) := by decide +kernel
theorem d_De_next_24 : decode prog_1_method_12_code 24 = .ok (.iload_n 1, 1) := by decide +kernel
theorem d_De_next_25 : decode prog_1_method_12_code 25 = .ok (.aload_n 0, 1) := by decide +kernel
theorem d_De_next_26 : decode prog_1_method_12_code 26 = .ok (.getfield 90, 3) := by decide +kernel
theorem d_De_next_29 : decode prog_1_method_12_code 29 = .ok (.if_icmp .lt 13, 3) := by decide +kernel
theorem d_De_next_32 : decode prog_1_method_12_code 32 = .ok (.new 156, 3) := by decide +kernel
theorem d_De_next_35 : decode prog_1_method_12_code 35 = .ok (.dup, 1) := by decide +kernel
theorem d_De_next_36 : decode prog_1_method_12_code 36 = .ok (.ldc 158, 2) := by decide +kernel
theorem d_De_next_38 : decode prog_1_method_12_code 38 = .ok (.invokespecial 160, 3) := by decide +kernel
theorem d_De_next_41 : decode prog_1_method_12_code 41 = .ok (.athrow, 1) := by decide +kernel
theorem d_De_next_42 : decode prog_1_method_12_code 42 = .ok (.aload_n 0, 1) := by decide +kernel
theorem d_De_next_43 : decode prog_1_method_12_code 43 = .ok (.iload_n 1, 1) := by decide +kernel
theorem d_De_next_44 : decode prog_1_method_12_code 44 = .ok (.putfield 48, 3) := by decide +kernel
theorem d_De_next_47 : decode prog_1_method_12_code 47 = .ok (.aload_n 0, 1) := by decide +kernel
theorem d_De_next_48 : decode prog_1_method_12_code 48 = .ok (.getfield 12, 3) := by decide +kernel
theorem d_De_next_51 : decode prog_1_method_12_code 51 = .ok (.iload_n 1, 1) := by decide +kernel
theorem d_De_next_52 : decode prog_1_method_12_code 52 = .ok (.invokevirtual 161, 3) := by decide +kernel
theorem d_De_next_55 : decode prog_1_method_12_code 55 = .ok (.ireturn, 1) := by decide +kernel
theorem d_De_charge_0 : decode prog_1_method_15_code 0 = .ok (.iload_n 1, 1) := by decide +kernel
theorem d_De_charge_1 : decode prog_1_method_15_code 1 = .ok (.ifCond .lt 10, 3) := by decide +kernel
theorem d_De_charge_4 : decode prog_1_method_15_code 4 = .ok (.iload_n 1, 1) := by decide +kernel
theorem d_De_charge_5 : decode prog_1_method_15_code 5 = .ok (.sipush 999, 3) := by decide +kernel
theorem d_De_charge_8 : decode prog_1_method_15_code 8 = .ok (.if_icmp .le 13, 3) := by decide +kernel
theorem d_De_charge_11 : decode prog_1_method_15_code 11 = .ok (.new 59, 3) := by decide +kernel
theorem d_De_charge_14 : decode prog_1_method_15_code 14 = .ok (.dup, 1) := by decide +kernel
theorem d_De_charge_15 : decode prog_1_method_15_code 15 = .ok (.ldc 165, 2) := by decide +kernel
theorem d_De_charge_17 : decode prog_1_method_15_code 17 = .ok (.invokespecial 63, 3) := by decide +kernel
theorem d_De_charge_20 : decode prog_1_method_15_code 20 = .ok (.athrow, 1) := by decide +kernel
theorem d_De_charge_21 : decode prog_1_method_15_code 21 = .ok (.aload_n 0, 1) := by decide +kernel
theorem d_De_charge_22 : decode prog_1_method_15_code 22 = .ok (.getfield 40, 3) := by decide +kernel
theorem d_De_charge_25 : decode prog_1_method_15_code 25 = .ok (.iload_n 1, 1) := by decide +kernel
theorem d_De_charge_26 : decode prog_1_method_15_code 26 = .ok (.invokevirtual 167, 3) := by decide +kernel
theorem d_De_charge_29 : decode prog_1_method_15_code 29 = .ok (.return_, 1) := by decide +kernel
theorem d_Di_setCharge_0 : decode prog_3_method_3_code 0 = .ok (.aload_n 0, 1) := by decide +kernel
theorem d_Di_setCharge_1 : decode prog_3_method_3_code 1 = .ok (.iload_n 1, 1) := by decide +kernel
theorem d_Di_setCharge_2 : decode prog_3_method_3_code 2 = .ok (.putfield 9, 3) := by decide +kernel
theorem d_Di_setCharge_5 : decode prog_3_method_3_code 5 = .ok (.return_, 1) := by decide +kernel
end
section
theorem d_Mo_init_0 : decode prog_9_method_1_code 0 = .ok (.aload_n 0, 1) := by decide +kernel
theorem d_Mo_init_1 : decode prog_9_method_1_code 1 = .ok (.invokespecial 1, 3) := by decide +kernel
theorem d_Mo_init_4 : decode prog_9_method_1_code 4 = .ok (.aload_n 0, 1) := by decide +kernel
theorem d_Mo_init_5 : decode prog_9_method_1_code 5 = .ok (.sipush 800, 3) := by decide +kernel
theorem d_Mo_init_8 : decode prog_9_method_1_code 8 = .ok (.newarray .int, 2) := by decide +kernel
theorem d_Mo_init_10 : decode prog_9_method_1_code 10 = .ok (.putfield 7, 3) := by decide +kernel
theorem d_Mo_init_13 : decode prog_9_method_1_code 13 = .ok (.aload_n 0, 1) := by decide +kernel
theorem d_Mo_init_14 : decode prog_9_method_1_code 14 = .ok (.sipush 800, 3) := by decide +kernel
theorem d_Mo_init_17 : decode prog_9_method_1_code 17 = .ok (.newarray .int, 2) := by decide +kernel
theorem d_Mo_init_19 : decode prog_9_method_1_code 19 = .ok (.putfield 13, 3) := by decide +kernel
theorem d_Mo_init_22 : decode prog_9_method_1_code 22 = .ok (.aload_n 0, 1) := by decide +kernel
theorem d_Mo_init_23 : decode prog_9_method_1_code 23 = .ok (.sipush 800, 3) := by decide +kernel
theorem d_Mo_init_26 : decode prog_9_method_1_code 26 = .ok (.newarray .int, 2) := by decide +kernel
theorem d_Mo_init_28 : decode prog_9_method_1_code 28 = .ok (.putfield 16, 3) := by decide +kernel
theorem d_Mo_init_31 : decode prog_9_method_1_code 31 = .ok (.aload_n 0, 1) := by decide +kernel
theorem d_Mo_init_32 : decode prog_9_method_1_code 32 = .ok (.sipush 800, 3) := by decide +kernel
theorem d_Mo_init_35 : decode prog_9_method_1_code 35 = .ok (.newarray .int, 2) := by decide +kernel
theorem d_Mo_init_37 : decode prog_9_method_1_code 37 = .ok (.putfield 19, 3) := by decide +kernel
theorem d_Mo_init_40 : decode prog_9_method_1_code 40 = .ok (.aload_n 0, 1) := by decide +kernel
theorem d_Mo_init_41 : decode prog_9_method_1_code 41 = .ok (.sipush 19000, 3) := by decide +kernel
theorem d_Mo_init_44 : decode prog_9_method_1_code 44 = .ok (.newarray .byte, 2) := by decide +kernel
theorem d_Mo_init_46 : decode prog_9_method_1_code 46 = .ok (.putfield 22, 3) := by decide +kernel
theorem d_Mo_init_49 : decode prog_9_method_1_code 49 = .ok (.aload_n 0, 1) := by decide +kernel
theorem d_Mo_init_50 : decode prog_9_method_1_code 50 = .ok (.sipush 600, 3) := by decide +kernel
theorem d_Mo_init_53 : decode prog_9_method_1_code 53 = .ok (.newarray .int, 2) := by decide +kernel
theorem d_Mo_init_55 : decode prog_9_method_1_code 55 = .ok (.putfield 26, 3) := by decide +kernel
theorem d_Mo_init_58 : decode prog_9_method_1_code 58 = .ok (.aload_n 0, 1) := by decide +kernel
theorem d_Mo_init_59 : decode prog_9_method_1_code 59 = .ok (.iconst (-1), 1) := by decide +kernel
theorem d_Mo_init_60 : decode prog_9_method_1_code 60 = .ok (.putfield 29, 3) := by decide +kernel
theorem d_Mo_init_63 : decode prog_9_method_1_code 63 = .ok (.aload_n 0, 1) := by decide +kernel
theorem d_Mo_init_64 : decode prog_9_method_1_code 64 = .ok (.bipush 6, 2) := by decide +kernel
theorem d_Mo_init_66 : decode prog_9_method_1_code 66 = .ok (.newarray .int, 2) := by decide +kernel
theorem d_Mo_init_68 : decode prog_9_method_1_code 68 = .ok (.dup, 1) := by decide +kernel
theorem d_Mo_init_69 : decode prog_9_method_1_code 69 = .ok (.iconst 0, 1) := by decide +kernel
theorem d_Mo_init_70 : decode prog_9_method_1_code 70 = .ok (.iconst (-1), 1) := by decide +kernel
theorem d_Mo_init_71 : decode prog_9_method_1_code 71 = .ok (.iastore, 1) := by decide +kernel
theorem d_Mo_init_72 : decode prog_9_method_1_code 72 = .ok (.dup, 1) := by decide +kernel
theorem d_Mo_init_73 : decode prog_9_method_1_code 73 = .ok (.iconst 1, 1) := by decide +kernel
theorem d_Mo_init_74 : decode prog_9_method_1_code 74 = .ok (.iconst (-1), 1) := by decide +kernel
theorem d_Mo_init_75 : decode prog_9_method_1_code 75 = .ok (.iastore, 1) := by decide +kernel
theorem d_Mo_init_76 : decode prog_9_method_1_code 76 = .ok (.dup, 1) := by decide +kernel
theorem d_Mo_init_77 : decode prog_9_method_1_code 77 = .ok (.iconst 2, 1) := by decide +kernel
theorem d_Mo_init_78 : decode prog_9_method_1_code 78 = .ok (.iconst (-1), 1) := by decide +kernel
theorem d_Mo_init_79 : decode prog_9_method_1_code 79 = .ok (.iastore, 1) := by decide +kernel
theorem d_Mo_init_80 : decode prog_9_method_1_code 80 = .ok (.dup, 1) := by decide +kernel
theorem d_Mo_init_81 : decode prog_9_method_1_code 81 = .ok (.iconst 3, 1) := by decide +kernel
theorem d_Mo_init_82 : decode prog_9_method_1_code 82 = .ok (.iconst (-1), 1) := by decide +kernel
theorem d_Mo_init_83 : decode prog_9_method_1_code 83 = .ok (.iastore, 1) := by decide +kernel
theorem d_Mo_init_84 : decode prog_9_method_1_code 84 = .ok (.dup, 1) := by decide +kernel
theorem d_Mo_init_85 : decode prog_9_method_1_code 85 = .ok (.iconst 4, 1) := by decide +kernel
theorem d_Mo_init_86 : decode prog_9_method_1_code 86 = .ok (.iconst (-1), 1) := by decide +kernel
theorem d_Mo_init_87 : decode prog_9_method_1_code 87 = .ok (.iastore, 1) := by decide +kernel
theorem d_Mo_init_88 : decode prog_9_method_1_code 88 = .ok (.dup, 1) := by decide +kernel
theorem d_Mo_init_89 : decode prog_9_method_1_code 89 = .ok (.iconst 5, 1) := by decide +kernel
theorem d_Mo_init_90 : decode prog_9_method_1_code 90 = .ok (.iconst (-1), 1) := by decide +kernel
theorem d_Mo_init_91 : decode prog_9_method_1_code 91 = .ok (.iastore, 1) := by decide +kernel
theorem d_Mo_init_92 : decode prog_9_method_1_code 92 = .ok (.putfield 33, 3) := by decide +kernel
theorem d_Mo_init_95 : decode prog_9_method_1_code 95 = .ok (.aload_n 0, 1) := by decide +kernel
theorem d_Mo_init_96 : decode prog_9_method_1_code 96 = .ok (.sipush 2048, 3) := by decide +kernel
theorem d_Mo_init_99 : decode prog_9_method_1_code 99 = .ok (.newarray .boolean, 2) := by decide +kernel
theorem d_Mo_init_101 : decode prog_9_method_1_code 101 = .ok (.putfield 36, 3) := by decide +kernel
theorem d_Mo_init_104 : decode prog_9_method_1_code 104 = .ok (.aload_n 0, 1) := by decide +kernel
theorem d_Mo_init_105 : decode prog_9_method_1_code 105 = .ok (.iconst (-1), 1) := by decide +kernel
theorem d_Mo_init_106 : decode prog_9_method_1_code 106 = .ok (.putfield 40, 3) := by decide +kernel
theorem d_Mo_init_109 : decode prog_9_method_1_code 109 = .ok (.aload_n 0, 1) := by decide +kernel
theorem d_Mo_init_110 : decode prog_9_method_1_code 110 = .ok (.iload_n 1, 1) := by decide +kernel
theorem d_Mo_init_111 : decode prog_9_method_1_code 111 = .ok (.iconst 3, 1) := by decide +kernel
theorem d_Mo_init_112 : decode prog_9_method_1_code 112 = .ok (.if_icmp .lt 9, 3) := by decide +kernel
theorem d_Mo_init_115 : decode prog_9_method_1_code 115 = .ok (.iload_n 1, 1) := by decide +kernel
theorem d_Mo_init_116 : decode prog_9_method_1_code 116 = .ok (.bipush 32, 2) := by decide +kernel
theorem d_Mo_init_118 : decode prog_9_method_1_code 118 = .ok (.if_icmp .le 8, 3) := by decide +kernel
theorem d_Mo_init_121 : decode prog_9_method_1_code 121 = .ok (.bipush 32, 2) := by decide +kernel
theorem d_Mo_init_123 : decode prog_9_method_1_code 123 = .ok (.goto 4, 3) := by decide +kernel
theorem d_Mo_init_126 : decode prog_9_method_1_code 126 = .ok (.iload_n 1, 1) := by decide +kernel
theorem d_Mo_init_127 : decode prog_9_method_1_code 127 = .ok (.putfield 43, 3) := by decide +kernel
theorem d_Mo_init_130 : decode prog_9_method_1_code 130 = .ok (.return_, 1) := by decide +kernel
theorem d_Mo_thrown_0 : decode prog_9_method_2_code 0 = .ok (.aload_n 0, 1) := by decide +kernel
theorem d_Mo_thrown_1 : decode prog_9_method_2_code 1 = .ok (.getfield 46, 3) := by decide +kernel
theorem d_Mo_thrown_4 : decode prog_9_method_2_code 4 = .ok (.ireturn, 1) := by decide +kernel
theorem d_Mo_put_0 : decode prog_9_method_4_code 0 = .ok (.aload_n 0, 1) := by decide +kernel
theorem d_Mo_put_1 : decode prog_9_method_4_code 1 = .ok (.iconst 0, 1) := by decide +kernel
theorem d_Mo_put_2 : decode prog_9_method_4_code 2 = .ok (.putfield 46, 3) := by decide +kernel
theorem d_Mo_put_5 : decode prog_9_method_4_code 5 = .ok (.iload_n 3, 1) := by decide +kernel
theorem d_Mo_put_6 : decode prog_9_method_4_code 6 = .ok (.iconst 1, 1) := by decide +kernel
theorem d_Mo_put_7 : decode prog_9_method_4_code 7 = .ok (.if_icmp .lt 21, 3) := by decide +kernel
theorem d_Mo_put_10 : decode prog_9_method_4_code 10 = .ok (.iload_n 3, 1) := by decide +kernel
theorem d_Mo_put_11 : decode prog_9_method_4_code 11 = .ok (.bipush 8, 2) := by decide +kernel
theorem d_Mo_put_13 : decode prog_9_method_4_code 13 = .ok (.if_icmp .gt 15, 3) := by decide +kernel
theorem d_Mo_put_16 : decode prog_9_method_4_code 16 = .ok (.aload_n 0, 1) := by decide +kernel
theorem d_Mo_put_17 : decode prog_9_method_4_code 17 = .ok (.getfield 49, 3) := by decide +kernel
theorem d_Mo_put_20 : decode prog_9_method_4_code 20 = .ok (.iload_n 3, 1) := by decide +kernel
theorem d_Mo_put_21 : decode prog_9_method_4_code 21 = .ok (.iadd, 1) := by decide +kernel
theorem d_Mo_put_22 : decode prog_9_method_4_code 22 = .ok (.sipush 600, 3) := by decide +kernel
theorem d_Mo_put_25 : decode prog_9_method_4_code 25 = .ok (.if_icmp .le 5, 3) := by decide +kernel
theorem d_Mo_put_28 : decode prog_9_method_4_code 28 = .ok (.iconst 0, 1) := by decide +kernel
theorem d_Mo_put_29 : decode prog_9_method_4_code 29 = .ok (.ireturn, 1) := by decide +kernel
theorem d_Mo_put_30 : decode prog_9_method_4_code 30 = .ok (.iload_n 3, 1) := by decide +kernel
theorem d_Mo_put_31 : decode prog_9_method_4_code 31 = .ok (.iconst 1, 1) := by decide +kernel
theorem d_Mo_put_32 : decode prog_9_method_4_code 32 = .ok (.isub, 1) := by decide +kernel
theorem d_Mo_put_33 : decode prog_9_method_4_code 33 = .ok (.istore 4, 2) := by decide +kernel
theorem d_Mo_put_35 : decode prog_9_method_4_code 35 = .ok (.iload 4, 2) := by decide +kernel
theorem d_Mo_put_37 : decode prog_9_method_4_code 37 = .ok (.ifCond .lt 40, 3) := by decide +kernel
theorem d_Mo_put_40 : decode prog_9_method_4_code 40 = .ok (.aload_n 0, 1) := by decide +kernel
theorem d_Mo_put_41 : decode prog_9_method_4_code 41 = .ok (.getfield 26, 3) := by decide +kernel
theorem d_Mo_put_44 : decode prog_9_method_4_code 44 = .ok (.aload_n 0, 1) := by decide +kernel
theorem d_Mo_put_45 : decode prog_9_method_4_code 45 = .ok (.getfield 49, 3) := by decide +kernel
theorem d_Mo_put_48 : decode prog_9_method_4_code 48 = .ok (.lload_n 1, 1) := by decide +kernel
theorem d_Mo_put_49 : decode prog_9_method_4_code 49 = .ok (.bipush 8, 2) := by decide +kernel
theorem d_Mo_put_51 : decode prog_9_method_4_code 51 = .ok (.iload 4, 2) := by decide +kernel
theorem d_Mo_put_53 : decode prog_9_method_4_code 53 = .ok (.imul, 1) := by decide +kernel
theorem d_Mo_put_54 : decode prog_9_method_4_code 54 = .ok (.lshr, 1) := by decide +kernel
theorem d_Mo_put_55 : decode prog_9_method_4_code 55 = .ok (.ldc2_w 52, 3) := by decide +kernel
theorem d_Mo_put_58 : decode prog_9_method_4_code 58 = .ok (.land, 1) := by decide +kernel
theorem d_Mo_put_59 : decode prog_9_method_4_code 59 = .ok (.l2i, 1) := by decide +kernel
theorem d_Mo_put_60 : decode prog_9_method_4_code 60 = .ok (.iastore, 1) := by decide +kernel
theorem d_Mo_put_61 : decode prog_9_method_4_code 61 = .ok (.aload_n 0, 1) := by decide +kernel
theorem d_Mo_put_62 : decode prog_9_method_4_code 62 = .ok (.dup, 1) := by decide +kernel
theorem d_Mo_put_63 : decode prog_9_method_4_code 63 = .ok (.getfield 49, 3) := by decide +kernel
theorem d_Mo_put_66 : decode prog_9_method_4_code 66 = .ok (.iconst 1, 1) := by decide +kernel
theorem d_Mo_put_67 : decode prog_9_method_4_code 67 = .ok (.iadd, 1) := by decide +kernel
theorem d_Mo_put_68 : decode prog_9_method_4_code 68 = .ok (.putfield 49, 3) := by decide +kernel
theorem d_Mo_put_71 : decode prog_9_method_4_code 71 = .ok (.iinc 4 (-1), 3) := by decide +kernel
theorem d_Mo_put_74 : decode prog_9_method_4_code 74 = .ok (.goto (-39), 3) := by decide +kernel
theorem d_Mo_put_77 : decode prog_9_method_4_code 77 = .ok (.iconst 1, 1) := by decide +kernel
theorem d_Mo_put_78 : decode prog_9_method_4_code 78 = .ok (.ireturn, 1) := by decide +kernel
theorem d_Mo_fill_0 : decode prog_9_method_5_code 0 = .ok (.aload_n 0, 1) := by decide +kernel
theorem d_Mo_fill_1 : decode prog_9_method_5_code 1 = .ok (.iconst 0, 1) := by decide +kernel
theorem d_Mo_fill_2 : decode prog_9_method_5_code 2 = .ok (.putfield 46, 3) := by decide +kernel
theorem d_Mo_fill_5 : decode prog_9_method_5_code 5 = .ok (.iload_n 2, 1) := by decide +kernel
theorem d_Mo_fill_6 : decode prog_9_method_5_code 6 = .ok (.iconst 1, 1) := by decide +kernel
theorem d_Mo_fill_7 : decode prog_9_method_5_code 7 = .ok (.if_icmp .lt 22, 3) := by decide +kernel
theorem d_Mo_fill_10 : decode prog_9_method_5_code 10 = .ok (.iload_n 2, 1) := by decide +kernel
theorem d_Mo_fill_11 : decode prog_9_method_5_code 11 = .ok (.sipush 600, 3) := by decide +kernel
theorem d_Mo_fill_14 : decode prog_9_method_5_code 14 = .ok (.if_icmp .gt 15, 3) := by decide +kernel
theorem d_Mo_fill_17 : decode prog_9_method_5_code 17 = .ok (.aload_n 0, 1) := by decide +kernel
theorem d_Mo_fill_18 : decode prog_9_method_5_code 18 = .ok (.getfield 49, 3) := by decide +kernel
theorem d_Mo_fill_21 : decode prog_9_method_5_code 21 = .ok (.iload_n 2, 1) := by decide +kernel
theorem d_Mo_fill_22 : decode prog_9_method_5_code 22 = .ok (.iadd, 1) := by decide +kernel
theorem d_Mo_fill_23 : decode prog_9_method_5_code 23 = .ok (.sipush 600, 3) := by decide +kernel
theorem d_Mo_fill_26 : decode prog_9_method_5_code 26 = .ok (.if_icmp .le 5, 3) := by decide +kernel
theorem d_Mo_fill_29 : decode prog_9_method_5_code 29 = .ok (.iconst 0, 1) := by decide +kernel
theorem d_Mo_fill_30 : decode prog_9_method_5_code 30 = .ok (.ireturn, 1) := by decide +kernel
theorem d_Mo_fill_31 : decode prog_9_method_5_code 31 = .ok (.iconst 0, 1) := by decide +kernel
theorem d_Mo_fill_32 : decode prog_9_method_5_code 32 = .ok (.istore_n 3, 1) := by decide +kernel
theorem d_Mo_fill_33 : decode prog_9_method_5_code 33 = .ok (.iload_n 3, 1) := by decide +kernel
theorem d_Mo_fill_34 : decode prog_9_method_5_code 34 = .ok (.iload_n 2, 1) := by decide +kernel
theorem d_Mo_fill_35 : decode prog_9_method_5_code 35 = .ok (.if_icmp .ge 33, 3) := by decide +kernel
theorem d_Mo_fill_38 : decode prog_9_method_5_code 38 = .ok (.aload_n 0, 1) := by decide +kernel
theorem d_Mo_fill_39 : decode prog_9_method_5_code 39 = .ok (.getfield 26, 3) := by decide +kernel
theorem d_Mo_fill_42 : decode prog_9_method_5_code 42 = .ok (.aload_n 0, 1) := by decide +kernel
theorem d_Mo_fill_43 : decode prog_9_method_5_code 43 = .ok (.getfield 49, 3) := by decide +kernel
theorem d_Mo_fill_46 : decode prog_9_method_5_code 46 = .ok (.iload_n 1, 1) := by decide +kernel
theorem d_Mo_fill_47 : decode prog_9_method_5_code 47 = .ok (.sipush 255, 3) := by decide +kernel
theorem d_Mo_fill_50 : decode prog_9_method_5_code 50 = .ok (.iand, 1) := by decide +kernel
theorem d_Mo_fill_51 : decode prog_9_method_5_code 51 = .ok (.iastore, 1) := by decide +kernel
theorem d_Mo_fill_52 : decode prog_9_method_5_code 52 = .ok (.aload_n 0, 1) := by decide +kernel
theorem d_Mo_fill_53 : decode prog_9_method_5_code 53 = .ok (.dup, 1) := by decide +kernel
theorem d_Mo_fill_54 : decode prog_9_method_5_code 54 = .ok (.getfield 49, 3) := by decide +kernel
theorem d_Mo_fill_57 : decode prog_9_method_5_code 57 = .ok (.iconst 1, 1) := by decide +kernel
theorem d_Mo_fill_58 : decode prog_9_method_5_code 58 = .ok (.iadd, 1) := by decide +kernel
theorem d_Mo_fill_59 : decode prog_9_method_5_code 59 = .ok (.putfield 49, 3) := by decide +kernel
theorem d_Mo_fill_62 : decode prog_9_method_5_code 62 = .ok (.iinc 3 1, 3) := by decide +kernel
theorem d_Mo_fill_65 : decode prog_9_method_5_code 65 = .ok (.goto (-32), 3) := by decide +kernel
theorem d_Mo_fill_68 : decode prog_9_method_5_code 68 = .ok (.iconst 1, 1) := by decide +kernel
theorem d_Mo_fill_69 : decode prog_9_method_5_code 69 = .ok (.ireturn, 1) := by decide +kernel
theorem d_Mo_append_0 : decode prog_9_method_9_code 0 = .ok (.aload_n 0, 1) := by decide +kernel
theorem d_Mo_append_1 : decode prog_9_method_9_code 1 = .ok (.iconst 0, 1) := by decide +kernel
theorem d_Mo_append_2 : decode prog_9_method_9_code 2 = .ok (.putfield 46, 3) := by decide +kernel
theorem d_Mo_append_5 : decode prog_9_method_9_code 5 = .ok (.iload_n 1, 1) := by decide +kernel
theorem d_Mo_append_6 : decode prog_9_method_9_code 6 = .ok (.iconst 1, 1) := by decide +kernel
theorem d_Mo_append_7 : decode prog_9_method_9_code 7 = .ok (.if_icmp .lt 9, 3) := by decide +kernel
theorem d_Mo_append_10 : decode prog_9_method_9_code 10 = .ok (.iload_n 1, 1) := by decide +kernel
theorem d_Mo_append_11 : decode prog_9_method_9_code 11 = .ok (.bipush 14, 2) := by decide +kernel
theorem d_Mo_append_13 : decode prog_9_method_9_code 13 = .ok (.if_icmp .le 9, 3) := by decide +kernel
theorem d_Mo_append_16 : decode prog_9_method_9_code 16 = .ok (.aload_n 0, 1) := by decide +kernel
theorem d_Mo_append_17 : decode prog_9_method_9_code 17 = .ok (.iconst 1, 1) := by decide +kernel
theorem d_Mo_append_18 : decode prog_9_method_9_code 18 = .ok (.invokevirtual 72, 3) := by decide +kernel
theorem d_Mo_append_21 : decode prog_9_method_9_code 21 = .ok (.ireturn, 1) := by decide +kernel
theorem d_Mo_append_22 : decode prog_9_method_9_code 22 = .ok (.aload_n 0, 1) := by decide +kernel
theorem d_Mo_append_23 : decode prog_9_method_9_code 23 = .ok (.aload_n 0, 1) := by decide +kernel
theorem d_Mo_append_24 : decode prog_9_method_9_code 24 = .ok (.getfield 49, 3) := by decide +kernel
theorem d_Mo_append_27 : decode prog_9_method_9_code 27 = .ok (.invokevirtual 76, 3) := by decide +kernel
theorem d_Mo_append_30 : decode prog_9_method_9_code 30 = .ok (.ifCond .eq 9, 3) := by decide +kernel
theorem d_Mo_append_33 : decode prog_9_method_9_code 33 = .ok (.aload_n 0, 1) := by decide +kernel
theorem d_Mo_append_34 : decode prog_9_method_9_code 34 = .ok (.iconst 2, 1) := by decide +kernel
theorem d_Mo_append_35 : decode prog_9_method_9_code 35 = .ok (.invokevirtual 72, 3) := by decide +kernel
theorem d_Mo_append_38 : decode prog_9_method_9_code 38 = .ok (.ireturn, 1) := by decide +kernel
theorem d_Mo_append_39 : decode prog_9_method_9_code 39 = .ok (.aload_n 0, 1) := by decide +kernel
theorem d_Mo_append_40 : decode prog_9_method_9_code 40 = .ok (.iload_n 1, 1) := by decide +kernel
theorem d_Mo_append_41 : decode prog_9_method_9_code 41 = .ok (.aload_n 0, 1) := by decide +kernel
theorem d_Mo_append_42 : decode prog_9_method_9_code 42 = .ok (.getfield 49, 3) := by decide +kernel
theorem d_Mo_append_45 : decode prog_9_method_9_code 45 = .ok (.invokevirtual 80, 3) := by decide +kernel
theorem d_Mo_append_48 : decode prog_9_method_9_code 48 = .ok (.iconst 0, 1) := by decide +kernel
theorem d_Mo_append_49 : decode prog_9_method_9_code 49 = .ok (.istore_n 2, 1) := by decide +kernel
theorem d_Mo_append_50 : decode prog_9_method_9_code 50 = .ok (.iload_n 2, 1) := by decide +kernel
theorem d_Mo_append_51 : decode prog_9_method_9_code 51 = .ok (.aload_n 0, 1) := by decide +kernel
theorem d_Mo_append_52 : decode prog_9_method_9_code 52 = .ok (.getfield 49, 3) := by decide +kernel
theorem d_Mo_append_55 : decode prog_9_method_9_code 55 = .ok (.if_icmp .ge 34, 3) := by decide +kernel
theorem d_Mo_append_58 : decode prog_9_method_9_code 58 = .ok (.aload_n 0, 1) := by decide +kernel
theorem d_Mo_append_59 : decode prog_9_method_9_code 59 = .ok (.getfield 22, 3) := by decide +kernel
theorem d_Mo_append_62 : decode prog_9_method_9_code 62 = .ok (.aload_n 0, 1) := by decide +kernel
theorem d_Mo_append_63 : decode prog_9_method_9_code 63 = .ok (.getfield 13, 3) := by decide +kernel
theorem d_Mo_append_66 : decode prog_9_method_9_code 66 = .ok (.aload_n 0, 1) := by decide +kernel
theorem d_Mo_append_67 : decode prog_9_method_9_code 67 = .ok (.getfield 63, 3) := by decide +kernel
theorem d_Mo_append_70 : decode prog_9_method_9_code 70 = .ok (.iconst 1, 1) := by decide +kernel
theorem d_Mo_append_71 : decode prog_9_method_9_code 71 = .ok (.isub, 1) := by decide +kernel
theorem d_Mo_append_72 : decode prog_9_method_9_code 72 = .ok (.iaload, 1) := by decide +kernel
theorem d_Mo_append_73 : decode prog_9_method_9_code 73 = .ok (.iload_n 2, 1) := by decide +kernel
theorem d_Mo_append_74 : decode prog_9_method_9_code 74 = .ok (.iadd, 1) := by decide +kernel
theorem d_Mo_append_75 : decode prog_9_method_9_code 75 = .ok (.aload_n 0, 1) := by decide +kernel
theorem d_Mo_append_76 : decode prog_9_method_9_code 76 = .ok (.getfield 26, 3) := by decide +kernel
theorem d_Mo_append_79 : decode prog_9_method_9_code 79 = .ok (.iload_n 2, 1) := by decide +kernel
theorem d_Mo_append_80 : decode prog_9_method_9_code 80 = .ok (.iaload, 1) := by decide +kernel
theorem d_Mo_append_81 : decode prog_9_method_9_code 81 = .ok (.i2b, 1) := by decide +kernel
theorem d_Mo_append_82 : decode prog_9_method_9_code 82 = .ok (.bastore, 1) := by decide +kernel
theorem d_Mo_append_83 : decode prog_9_method_9_code 83 = .ok (.iinc 2 1, 3) := by decide +kernel
theorem d_Mo_append_86 : decode prog_9_method_9_code 86 = .ok (.goto (-36), 3) := by decide +kernel
theorem d_Mo_append_89 : decode prog_9_method_9_code 89 = .ok (.aload_n 0, 1) := by decide +kernel
theorem d_Mo_append_90 : decode prog_9_method_9_code 90 = .ok (.iconst 0, 1) := by decide +kernel
theorem d_Mo_append_91 : decode prog_9_method_9_code 91 = .ok (.putfield 49, 3) := by decide +kernel
theorem d_Mo_append_94 : decode prog_9_method_9_code 94 = .ok (.aload_n 0, 1) := by decide +kernel
theorem d_Mo_append_95 : decode prog_9_method_9_code 95 = .ok (.getfield 54, 3) := by decide +kernel
theorem d_Mo_append_98 : decode prog_9_method_9_code 98 = .ok (.ireturn, 1) := by decide +kernel
theorem d_Mo_fails_0 : decode prog_9_method_3_code 0 = .ok (.aload_n 0, 1) := by decide +kernel
theorem d_Mo_fails_1 : decode prog_9_method_3_code 1 = .ok (.iload_n 1, 1) := by decide +kernel
theorem d_Mo_fails_2 : decode prog_9_method_3_code 2 = .ok (.putfield 46, 3) := by decide +kernel
theorem d_Mo_fails_5 : decode prog_9_method_3_code 5 = .ok (.iconst 0, 1) := by decide +kernel
theorem d_Mo_fails_6 : decode prog_9_method_3_code 6 = .ok (.ireturn, 1) := by decide +kernel
theorem d_Mo_isFull_0 : decode prog_9_method_6_code 0 = .ok (.aload_n 0, 1) := by decide +kernel
theorem d_Mo_isFull_1 : decode prog_9_method_6_code 1 = .ok (.getfield 54, 3) := by decide +kernel
theorem d_Mo_isFull_4 : decode prog_9_method_6_code 4 = .ok (.iconst 3, 1) := by decide +kernel
theorem d_Mo_isFull_5 : decode prog_9_method_6_code 5 = .ok (.iadd, 1) := by decide +kernel
theorem d_Mo_isFull_6 : decode prog_9_method_6_code 6 = .ok (.iload_n 1, 1) := by decide +kernel
theorem d_Mo_isFull_7 : decode prog_9_method_6_code 7 = .ok (.iadd, 1) := by decide +kernel
theorem d_Mo_isFull_8 : decode prog_9_method_6_code 8 = .ok (.iconst 1, 1) := by decide +kernel
theorem d_Mo_isFull_9 : decode prog_9_method_6_code 9 = .ok (.isub, 1) := by decide +kernel
theorem d_Mo_isFull_10 : decode prog_9_method_6_code 10 = .ok (.sipush 500, 3) := by decide +kernel
theorem d_Mo_isFull_13 : decode prog_9_method_6_code 13 = .ok (.idiv, 1) := by decide +kernel
theorem d_Mo_isFull_14 : decode prog_9_method_6_code 14 = .ok (.aload_n 0, 1) := by decide +kernel
theorem d_Mo_isFull_15 : decode prog_9_method_6_code 15 = .ok (.getfield 57, 3) := by decide +kernel
theorem d_Mo_isFull_18 : decode prog_9_method_6_code 18 = .ok (.sipush 500, 3) := by decide +kernel
theorem d_Mo_isFull_21 : decode prog_9_method_6_code 21 = .ok (.idiv, 1) := by decide +kernel
theorem d_Mo_isFull_22 : decode prog_9_method_6_code 22 = .ok (.isub, 1) := by decide +kernel
theorem d_Mo_isFull_23 : decode prog_9_method_6_code 23 = .ok (.aload_n 0, 1) := by decide +kernel
theorem d_Mo_isFull_24 : decode prog_9_method_6_code 24 = .ok (.getfield 43, 3) := by decide +kernel
theorem d_Mo_isFull_27 : decode prog_9_method_6_code 27 = .ok (.if_icmp .lt 7, 3) := by decide +kernel
theorem d_Mo_isFull_30 : decode prog_9_method_6_code 30 = .ok (.iconst 1, 1) := by decide +kernel
theorem d_Mo_isFull_31 : decode prog_9_method_6_code 31 = .ok (.goto 4, 3) := by decide +kernel
theorem d_Mo_isFull_34 : decode prog_9_method_6_code 34 = .ok (.iconst 0, 1) := by decide +kernel
theorem d_Mo_isFull_35 : decode prog_9_method_6_code 35 = .ok (.ireturn, 1) := by decide +kernel
theorem d_Mo_record_0 : decode prog_9_method_8_code 0 = .ok (.aload_n 0, 1) := by decide +kernel
theorem d_Mo_record_1 : decode prog_9_method_8_code 1 = .ok (.getfield 63, 3) := by decide +kernel
theorem d_Mo_record_4 : decode prog_9_method_8_code 4 = .ok (.sipush 800, 3) := by decide +kernel
theorem d_Mo_record_7 : decode prog_9_method_8_code 7 = .ok (.if_icmp .eq 15, 3) := by decide +kernel
theorem d_Mo_record_10 : decode prog_9_method_8_code 10 = .ok (.aload_n 0, 1) := by decide +kernel
theorem d_Mo_record_11 : decode prog_9_method_8_code 11 = .ok (.getfield 66, 3) := by decide +kernel
theorem d_Mo_record_14 : decode prog_9_method_8_code 14 = .ok (.iload_n 2, 1) := by decide +kernel
theorem d_Mo_record_15 : decode prog_9_method_8_code 15 = .ok (.iadd, 1) := by decide +kernel
theorem d_Mo_record_16 : decode prog_9_method_8_code 16 = .ok (.sipush 19000, 3) := by decide +kernel
theorem d_Mo_record_19 : decode prog_9_method_8_code 19 = .ok (.if_icmp .le 7, 3) := by decide +kernel
theorem d_Mo_record_22 : decode prog_9_method_8_code 22 = .ok (.aload_n 0, 1) := by decide +kernel
theorem d_Mo_record_23 : decode prog_9_method_8_code 23 = .ok (.invokevirtual 69, 3) := by decide +kernel
theorem d_Mo_record_26 : decode prog_9_method_8_code 26 = .ok (.aload_n 0, 1) := by decide +kernel
theorem d_Mo_record_27 : decode prog_9_method_8_code 27 = .ok (.getfield 7, 3) := by decide +kernel
theorem d_Mo_record_30 : decode prog_9_method_8_code 30 = .ok (.aload_n 0, 1) := by decide +kernel
theorem d_Mo_record_31 : decode prog_9_method_8_code 31 = .ok (.getfield 63, 3) := by decide +kernel
theorem d_Mo_record_34 : decode prog_9_method_8_code 34 = .ok (.iload_n 1, 1) := by decide +kernel
theorem d_Mo_record_35 : decode prog_9_method_8_code 35 = .ok (.iastore, 1) := by decide +kernel
theorem d_Mo_record_36 : decode prog_9_method_8_code 36 = .ok (.aload_n 0, 1) := by decide +kernel
theorem d_Mo_record_37 : decode prog_9_method_8_code 37 = .ok (.getfield 13, 3) := by decide +kernel
theorem d_Mo_record_40 : decode prog_9_method_8_code 40 = .ok (.aload_n 0, 1) := by decide +kernel
theorem d_Mo_record_41 : decode prog_9_method_8_code 41 = .ok (.getfield 63, 3) := by decide +kernel
theorem d_Mo_record_44 : decode prog_9_method_8_code 44 = .ok (.aload_n 0, 1) := by decide +kernel
theorem d_Mo_record_45 : decode prog_9_method_8_code 45 = .ok (.getfield 66, 3) := by decide +kernel
theorem d_Mo_record_48 : decode prog_9_method_8_code 48 = .ok (.iastore, 1) := by decide +kernel
theorem d_Mo_record_49 : decode prog_9_method_8_code 49 = .ok (.aload_n 0, 1) := by decide +kernel
theorem d_Mo_record_50 : decode prog_9_method_8_code 50 = .ok (.getfield 16, 3) := by decide +kernel
theorem d_Mo_record_53 : decode prog_9_method_8_code 53 = .ok (.aload_n 0, 1) := by decide +kernel
theorem d_Mo_record_54 : decode prog_9_method_8_code 54 = .ok (.getfield 63, 3) := by decide +kernel
theorem d_Mo_record_57 : decode prog_9_method_8_code 57 = .ok (.iload_n 2, 1) := by decide +kernel
theorem d_Mo_record_58 : decode prog_9_method_8_code 58 = .ok (.iastore, 1) := by decide +kernel
theorem d_Mo_record_59 : decode prog_9_method_8_code 59 = .ok (.aload_n 0, 1) := by decide +kernel
theorem d_Mo_record_60 : decode prog_9_method_8_code 60 = .ok (.dup, 1) := by decide +kernel
theorem d_Mo_record_61 : decode prog_9_method_8_code 61 = .ok (.getfield 54, 3) := by decide +kernel
theorem d_Mo_record_64 : decode prog_9_method_8_code 64 = .ok (.iconst 3, 1) := by decide +kernel
theorem d_Mo_record_65 : decode prog_9_method_8_code 65 = .ok (.iload_n 2, 1) := by decide +kernel
theorem d_Mo_record_66 : decode prog_9_method_8_code 66 = .ok (.iadd, 1) := by decide +kernel
theorem d_Mo_record_67 : decode prog_9_method_8_code 67 = .ok (.iadd, 1) := by decide +kernel
theorem d_Mo_record_68 : decode prog_9_method_8_code 68 = .ok (.putfield 54, 3) := by decide +kernel
theorem d_Mo_record_71 : decode prog_9_method_8_code 71 = .ok (.aload_n 0, 1) := by decide +kernel
theorem d_Mo_record_72 : decode prog_9_method_8_code 72 = .ok (.getfield 19, 3) := by decide +kernel
theorem d_Mo_record_75 : decode prog_9_method_8_code 75 = .ok (.aload_n 0, 1) := by decide +kernel
theorem d_Mo_record_76 : decode prog_9_method_8_code 76 = .ok (.getfield 63, 3) := by decide +kernel
theorem d_Mo_record_79 : decode prog_9_method_8_code 79 = .ok (.aload_n 0, 1) := by decide +kernel
theorem d_Mo_record_80 : decode prog_9_method_8_code 80 = .ok (.getfield 54, 3) := by decide +kernel
theorem d_Mo_record_83 : decode prog_9_method_8_code 83 = .ok (.iastore, 1) := by decide +kernel
theorem d_Mo_record_84 : decode prog_9_method_8_code 84 = .ok (.aload_n 0, 1) := by decide +kernel
theorem d_Mo_record_85 : decode prog_9_method_8_code 85 = .ok (.dup, 1) := by decide +kernel
theorem d_Mo_record_86 : decode prog_9_method_8_code 86 = .ok (.getfield 66, 3) := by decide +kernel
theorem d_Mo_record_89 : decode prog_9_method_8_code 89 = .ok (.iload_n 2, 1) := by decide +kernel
theorem d_Mo_record_90 : decode prog_9_method_8_code 90 = .ok (.iadd, 1) := by decide +kernel
theorem d_Mo_record_91 : decode prog_9_method_8_code 91 = .ok (.putfield 66, 3) := by decide +kernel
theorem d_Mo_record_94 : decode prog_9_method_8_code 94 = .ok (.aload_n 0, 1) := by decide +kernel
theorem d_Mo_record_95 : decode prog_9_method_8_code 95 = .ok (.dup, 1) := by decide +kernel
theorem d_Mo_record_96 : decode prog_9_method_8_code 96 = .ok (.getfield 63, 3) := by decide +kernel
theorem d_Mo_record_99 : decode prog_9_method_8_code 99 = .ok (.iconst 1, 1) := by decide +kernel
theorem d_Mo_record_100 : decode prog_9_method_8_code 100 = .ok (.iadd, 1) := by decide +kernel
theorem d_Mo_record_101 : decode prog_9_method_8_code 101 = .ok (.putfield 63, 3) := by decide +kernel
theorem d_Mo_record_104 : decode prog_9_method_8_code 104 = .ok (.return_, 1) := by decide +kernel
theorem d_Mo_shrink_0 : decode prog_9_method_7_code 0 = .ok (.iconst 0, 1) := by decide +kernel
theorem d_Mo_shrink_1 : decode prog_9_method_7_code 1 = .ok (.istore_n 1, 1) := by decide +kernel
theorem d_Mo_shrink_2 : decode prog_9_method_7_code 2 = .ok (.iconst 0, 1) := by decide +kernel
theorem d_Mo_shrink_3 : decode prog_9_method_7_code 3 = .ok (.istore_n 2, 1) := by decide +kernel
theorem d_Mo_shrink_4 : decode prog_9_method_7_code 4 = .ok (.aload_n 0, 1) := by decide +kernel
theorem d_Mo_shrink_5 : decode prog_9_method_7_code 5 = .ok (.getfield 60, 3) := by decide +kernel
theorem d_Mo_shrink_8 : decode prog_9_method_7_code 8 = .ok (.istore_n 3, 1) := by decide +kernel
theorem d_Mo_shrink_9 : decode prog_9_method_7_code 9 = .ok (.iload_n 3, 1) := by decide +kernel
theorem d_Mo_shrink_10 : decode prog_9_method_7_code 10 = .ok (.aload_n 0, 1) := by decide +kernel
theorem d_Mo_shrink_11 : decode prog_9_method_7_code 11 = .ok (.getfield 63, 3) := by decide +kernel
theorem d_Mo_shrink_14 : decode prog_9_method_7_code 14 = .ok (.if_icmp .ge 107, 3) := by decide +kernel
theorem d_Mo_shrink_17 : decode prog_9_method_7_code 17 = .ok (.iconst 0, 1) := by decide +kernel
theorem d_Mo_shrink_18 : decode prog_9_method_7_code 18 = .ok (.istore 4, 2) := by decide +kernel
theorem d_Mo_shrink_20 : decode prog_9_method_7_code 20 = .ok (.iload 4, 2) := by decide +kernel
theorem d_Mo_shrink_22 : decode prog_9_method_7_code 22 = .ok (.aload_n 0, 1) := by decide +kernel
theorem d_Mo_shrink_23 : decode prog_9_method_7_code 23 = .ok (.getfield 16, 3) := by decide +kernel
theorem d_Mo_shrink_26 : decode prog_9_method_7_code 26 = .ok (.iload_n 3, 1) := by decide +kernel
theorem d_Mo_shrink_27 : decode prog_9_method_7_code 27 = .ok (.iaload, 1) := by decide +kernel
theorem d_Mo_shrink_28 : decode prog_9_method_7_code 28 = .ok (.if_icmp .ge 32, 3) := by decide +kernel
theorem d_Mo_shrink_31 : decode prog_9_method_7_code 31 = .ok (.aload_n 0, 1) := by decide +kernel
theorem d_Mo_shrink_32 : decode prog_9_method_7_code 32 = .ok (.getfield 22, 3) := by decide +kernel
theorem d_Mo_shrink_35 : decode prog_9_method_7_code 35 = .ok (.iload_n 1, 1) := by decide +kernel
theorem d_Mo_shrink_36 : decode prog_9_method_7_code 36 = .ok (.iload 4, 2) := by decide +kernel
theorem d_Mo_shrink_38 : decode prog_9_method_7_code 38 = .ok (.iadd, 1) := by decide +kernel
theorem d_Mo_shrink_39 : decode prog_9_method_7_code 39 = .ok (.aload_n 0, 1) := by decide +kernel
theorem d_Mo_shrink_40 : decode prog_9_method_7_code 40 = .ok (.getfield 22, 3) := by decide +kernel
theorem d_Mo_shrink_43 : decode prog_9_method_7_code 43 = .ok (.aload_n 0, 1) := by decide +kernel
theorem d_Mo_shrink_44 : decode prog_9_method_7_code 44 = .ok (.getfield 13, 3) := by decide +kernel
theorem d_Mo_shrink_47 : decode prog_9_method_7_code 47 = .ok (.iload_n 3, 1) := by decide +kernel
theorem d_Mo_shrink_48 : decode prog_9_method_7_code 48 = .ok (.iaload, 1) := by decide +kernel
theorem d_Mo_shrink_49 : decode prog_9_method_7_code 49 = .ok (.iload 4, 2) := by decide +kernel
theorem d_Mo_shrink_51 : decode prog_9_method_7_code 51 = .ok (.iadd, 1) := by decide +kernel
theorem d_Mo_shrink_52 : decode prog_9_method_7_code 52 = .ok (.baload, 1) := by decide +kernel
theorem d_Mo_shrink_53 : decode prog_9_method_7_code 53 = .ok (.bastore, 1) := by decide +kernel
theorem d_Mo_shrink_54 : decode prog_9_method_7_code 54 = .ok (.iinc 4 1, 3) := by decide +kernel
theorem d_Mo_shrink_57 : decode prog_9_method_7_code 57 = .ok (.goto (-37), 3) := by decide +kernel
theorem d_Mo_shrink_60 : decode prog_9_method_7_code 60 = .ok (.aload_n 0, 1) := by decide +kernel
theorem d_Mo_shrink_61 : decode prog_9_method_7_code 61 = .ok (.getfield 7, 3) := by decide +kernel
theorem d_Mo_shrink_64 : decode prog_9_method_7_code 64 = .ok (.iload_n 2, 1) := by decide +kernel
theorem d_Mo_shrink_65 : decode prog_9_method_7_code 65 = .ok (.aload_n 0, 1) := by decide +kernel
theorem d_Mo_shrink_66 : decode prog_9_method_7_code 66 = .ok (.getfield 7, 3) := by decide +kernel
theorem d_Mo_shrink_69 : decode prog_9_method_7_code 69 = .ok (.iload_n 3, 1) := by decide +kernel
theorem d_Mo_shrink_70 : decode prog_9_method_7_code 70 = .ok (.iaload, 1) := by decide +kernel
theorem d_Mo_shrink_71 : decode prog_9_method_7_code 71 = .ok (.iastore, 1) := by decide +kernel
theorem d_Mo_shrink_72 : decode prog_9_method_7_code 72 = .ok (.aload_n 0, 1) := by decide +kernel
theorem d_Mo_shrink_73 : decode prog_9_method_7_code 73 = .ok (.getfield 13, 3) := by decide +kernel
theorem d_Mo_shrink_76 : decode prog_9_method_7_code 76 = .ok (.iload_n 2, 1) := by decide +kernel
theorem d_Mo_shrink_77 : decode prog_9_method_7_code 77 = .ok (.iload_n 1, 1) := by decide +kernel
theorem d_Mo_shrink_78 : decode prog_9_method_7_code 78 = .ok (.iastore, 1) := by decide +kernel
theorem d_Mo_shrink_79 : decode prog_9_method_7_code 79 = .ok (.aload_n 0, 1) := by decide +kernel
theorem d_Mo_shrink_80 : decode prog_9_method_7_code 80 = .ok (.getfield 16, 3) := by decide +kernel
theorem d_Mo_shrink_83 : decode prog_9_method_7_code 83 = .ok (.iload_n 2, 1) := by decide +kernel
theorem d_Mo_shrink_84 : decode prog_9_method_7_code 84 = .ok (.aload_n 0, 1) := by decide +kernel
theorem d_Mo_shrink_85 : decode prog_9_method_7_code 85 = .ok (.getfield 16, 3) := by decide +kernel
theorem d_Mo_shrink_88 : decode prog_9_method_7_code 88 = .ok (.iload_n 3, 1) := by decide +kernel
theorem d_Mo_shrink_89 : decode prog_9_method_7_code 89 = .ok (.iaload, 1) := by decide +kernel
theorem d_Mo_shrink_90 : decode prog_9_method_7_code 90 = .ok (.iastore, 1) := by decide +kernel
theorem d_Mo_shrink_91 : decode prog_9_method_7_code 91 = .ok (.aload_n 0, 1) := by decide +kernel
theorem d_Mo_shrink_92 : decode prog_9_method_7_code 92 = .ok (.getfield 19, 3) := by decide +kernel
theorem d_Mo_shrink_95 : decode prog_9_method_7_code 95 = .ok (.iload_n 2, 1) := by decide +kernel
theorem d_Mo_shrink_96 : decode prog_9_method_7_code 96 = .ok (.aload_n 0, 1) := by decide +kernel
theorem d_Mo_shrink_97 : decode prog_9_method_7_code 97 = .ok (.getfield 19, 3) := by decide +kernel
theorem d_Mo_shrink_100 : decode prog_9_method_7_code 100 = .ok (.iload_n 3, 1) := by decide +kernel
theorem d_Mo_shrink_101 : decode prog_9_method_7_code 101 = .ok (.iaload, 1) := by decide +kernel
theorem d_Mo_shrink_102 : decode prog_9_method_7_code 102 = .ok (.iastore, 1) := by decide +kernel
theorem d_Mo_shrink_103 : decode prog_9_method_7_code 103 = .ok (.iload_n 1, 1) := by decide +kernel
theorem d_Mo_shrink_104 : decode prog_9_method_7_code 104 = .ok (.aload_n 0, 1) := by decide +kernel
theorem d_Mo_shrink_105 : decode prog_9_method_7_code 105 = .ok (.getfield 16, 3) := by decide +kernel
theorem d_Mo_shrink_108 : decode prog_9_method_7_code 108 = .ok (.iload_n 3, 1) := by decide +kernel
theorem d_Mo_shrink_109 : decode prog_9_method_7_code 109 = .ok (.iaload, 1) := by decide +kernel
theorem d_Mo_shrink_110 : decode prog_9_method_7_code 110 = .ok (.iadd, 1) := by decide +kernel
theorem d_Mo_shrink_111 : decode prog_9_method_7_code 111 = .ok (.istore_n 1, 1) := by decide +kernel
theorem d_Mo_shrink_112 : decode prog_9_method_7_code 112 = .ok (.iinc 2 1, 3) := by decide +kernel
theorem d_Mo_shrink_115 : decode prog_9_method_7_code 115 = .ok (.iinc 3 1, 3) := by decide +kernel
theorem d_Mo_shrink_118 : decode prog_9_method_7_code 118 = .ok (.goto (-109), 3) := by decide +kernel
theorem d_Mo_shrink_121 : decode prog_9_method_7_code 121 = .ok (.aload_n 0, 1) := by decide +kernel
theorem d_Mo_shrink_122 : decode prog_9_method_7_code 122 = .ok (.dup, 1) := by decide +kernel
theorem d_Mo_shrink_123 : decode prog_9_method_7_code 123 = .ok (.getfield 40, 3) := by decide +kernel
theorem d_Mo_shrink_126 : decode prog_9_method_7_code 126 = .ok (.aload_n 0, 1) := by decide +kernel
theorem d_Mo_shrink_127 : decode prog_9_method_7_code 127 = .ok (.getfield 60, 3) := by decide +kernel
theorem d_Mo_shrink_130 : decode prog_9_method_7_code 130 = .ok (.isub, 1) := by decide +kernel
theorem d_Mo_shrink_131 : decode prog_9_method_7_code 131 = .ok (.putfield 40, 3) := by decide +kernel
theorem d_Mo_shrink_134 : decode prog_9_method_7_code 134 = .ok (.aload_n 0, 1) := by decide +kernel
theorem d_Mo_shrink_135 : decode prog_9_method_7_code 135 = .ok (.iload_n 2, 1) := by decide +kernel
theorem d_Mo_shrink_136 : decode prog_9_method_7_code 136 = .ok (.putfield 63, 3) := by decide +kernel
theorem d_Mo_shrink_139 : decode prog_9_method_7_code 139 = .ok (.aload_n 0, 1) := by decide +kernel
theorem d_Mo_shrink_140 : decode prog_9_method_7_code 140 = .ok (.iload_n 1, 1) := by decide +kernel
theorem d_Mo_shrink_141 : decode prog_9_method_7_code 141 = .ok (.putfield 66, 3) := by decide +kernel
theorem d_Mo_shrink_144 : decode prog_9_method_7_code 144 = .ok (.aload_n 0, 1) := by decide +kernel
theorem d_Mo_shrink_145 : decode prog_9_method_7_code 145 = .ok (.iconst 0, 1) := by decide +kernel
theorem d_Mo_shrink_146 : decode prog_9_method_7_code 146 = .ok (.putfield 60, 3) := by decide +kernel
theorem d_Mo_shrink_149 : decode prog_9_method_7_code 149 = .ok (.return_, 1) := by decide +kernel
theorem d_Mo_commit_0 : decode prog_9_method_10_code 0 = .ok (.aload_n 0, 1) := by decide +kernel
theorem d_Mo_commit_1 : decode prog_9_method_10_code 1 = .ok (.iconst 0, 1) := by decide +kernel
theorem d_Mo_commit_2 : decode prog_9_method_10_code 2 = .ok (.putfield 46, 3) := by decide +kernel
theorem d_Mo_commit_5 : decode prog_9_method_10_code 5 = .ok (.iload_n 1, 1) := by decide +kernel
theorem d_Mo_commit_6 : decode prog_9_method_10_code 6 = .ok (.ifCond .lt 8, 3) := by decide +kernel
theorem d_Mo_commit_9 : decode prog_9_method_10_code 9 = .ok (.iload_n 1, 1) := by decide +kernel
theorem d_Mo_commit_10 : decode prog_9_method_10_code 10 = .ok (.iconst 5, 1) := by decide +kernel
theorem d_Mo_commit_11 : decode prog_9_method_10_code 11 = .ok (.if_icmp .le 9, 3) := by decide +kernel
theorem d_Mo_commit_14 : decode prog_9_method_10_code 14 = .ok (.aload_n 0, 1) := by decide +kernel
theorem d_Mo_commit_15 : decode prog_9_method_10_code 15 = .ok (.iconst 1, 1) := by decide +kernel
theorem d_Mo_commit_16 : decode prog_9_method_10_code 16 = .ok (.invokevirtual 72, 3) := by decide +kernel
theorem d_Mo_commit_19 : decode prog_9_method_10_code 19 = .ok (.ireturn, 1) := by decide +kernel
theorem d_Mo_commit_20 : decode prog_9_method_10_code 20 = .ok (.aload_n 0, 1) := by decide +kernel
theorem d_Mo_commit_21 : decode prog_9_method_10_code 21 = .ok (.getfield 33, 3) := by decide +kernel
theorem d_Mo_commit_24 : decode prog_9_method_10_code 24 = .ok (.iload_n 1, 1) := by decide +kernel
theorem d_Mo_commit_25 : decode prog_9_method_10_code 25 = .ok (.iaload, 1) := by decide +kernel
theorem d_Mo_commit_26 : decode prog_9_method_10_code 26 = .ok (.ifCond .ge 11, 3) := by decide +kernel
theorem d_Mo_commit_29 : decode prog_9_method_10_code 29 = .ok (.aload_n 0, 1) := by decide +kernel
theorem d_Mo_commit_30 : decode prog_9_method_10_code 30 = .ok (.iconst 1, 1) := by decide +kernel
theorem d_Mo_commit_31 : decode prog_9_method_10_code 31 = .ok (.invokevirtual 76, 3) := by decide +kernel
theorem d_Mo_commit_34 : decode prog_9_method_10_code 34 = .ok (.ifCond .eq 9, 3) := by decide +kernel
theorem d_Mo_commit_37 : decode prog_9_method_10_code 37 = .ok (.aload_n 0, 1) := by decide +kernel
theorem d_Mo_commit_38 : decode prog_9_method_10_code 38 = .ok (.iconst 2, 1) := by decide +kernel
theorem d_Mo_commit_39 : decode prog_9_method_10_code 39 = .ok (.invokevirtual 72, 3) := by decide +kernel
theorem d_Mo_commit_42 : decode prog_9_method_10_code 42 = .ok (.ireturn, 1) := by decide +kernel
theorem d_Mo_commit_43 : decode prog_9_method_10_code 43 = .ok (.aload_n 0, 1) := by decide +kernel
theorem d_Mo_commit_44 : decode prog_9_method_10_code 44 = .ok (.bipush 15, 2) := by decide +kernel
theorem d_Mo_commit_46 : decode prog_9_method_10_code 46 = .ok (.iconst 1, 1) := by decide +kernel
theorem d_Mo_commit_47 : decode prog_9_method_10_code 47 = .ok (.invokevirtual 80, 3) := by decide +kernel
theorem d_Mo_commit_50 : decode prog_9_method_10_code 50 = .ok (.aload_n 0, 1) := by decide +kernel
theorem d_Mo_commit_51 : decode prog_9_method_10_code 51 = .ok (.getfield 22, 3) := by decide +kernel
theorem d_Mo_commit_54 : decode prog_9_method_10_code 54 = .ok (.aload_n 0, 1) := by decide +kernel
theorem d_Mo_commit_55 : decode prog_9_method_10_code 55 = .ok (.getfield 13, 3) := by decide +kernel
theorem d_Mo_commit_58 : decode prog_9_method_10_code 58 = .ok (.aload_n 0, 1) := by decide +kernel
theorem d_Mo_commit_59 : decode prog_9_method_10_code 59 = .ok (.getfield 63, 3) := by decide +kernel
theorem d_Mo_commit_62 : decode prog_9_method_10_code 62 = .ok (.iconst 1, 1) := by decide +kernel
theorem d_Mo_commit_63 : decode prog_9_method_10_code 63 = .ok (.isub, 1) := by decide +kernel
theorem d_Mo_commit_64 : decode prog_9_method_10_code 64 = .ok (.iaload, 1) := by decide +kernel
theorem d_Mo_commit_65 : decode prog_9_method_10_code 65 = .ok (.iload_n 1, 1) := by decide +kernel
theorem d_Mo_commit_66 : decode prog_9_method_10_code 66 = .ok (.i2b, 1) := by decide +kernel
theorem d_Mo_commit_67 : decode prog_9_method_10_code 67 = .ok (.bastore, 1) := by decide +kernel
theorem d_Mo_commit_68 : decode prog_9_method_10_code 68 = .ok (.aload_n 0, 1) := by decide +kernel
theorem d_Mo_commit_69 : decode prog_9_method_10_code 69 = .ok (.getfield 33, 3) := by decide +kernel
theorem d_Mo_commit_72 : decode prog_9_method_10_code 72 = .ok (.iload_n 1, 1) := by decide +kernel
theorem d_Mo_commit_73 : decode prog_9_method_10_code 73 = .ok (.aload_n 0, 1) := by decide +kernel
theorem d_Mo_commit_74 : decode prog_9_method_10_code 74 = .ok (.getfield 54, 3) := by decide +kernel
theorem d_Mo_commit_77 : decode prog_9_method_10_code 77 = .ok (.iastore, 1) := by decide +kernel
theorem d_Mo_commit_78 : decode prog_9_method_10_code 78 = .ok (.aload_n 0, 1) := by decide +kernel
theorem d_Mo_commit_79 : decode prog_9_method_10_code 79 = .ok (.getfield 54, 3) := by decide +kernel
theorem d_Mo_commit_82 : decode prog_9_method_10_code 82 = .ok (.ireturn, 1) := by decide +kernel
theorem d_Mo_flush_0 : decode prog_9_method_12_code 0 = .ok (.aload_n 0, 1) := by decide +kernel
theorem d_Mo_flush_1 : decode prog_9_method_12_code 1 = .ok (.iconst 0, 1) := by decide +kernel
theorem d_Mo_flush_2 : decode prog_9_method_12_code 2 = .ok (.putfield 46, 3) := by decide +kernel
theorem d_Mo_flush_5 : decode prog_9_method_12_code 5 = .ok (.iload_n 1, 1) := by decide +kernel
theorem d_Mo_flush_6 : decode prog_9_method_12_code 6 = .ok (.ifCond .lt 11, 3) := by decide +kernel
theorem d_Mo_flush_9 : decode prog_9_method_12_code 9 = .ok (.iload_n 1, 1) := by decide +kernel
theorem d_Mo_flush_10 : decode prog_9_method_12_code 10 = .ok (.aload_n 0, 1) := by decide +kernel
theorem d_Mo_flush_11 : decode prog_9_method_12_code 11 = .ok (.getfield 54, 3) := by decide +kernel
theorem d_Mo_flush_14 : decode prog_9_method_12_code 14 = .ok (.if_icmp .le 9, 3) := by decide +kernel
theorem d_Mo_flush_17 : decode prog_9_method_12_code 17 = .ok (.aload_n 0, 1) := by decide +kernel
theorem d_Mo_flush_18 : decode prog_9_method_12_code 18 = .ok (.iconst 1, 1) := by decide +kernel
theorem d_Mo_flush_19 : decode prog_9_method_12_code 19 = .ok (.invokevirtual 72, 3) := by decide +kernel
theorem d_Mo_flush_22 : decode prog_9_method_12_code 22 = .ok (.ireturn, 1) := by decide +kernel
theorem d_Mo_flush_23 : decode prog_9_method_12_code 23 = .ok (.iconst 0, 1) := by decide +kernel
theorem d_Mo_flush_24 : decode prog_9_method_12_code 24 = .ok (.istore_n 2, 1) := by decide +kernel
theorem d_Mo_flush_25 : decode prog_9_method_12_code 25 = .ok (.aload_n 0, 1) := by decide +kernel
theorem d_Mo_flush_26 : decode prog_9_method_12_code 26 = .ok (.getfield 91, 3) := by decide +kernel
theorem d_Mo_flush_29 : decode prog_9_method_12_code 29 = .ok (.iload_n 1, 1) := by decide +kernel
theorem d_Mo_flush_30 : decode prog_9_method_12_code 30 = .ok (.if_icmp .ge 63, 3) := by decide +kernel
theorem d_Mo_flush_33 : decode prog_9_method_12_code 33 = .ok (.aload_n 0, 1) := by decide +kernel
theorem d_Mo_flush_34 : decode prog_9_method_12_code 34 = .ok (.getfield 91, 3) := by decide +kernel
theorem d_Mo_flush_37 : decode prog_9_method_12_code 37 = .ok (.sipush 500, 3) := by decide +kernel
theorem d_Mo_flush_40 : decode prog_9_method_12_code 40 = .ok (.idiv, 1) := by decide +kernel
theorem d_Mo_flush_41 : decode prog_9_method_12_code 41 = .ok (.istore_n 3, 1) := by decide +kernel
theorem d_Mo_flush_42 : decode prog_9_method_12_code 42 = .ok (.aload_n 0, 1) := by decide +kernel
theorem d_Mo_flush_43 : decode prog_9_method_12_code 43 = .ok (.invokevirtual 94, 3) := by decide +kernel
theorem d_Mo_flush_46 : decode prog_9_method_12_code 46 = .ok (.ifCond .ne 9, 3) := by decide +kernel
theorem d_Mo_flush_49 : decode prog_9_method_12_code 49 = .ok (.aload_n 0, 1) := by decide +kernel
theorem d_Mo_flush_50 : decode prog_9_method_12_code 50 = .ok (.iconst 2, 1) := by decide +kernel
theorem d_Mo_flush_51 : decode prog_9_method_12_code 51 = .ok (.invokevirtual 72, 3) := by decide +kernel
theorem d_Mo_flush_54 : decode prog_9_method_12_code 54 = .ok (.ireturn, 1) := by decide +kernel
theorem d_Mo_flush_55 : decode prog_9_method_12_code 55 = .ok (.aload_n 0, 1) := by decide +kernel
theorem d_Mo_flush_56 : decode prog_9_method_12_code 56 = .ok (.sipush 500, 3) := by decide +kernel
theorem d_Mo_flush_59 : decode prog_9_method_12_code 59 = .ok (.iload_n 3, 1) := by decide +kernel
theorem d_Mo_flush_60 : decode prog_9_method_12_code 60 = .ok (.iconst 1, 1) := by decide +kernel
theorem d_Mo_flush_61 : decode prog_9_method_12_code 61 = .ok (.iadd, 1) := by decide +kernel
theorem d_Mo_flush_62 : decode prog_9_method_12_code 62 = .ok (.imul, 1) := by decide +kernel
theorem d_Mo_flush_63 : decode prog_9_method_12_code 63 = .ok (.aload_n 0, 1) := by decide +kernel
theorem d_Mo_flush_64 : decode prog_9_method_12_code 64 = .ok (.getfield 54, 3) := by decide +kernel
theorem d_Mo_flush_67 : decode prog_9_method_12_code 67 = .ok (.if_icmp .ge 13, 3) := by decide +kernel
theorem d_Mo_flush_70 : decode prog_9_method_12_code 70 = .ok (.sipush 500, 3) := by decide +kernel
theorem d_Mo_flush_73 : decode prog_9_method_12_code 73 = .ok (.iload_n 3, 1) := by decide +kernel
theorem d_Mo_flush_74 : decode prog_9_method_12_code 74 = .ok (.iconst 1, 1) := by decide +kernel
theorem d_Mo_flush_75 : decode prog_9_method_12_code 75 = .ok (.iadd, 1) := by decide +kernel
theorem d_Mo_flush_76 : decode prog_9_method_12_code 76 = .ok (.imul, 1) := by decide +kernel
theorem d_Mo_flush_77 : decode prog_9_method_12_code 77 = .ok (.goto 7, 3) := by decide +kernel
theorem d_Mo_flush_80 : decode prog_9_method_12_code 80 = .ok (.aload_n 0, 1) := by decide +kernel
theorem d_Mo_flush_81 : decode prog_9_method_12_code 81 = .ok (.getfield 54, 3) := by decide +kernel
theorem d_Mo_flush_84 : decode prog_9_method_12_code 84 = .ok (.putfield 91, 3) := by decide +kernel
theorem d_Mo_flush_87 : decode prog_9_method_12_code 87 = .ok (.iinc 2 1, 3) := by decide +kernel
theorem d_Mo_flush_90 : decode prog_9_method_12_code 90 = .ok (.goto (-65), 3) := by decide +kernel
theorem d_Mo_flush_93 : decode prog_9_method_12_code 93 = .ok (.iload_n 2, 1) := by decide +kernel
theorem d_Mo_flush_94 : decode prog_9_method_12_code 94 = .ok (.ireturn, 1) := by decide +kernel
theorem d_Mo_writes_0 : decode prog_9_method_11_code 0 = .ok (.aload_n 0, 1) := by decide +kernel
theorem d_Mo_writes_1 : decode prog_9_method_11_code 1 = .ok (.getfield 29, 3) := by decide +kernel
theorem d_Mo_writes_4 : decode prog_9_method_11_code 4 = .ok (.ifCond .ne 15, 3) := by decide +kernel
theorem d_Mo_writes_7 : decode prog_9_method_11_code 7 = .ok (.aload_n 0, 1) := by decide +kernel
theorem d_Mo_writes_8 : decode prog_9_method_11_code 8 = .ok (.iconst (-1), 1) := by decide +kernel
theorem d_Mo_writes_9 : decode prog_9_method_11_code 9 = .ok (.putfield 29, 3) := by decide +kernel
theorem d_Mo_writes_12 : decode prog_9_method_11_code 12 = .ok (.aload_n 0, 1) := by decide +kernel
theorem d_Mo_writes_13 : decode prog_9_method_11_code 13 = .ok (.invokevirtual 84, 3) := by decide +kernel
theorem d_Mo_writes_16 : decode prog_9_method_11_code 16 = .ok (.pop, 1) := by decide +kernel
theorem d_Mo_writes_17 : decode prog_9_method_11_code 17 = .ok (.iconst 0, 1) := by decide +kernel
theorem d_Mo_writes_18 : decode prog_9_method_11_code 18 = .ok (.ireturn, 1) := by decide +kernel
theorem d_Mo_writes_19 : decode prog_9_method_11_code 19 = .ok (.aload_n 0, 1) := by decide +kernel
theorem d_Mo_writes_20 : decode prog_9_method_11_code 20 = .ok (.aload_n 0, 1) := by decide +kernel
theorem d_Mo_writes_21 : decode prog_9_method_11_code 21 = .ok (.getfield 29, 3) := by decide +kernel
theorem d_Mo_writes_24 : decode prog_9_method_11_code 24 = .ok (.ifCond .le 12, 3) := by decide +kernel
theorem d_Mo_writes_27 : decode prog_9_method_11_code 27 = .ok (.aload_n 0, 1) := by decide +kernel
theorem d_Mo_writes_28 : decode prog_9_method_11_code 28 = .ok (.getfield 29, 3) := by decide +kernel
theorem d_Mo_writes_31 : decode prog_9_method_11_code 31 = .ok (.iconst 1, 1) := by decide +kernel
theorem d_Mo_writes_32 : decode prog_9_method_11_code 32 = .ok (.isub, 1) := by decide +kernel
theorem d_Mo_writes_33 : decode prog_9_method_11_code 33 = .ok (.goto 7, 3) := by decide +kernel
theorem d_Mo_writes_36 : decode prog_9_method_11_code 36 = .ok (.aload_n 0, 1) := by decide +kernel
theorem d_Mo_writes_37 : decode prog_9_method_11_code 37 = .ok (.getfield 29, 3) := by decide +kernel
theorem d_Mo_writes_40 : decode prog_9_method_11_code 40 = .ok (.putfield 29, 3) := by decide +kernel
theorem d_Mo_writes_43 : decode prog_9_method_11_code 43 = .ok (.aload_n 0, 1) := by decide +kernel
theorem d_Mo_writes_44 : decode prog_9_method_11_code 44 = .ok (.dup, 1) := by decide +kernel
theorem d_Mo_writes_45 : decode prog_9_method_11_code 45 = .ok (.getfield 88, 3) := by decide +kernel
theorem d_Mo_writes_48 : decode prog_9_method_11_code 48 = .ok (.iconst 1, 1) := by decide +kernel
theorem d_Mo_writes_49 : decode prog_9_method_11_code 49 = .ok (.iadd, 1) := by decide +kernel
theorem d_Mo_writes_50 : decode prog_9_method_11_code 50 = .ok (.putfield 88, 3) := by decide +kernel
theorem d_Mo_writes_53 : decode prog_9_method_11_code 53 = .ok (.iconst 1, 1) := by decide +kernel
theorem d_Mo_writes_54 : decode prog_9_method_11_code 54 = .ok (.ireturn, 1) := by decide +kernel
theorem d_Mo_lose_0 : decode prog_9_method_18_code 0 = .ok (.aload_n 0, 1) := by decide +kernel
theorem d_Mo_lose_1 : decode prog_9_method_18_code 1 = .ok (.getfield 63, 3) := by decide +kernel
theorem d_Mo_lose_4 : decode prog_9_method_18_code 4 = .ok (.aload_n 0, 1) := by decide +kernel
theorem d_Mo_lose_5 : decode prog_9_method_18_code 5 = .ok (.getfield 60, 3) := by decide +kernel
theorem d_Mo_lose_8 : decode prog_9_method_18_code 8 = .ok (.if_icmp .le 52, 3) := by decide +kernel
theorem d_Mo_lose_11 : decode prog_9_method_18_code 11 = .ok (.aload_n 0, 1) := by decide +kernel
theorem d_Mo_lose_12 : decode prog_9_method_18_code 12 = .ok (.getfield 19, 3) := by decide +kernel
theorem d_Mo_lose_15 : decode prog_9_method_18_code 15 = .ok (.aload_n 0, 1) := by decide +kernel
theorem d_Mo_lose_16 : decode prog_9_method_18_code 16 = .ok (.getfield 63, 3) := by decide +kernel
theorem d_Mo_lose_19 : decode prog_9_method_18_code 19 = .ok (.iconst 1, 1) := by decide +kernel
theorem d_Mo_lose_20 : decode prog_9_method_18_code 20 = .ok (.isub, 1) := by decide +kernel
theorem d_Mo_lose_21 : decode prog_9_method_18_code 21 = .ok (.iaload, 1) := by decide +kernel
theorem d_Mo_lose_22 : decode prog_9_method_18_code 22 = .ok (.aload_n 0, 1) := by decide +kernel
theorem d_Mo_lose_23 : decode prog_9_method_18_code 23 = .ok (.getfield 91, 3) := by decide +kernel
theorem d_Mo_lose_26 : decode prog_9_method_18_code 26 = .ok (.if_icmp .le 34, 3) := by decide +kernel
theorem d_Mo_lose_29 : decode prog_9_method_18_code 29 = .ok (.aload_n 0, 1) := by decide +kernel
theorem d_Mo_lose_30 : decode prog_9_method_18_code 30 = .ok (.dup, 1) := by decide +kernel
theorem d_Mo_lose_31 : decode prog_9_method_18_code 31 = .ok (.getfield 63, 3) := by decide +kernel
theorem d_Mo_lose_34 : decode prog_9_method_18_code 34 = .ok (.iconst 1, 1) := by decide +kernel
theorem d_Mo_lose_35 : decode prog_9_method_18_code 35 = .ok (.isub, 1) := by decide +kernel
theorem d_Mo_lose_36 : decode prog_9_method_18_code 36 = .ok (.putfield 63, 3) := by decide +kernel
theorem d_Mo_lose_39 : decode prog_9_method_18_code 39 = .ok (.aload_n 0, 1) := by decide +kernel
theorem d_Mo_lose_40 : decode prog_9_method_18_code 40 = .ok (.dup, 1) := by decide +kernel
theorem d_Mo_lose_41 : decode prog_9_method_18_code 41 = .ok (.getfield 66, 3) := by decide +kernel
theorem d_Mo_lose_44 : decode prog_9_method_18_code 44 = .ok (.aload_n 0, 1) := by decide +kernel
theorem d_Mo_lose_45 : decode prog_9_method_18_code 45 = .ok (.getfield 16, 3) := by decide +kernel
theorem d_Mo_lose_48 : decode prog_9_method_18_code 48 = .ok (.aload_n 0, 1) := by decide +kernel
theorem d_Mo_lose_49 : decode prog_9_method_18_code 49 = .ok (.getfield 63, 3) := by decide +kernel
theorem d_Mo_lose_52 : decode prog_9_method_18_code 52 = .ok (.iaload, 1) := by decide +kernel
theorem d_Mo_lose_53 : decode prog_9_method_18_code 53 = .ok (.isub, 1) := by decide +kernel
theorem d_Mo_lose_54 : decode prog_9_method_18_code 54 = .ok (.putfield 66, 3) := by decide +kernel
theorem d_Mo_lose_57 : decode prog_9_method_18_code 57 = .ok (.goto (-57), 3) := by decide +kernel
theorem d_Mo_lose_60 : decode prog_9_method_18_code 60 = .ok (.aload_n 0, 1) := by decide +kernel
theorem d_Mo_lose_61 : decode prog_9_method_18_code 61 = .ok (.aload_n 0, 1) := by decide +kernel
theorem d_Mo_lose_62 : decode prog_9_method_18_code 62 = .ok (.getfield 63, 3) := by decide +kernel
theorem d_Mo_lose_65 : decode prog_9_method_18_code 65 = .ok (.aload_n 0, 1) := by decide +kernel
theorem d_Mo_lose_66 : decode prog_9_method_18_code 66 = .ok (.getfield 60, 3) := by decide +kernel
theorem d_Mo_lose_69 : decode prog_9_method_18_code 69 = .ok (.if_icmp .le 17, 3) := by decide +kernel
theorem d_Mo_lose_72 : decode prog_9_method_18_code 72 = .ok (.aload_n 0, 1) := by decide +kernel
theorem d_Mo_lose_73 : decode prog_9_method_18_code 73 = .ok (.getfield 19, 3) := by decide +kernel
theorem d_Mo_lose_76 : decode prog_9_method_18_code 76 = .ok (.aload_n 0, 1) := by decide +kernel
theorem d_Mo_lose_77 : decode prog_9_method_18_code 77 = .ok (.getfield 63, 3) := by decide +kernel
theorem d_Mo_lose_80 : decode prog_9_method_18_code 80 = .ok (.iconst 1, 1) := by decide +kernel
theorem d_Mo_lose_81 : decode prog_9_method_18_code 81 = .ok (.isub, 1) := by decide +kernel
theorem d_Mo_lose_82 : decode prog_9_method_18_code 82 = .ok (.iaload, 1) := by decide +kernel
theorem d_Mo_lose_83 : decode prog_9_method_18_code 83 = .ok (.goto 7, 3) := by decide +kernel
theorem d_Mo_lose_86 : decode prog_9_method_18_code 86 = .ok (.aload_n 0, 1) := by decide +kernel
theorem d_Mo_lose_87 : decode prog_9_method_18_code 87 = .ok (.getfield 57, 3) := by decide +kernel
theorem d_Mo_lose_90 : decode prog_9_method_18_code 90 = .ok (.putfield 54, 3) := by decide +kernel
theorem d_Mo_lose_93 : decode prog_9_method_18_code 93 = .ok (.aload_n 0, 1) := by decide +kernel
theorem d_Mo_lose_94 : decode prog_9_method_18_code 94 = .ok (.aload_n 0, 1) := by decide +kernel
theorem d_Mo_lose_95 : decode prog_9_method_18_code 95 = .ok (.getfield 54, 3) := by decide +kernel
theorem d_Mo_lose_98 : decode prog_9_method_18_code 98 = .ok (.putfield 91, 3) := by decide +kernel
theorem d_Mo_lose_101 : decode prog_9_method_18_code 101 = .ok (.aload_n 0, 1) := by decide +kernel
theorem d_Mo_lose_102 : decode prog_9_method_18_code 102 = .ok (.iconst 0, 1) := by decide +kernel
theorem d_Mo_lose_103 : decode prog_9_method_18_code 103 = .ok (.putfield 49, 3) := by decide +kernel
theorem d_Mo_lose_106 : decode prog_9_method_18_code 106 = .ok (.iconst 0, 1) := by decide +kernel
theorem d_Mo_lose_107 : decode prog_9_method_18_code 107 = .ok (.istore_n 1, 1) := by decide +kernel
theorem d_Mo_lose_108 : decode prog_9_method_18_code 108 = .ok (.iload_n 1, 1) := by decide +kernel
theorem d_Mo_lose_109 : decode prog_9_method_18_code 109 = .ok (.bipush 6, 2) := by decide +kernel
theorem d_Mo_lose_111 : decode prog_9_method_18_code 111 = .ok (.if_icmp .ge 16, 3) := by decide +kernel
theorem d_Mo_lose_114 : decode prog_9_method_18_code 114 = .ok (.aload_n 0, 1) := by decide +kernel
theorem d_Mo_lose_115 : decode prog_9_method_18_code 115 = .ok (.getfield 33, 3) := by decide +kernel
theorem d_Mo_lose_118 : decode prog_9_method_18_code 118 = .ok (.iload_n 1, 1) := by decide +kernel
theorem d_Mo_lose_119 : decode prog_9_method_18_code 119 = .ok (.iconst (-1), 1) := by decide +kernel
theorem d_Mo_lose_120 : decode prog_9_method_18_code 120 = .ok (.iastore, 1) := by decide +kernel
theorem d_Mo_lose_121 : decode prog_9_method_18_code 121 = .ok (.iinc 1 1, 3) := by decide +kernel
theorem d_Mo_lose_124 : decode prog_9_method_18_code 124 = .ok (.goto (-16), 3) := by decide +kernel
theorem d_Mo_lose_127 : decode prog_9_method_18_code 127 = .ok (.aload_n 0, 1) := by decide +kernel
theorem d_Mo_lose_128 : decode prog_9_method_18_code 128 = .ok (.invokevirtual 98, 3) := by decide +kernel
theorem d_Mo_lose_131 : decode prog_9_method_18_code 131 = .ok (.aload_n 0, 1) := by decide +kernel
theorem d_Mo_lose_132 : decode prog_9_method_18_code 132 = .ok (.aload_n 0, 1) := by decide +kernel
theorem d_Mo_lose_133 : decode prog_9_method_18_code 133 = .ok (.getfield 60, 3) := by decide +kernel
theorem d_Mo_lose_136 : decode prog_9_method_18_code 136 = .ok (.iconst 1, 1) := by decide +kernel
theorem d_Mo_lose_137 : decode prog_9_method_18_code 137 = .ok (.isub, 1) := by decide +kernel
theorem d_Mo_lose_138 : decode prog_9_method_18_code 138 = .ok (.putfield 40, 3) := by decide +kernel
theorem d_Mo_lose_141 : decode prog_9_method_18_code 141 = .ok (.aload_n 0, 1) := by decide +kernel
theorem d_Mo_lose_142 : decode prog_9_method_18_code 142 = .ok (.getfield 63, 3) := by decide +kernel
theorem d_Mo_lose_145 : decode prog_9_method_18_code 145 = .ok (.aload_n 0, 1) := by decide +kernel
theorem d_Mo_lose_146 : decode prog_9_method_18_code 146 = .ok (.getfield 60, 3) := by decide +kernel
theorem d_Mo_lose_149 : decode prog_9_method_18_code 149 = .ok (.isub, 1) := by decide +kernel
theorem d_Mo_lose_150 : decode prog_9_method_18_code 150 = .ok (.ireturn, 1) := by decide +kernel
theorem d_Mo_untouch_0 : decode prog_9_method_15_code 0 = .ok (.iconst 0, 1) := by decide +kernel
theorem d_Mo_untouch_1 : decode prog_9_method_15_code 1 = .ok (.istore_n 1, 1) := by decide +kernel
theorem d_Mo_untouch_2 : decode prog_9_method_15_code 2 = .ok (.iload_n 1, 1) := by decide +kernel
theorem d_Mo_untouch_3 : decode prog_9_method_15_code 3 = .ok (.sipush 2048, 3) := by decide +kernel
theorem d_Mo_untouch_6 : decode prog_9_method_15_code 6 = .ok (.if_icmp .ge 16, 3) := by decide +kernel
theorem d_Mo_untouch_9 : decode prog_9_method_15_code 9 = .ok (.aload_n 0, 1) := by decide +kernel
theorem d_Mo_untouch_10 : decode prog_9_method_15_code 10 = .ok (.getfield 36, 3) := by decide +kernel
theorem d_Mo_untouch_13 : decode prog_9_method_15_code 13 = .ok (.iload_n 1, 1) := by decide +kernel
theorem d_Mo_untouch_14 : decode prog_9_method_15_code 14 = .ok (.iconst 0, 1) := by decide +kernel
theorem d_Mo_untouch_15 : decode prog_9_method_15_code 15 = .ok (.bastore, 1) := by decide +kernel
theorem d_Mo_untouch_16 : decode prog_9_method_15_code 16 = .ok (.iinc 1 1, 3) := by decide +kernel
theorem d_Mo_untouch_19 : decode prog_9_method_15_code 19 = .ok (.goto (-17), 3) := by decide +kernel
theorem d_Mo_untouch_22 : decode prog_9_method_15_code 22 = .ok (.return_, 1) := by decide +kernel
theorem d_Mo_told_0 : decode prog_9_method_13_code 0 = .ok (.aload_n 0, 1) := by decide +kernel
theorem d_Mo_told_1 : decode prog_9_method_13_code 1 = .ok (.iconst 0, 1) := by decide +kernel
theorem d_Mo_told_2 : decode prog_9_method_13_code 2 = .ok (.putfield 46, 3) := by decide +kernel
theorem d_Mo_told_5 : decode prog_9_method_13_code 5 = .ok (.iconst (-1), 1) := by decide +kernel
theorem d_Mo_told_6 : decode prog_9_method_13_code 6 = .ok (.istore_n 1, 1) := by decide +kernel
theorem d_Mo_told_7 : decode prog_9_method_13_code 7 = .ok (.iconst 0, 1) := by decide +kernel
theorem d_Mo_told_8 : decode prog_9_method_13_code 8 = .ok (.istore_n 2, 1) := by decide +kernel
theorem d_Mo_told_9 : decode prog_9_method_13_code 9 = .ok (.iload_n 2, 1) := by decide +kernel
theorem d_Mo_told_10 : decode prog_9_method_13_code 10 = .ok (.bipush 6, 2) := by decide +kernel
theorem d_Mo_told_12 : decode prog_9_method_13_code 12 = .ok (.if_icmp .ge 43, 3) := by decide +kernel
theorem d_Mo_told_15 : decode prog_9_method_13_code 15 = .ok (.aload_n 0, 1) := by decide +kernel
theorem d_Mo_told_16 : decode prog_9_method_13_code 16 = .ok (.getfield 33, 3) := by decide +kernel
theorem d_Mo_told_19 : decode prog_9_method_13_code 19 = .ok (.iload_n 2, 1) := by decide +kernel
theorem d_Mo_told_20 : decode prog_9_method_13_code 20 = .ok (.iaload, 1) := by decide +kernel
theorem d_Mo_told_21 : decode prog_9_method_13_code 21 = .ok (.ifCond .lt 26, 3) := by decide +kernel
theorem d_Mo_told_24 : decode prog_9_method_13_code 24 = .ok (.iload_n 1, 1) := by decide +kernel
theorem d_Mo_told_25 : decode prog_9_method_13_code 25 = .ok (.ifCond .lt 18, 3) := by decide +kernel
theorem d_Mo_told_28 : decode prog_9_method_13_code 28 = .ok (.aload_n 0, 1) := by decide +kernel
theorem d_Mo_told_29 : decode prog_9_method_13_code 29 = .ok (.getfield 33, 3) := by decide +kernel
theorem d_Mo_told_32 : decode prog_9_method_13_code 32 = .ok (.iload_n 2, 1) := by decide +kernel
theorem d_Mo_told_33 : decode prog_9_method_13_code 33 = .ok (.iaload, 1) := by decide +kernel
theorem d_Mo_told_34 : decode prog_9_method_13_code 34 = .ok (.aload_n 0, 1) := by decide +kernel
theorem d_Mo_told_35 : decode prog_9_method_13_code 35 = .ok (.getfield 33, 3) := by decide +kernel
theorem d_Mo_told_38 : decode prog_9_method_13_code 38 = .ok (.iload_n 1, 1) := by decide +kernel
theorem d_Mo_told_39 : decode prog_9_method_13_code 39 = .ok (.iaload, 1) := by decide +kernel
theorem d_Mo_told_40 : decode prog_9_method_13_code 40 = .ok (.if_icmp .ge 7, 3) := by decide +kernel
theorem d_Mo_told_43 : decode prog_9_method_13_code 43 = .ok (.iload_n 2, 1) := by decide +kernel
theorem d_Mo_told_44 : decode prog_9_method_13_code 44 = .ok (.goto 4, 3) := by decide +kernel
theorem d_Mo_told_47 : decode prog_9_method_13_code 47 = .ok (.iload_n 1, 1) := by decide +kernel
theorem d_Mo_told_48 : decode prog_9_method_13_code 48 = .ok (.istore_n 1, 1) := by decide +kernel
theorem d_Mo_told_49 : decode prog_9_method_13_code 49 = .ok (.iinc 2 1, 3) := by decide +kernel
theorem d_Mo_told_52 : decode prog_9_method_13_code 52 = .ok (.goto (-43), 3) := by decide +kernel
theorem d_Mo_told_55 : decode prog_9_method_13_code 55 = .ok (.iload_n 1, 1) := by decide +kernel
theorem d_Mo_told_56 : decode prog_9_method_13_code 56 = .ok (.ifCond .lt 16, 3) := by decide +kernel
theorem d_Mo_told_59 : decode prog_9_method_13_code 59 = .ok (.aload_n 0, 1) := by decide +kernel
theorem d_Mo_told_60 : decode prog_9_method_13_code 60 = .ok (.getfield 33, 3) := by decide +kernel
theorem d_Mo_told_63 : decode prog_9_method_13_code 63 = .ok (.iload_n 1, 1) := by decide +kernel
theorem d_Mo_told_64 : decode prog_9_method_13_code 64 = .ok (.iaload, 1) := by decide +kernel
theorem d_Mo_told_65 : decode prog_9_method_13_code 65 = .ok (.aload_n 0, 1) := by decide +kernel
theorem d_Mo_told_66 : decode prog_9_method_13_code 66 = .ok (.getfield 91, 3) := by decide +kernel
theorem d_Mo_told_69 : decode prog_9_method_13_code 69 = .ok (.if_icmp .le 5, 3) := by decide +kernel
theorem d_Mo_told_72 : decode prog_9_method_13_code 72 = .ok (.iconst (-1), 1) := by decide +kernel
theorem d_Mo_told_73 : decode prog_9_method_13_code 73 = .ok (.ireturn, 1) := by decide +kernel
theorem d_Mo_told_74 : decode prog_9_method_13_code 74 = .ok (.aload_n 0, 1) := by decide +kernel
theorem d_Mo_told_75 : decode prog_9_method_13_code 75 = .ok (.getfield 33, 3) := by decide +kernel
theorem d_Mo_told_78 : decode prog_9_method_13_code 78 = .ok (.iload_n 1, 1) := by decide +kernel
theorem d_Mo_told_79 : decode prog_9_method_13_code 79 = .ok (.iconst (-1), 1) := by decide +kernel
theorem d_Mo_told_80 : decode prog_9_method_13_code 80 = .ok (.iastore, 1) := by decide +kernel
theorem d_Mo_told_81 : decode prog_9_method_13_code 81 = .ok (.iload_n 1, 1) := by decide +kernel
theorem d_Mo_told_82 : decode prog_9_method_13_code 82 = .ok (.ireturn, 1) := by decide +kernel
theorem d_Mo_touch_0 : decode prog_9_method_14_code 0 = .ok (.aload_n 0, 1) := by decide +kernel
theorem d_Mo_touch_1 : decode prog_9_method_14_code 1 = .ok (.iconst 0, 1) := by decide +kernel
theorem d_Mo_touch_2 : decode prog_9_method_14_code 2 = .ok (.putfield 46, 3) := by decide +kernel
theorem d_Mo_touch_5 : decode prog_9_method_14_code 5 = .ok (.iload_n 1, 1) := by decide +kernel
theorem d_Mo_touch_6 : decode prog_9_method_14_code 6 = .ok (.ifCond .lt 19, 3) := by decide +kernel
theorem d_Mo_touch_9 : decode prog_9_method_14_code 9 = .ok (.iload_n 1, 1) := by decide +kernel
theorem d_Mo_touch_10 : decode prog_9_method_14_code 10 = .ok (.sipush 2047, 3) := by decide +kernel
theorem d_Mo_touch_13 : decode prog_9_method_14_code 13 = .ok (.if_icmp .gt 12, 3) := by decide +kernel
theorem d_Mo_touch_16 : decode prog_9_method_14_code 16 = .ok (.aload_n 0, 1) := by decide +kernel
theorem d_Mo_touch_17 : decode prog_9_method_14_code 17 = .ok (.getfield 36, 3) := by decide +kernel
theorem d_Mo_touch_20 : decode prog_9_method_14_code 20 = .ok (.iload_n 1, 1) := by decide +kernel
theorem d_Mo_touch_21 : decode prog_9_method_14_code 21 = .ok (.baload, 1) := by decide +kernel
theorem d_Mo_touch_22 : decode prog_9_method_14_code 22 = .ok (.ifCond .eq 5, 3) := by decide +kernel
theorem d_Mo_touch_25 : decode prog_9_method_14_code 25 = .ok (.iconst 0, 1) := by decide +kernel
theorem d_Mo_touch_26 : decode prog_9_method_14_code 26 = .ok (.ireturn, 1) := by decide +kernel
theorem d_Mo_touch_27 : decode prog_9_method_14_code 27 = .ok (.aload_n 0, 1) := by decide +kernel
theorem d_Mo_touch_28 : decode prog_9_method_14_code 28 = .ok (.getfield 36, 3) := by decide +kernel
theorem d_Mo_touch_31 : decode prog_9_method_14_code 31 = .ok (.iload_n 1, 1) := by decide +kernel
theorem d_Mo_touch_32 : decode prog_9_method_14_code 32 = .ok (.iconst 1, 1) := by decide +kernel
theorem d_Mo_touch_33 : decode prog_9_method_14_code 33 = .ok (.bastore, 1) := by decide +kernel
theorem d_Mo_touch_34 : decode prog_9_method_14_code 34 = .ok (.iconst 1, 1) := by decide +kernel
theorem d_Mo_touch_35 : decode prog_9_method_14_code 35 = .ok (.ireturn, 1) := by decide +kernel
theorem d_Mo_mark_0 : decode prog_9_method_16_code 0 = .ok (.aload_n 0, 1) := by decide +kernel
theorem d_Mo_mark_1 : decode prog_9_method_16_code 1 = .ok (.iconst 0, 1) := by decide +kernel
theorem d_Mo_mark_2 : decode prog_9_method_16_code 2 = .ok (.putfield 46, 3) := by decide +kernel
theorem d_Mo_mark_5 : decode prog_9_method_16_code 5 = .ok (.aload_n 0, 1) := by decide +kernel
theorem d_Mo_mark_6 : decode prog_9_method_16_code 6 = .ok (.invokevirtual 98, 3) := by decide +kernel
theorem d_Mo_mark_9 : decode prog_9_method_16_code 9 = .ok (.aload_n 0, 1) := by decide +kernel
theorem d_Mo_mark_10 : decode prog_9_method_16_code 10 = .ok (.getfield 54, 3) := by decide +kernel
theorem d_Mo_mark_13 : decode prog_9_method_16_code 13 = .ok (.ireturn, 1) := by decide +kernel
theorem d_Mo_checkpoint_0 : decode prog_9_method_17_code 0 = .ok (.aload_n 0, 1) := by decide +kernel
theorem d_Mo_checkpoint_1 : decode prog_9_method_17_code 1 = .ok (.iconst 0, 1) := by decide +kernel
theorem d_Mo_checkpoint_2 : decode prog_9_method_17_code 2 = .ok (.putfield 46, 3) := by decide +kernel
theorem d_Mo_checkpoint_5 : decode prog_9_method_17_code 5 = .ok (.iload_n 1, 1) := by decide +kernel
theorem d_Mo_checkpoint_6 : decode prog_9_method_17_code 6 = .ok (.aload_n 0, 1) := by decide +kernel
theorem d_Mo_checkpoint_7 : decode prog_9_method_17_code 7 = .ok (.getfield 57, 3) := by decide +kernel
theorem d_Mo_checkpoint_10 : decode prog_9_method_17_code 10 = .ok (.if_icmp .ne 10, 3) := by decide +kernel
theorem d_Mo_checkpoint_13 : decode prog_9_method_17_code 13 = .ok (.aload_n 0, 1) := by decide +kernel
theorem d_Mo_checkpoint_14 : decode prog_9_method_17_code 14 = .ok (.getfield 60, 3) := by decide +kernel
theorem d_Mo_checkpoint_17 : decode prog_9_method_17_code 17 = .ok (.goto 4, 3) := by decide +kernel
theorem d_Mo_checkpoint_20 : decode prog_9_method_17_code 20 = .ok (.iconst (-1), 1) := by decide +kernel
theorem d_Mo_checkpoint_21 : decode prog_9_method_17_code 21 = .ok (.istore_n 2, 1) := by decide +kernel
theorem d_Mo_checkpoint_22 : decode prog_9_method_17_code 22 = .ok (.aload_n 0, 1) := by decide +kernel
theorem d_Mo_checkpoint_23 : decode prog_9_method_17_code 23 = .ok (.getfield 60, 3) := by decide +kernel
theorem d_Mo_checkpoint_26 : decode prog_9_method_17_code 26 = .ok (.istore_n 3, 1) := by decide +kernel
theorem d_Mo_checkpoint_27 : decode prog_9_method_17_code 27 = .ok (.iload_n 3, 1) := by decide +kernel
theorem d_Mo_checkpoint_28 : decode prog_9_method_17_code 28 = .ok (.aload_n 0, 1) := by decide +kernel
theorem d_Mo_checkpoint_29 : decode prog_9_method_17_code 29 = .ok (.getfield 63, 3) := by decide +kernel
theorem d_Mo_checkpoint_32 : decode prog_9_method_17_code 32 = .ok (.if_icmp .ge 27, 3) := by decide +kernel
theorem d_Mo_checkpoint_35 : decode prog_9_method_17_code 35 = .ok (.aload_n 0, 1) := by decide +kernel
theorem d_Mo_checkpoint_36 : decode prog_9_method_17_code 36 = .ok (.getfield 19, 3) := by decide +kernel
theorem d_Mo_checkpoint_39 : decode prog_9_method_17_code 39 = .ok (.iload_n 3, 1) := by decide +kernel
theorem d_Mo_checkpoint_40 : decode prog_9_method_17_code 40 = .ok (.iaload, 1) := by decide +kernel
theorem d_Mo_checkpoint_41 : decode prog_9_method_17_code 41 = .ok (.iload_n 1, 1) := by decide +kernel
theorem d_Mo_checkpoint_42 : decode prog_9_method_17_code 42 = .ok (.if_icmp .ne 9, 3) := by decide +kernel
theorem d_Mo_checkpoint_45 : decode prog_9_method_17_code 45 = .ok (.iload_n 3, 1) := by decide +kernel
theorem d_Mo_checkpoint_46 : decode prog_9_method_17_code 46 = .ok (.iconst 1, 1) := by decide +kernel
theorem d_Mo_checkpoint_47 : decode prog_9_method_17_code 47 = .ok (.iadd, 1) := by decide +kernel
theorem d_Mo_checkpoint_48 : decode prog_9_method_17_code 48 = .ok (.goto 4, 3) := by decide +kernel
theorem d_Mo_checkpoint_51 : decode prog_9_method_17_code 51 = .ok (.iload_n 2, 1) := by decide +kernel
theorem d_Mo_checkpoint_52 : decode prog_9_method_17_code 52 = .ok (.istore_n 2, 1) := by decide +kernel
theorem d_Mo_checkpoint_53 : decode prog_9_method_17_code 53 = .ok (.iinc 3 1, 3) := by decide +kernel
theorem d_Mo_checkpoint_56 : decode prog_9_method_17_code 56 = .ok (.goto (-29), 3) := by decide +kernel
theorem d_Mo_checkpoint_59 : decode prog_9_method_17_code 59 = .ok (.iload_n 2, 1) := by decide +kernel
theorem d_Mo_checkpoint_60 : decode prog_9_method_17_code 60 = .ok (.ifCond .lt 11, 3) := by decide +kernel
theorem d_Mo_checkpoint_63 : decode prog_9_method_17_code 63 = .ok (.iload_n 1, 1) := by decide +kernel
theorem d_Mo_checkpoint_64 : decode prog_9_method_17_code 64 = .ok (.aload_n 0, 1) := by decide +kernel
theorem d_Mo_checkpoint_65 : decode prog_9_method_17_code 65 = .ok (.getfield 91, 3) := by decide +kernel
theorem d_Mo_checkpoint_68 : decode prog_9_method_17_code 68 = .ok (.if_icmp .le 9, 3) := by decide +kernel
theorem d_Mo_checkpoint_71 : decode prog_9_method_17_code 71 = .ok (.aload_n 0, 1) := by decide +kernel
theorem d_Mo_checkpoint_72 : decode prog_9_method_17_code 72 = .ok (.iconst 1, 1) := by decide +kernel
theorem d_Mo_checkpoint_73 : decode prog_9_method_17_code 73 = .ok (.invokevirtual 72, 3) := by decide +kernel
theorem d_Mo_checkpoint_76 : decode prog_9_method_17_code 76 = .ok (.ireturn, 1) := by decide +kernel
theorem d_Mo_checkpoint_77 : decode prog_9_method_17_code 77 = .ok (.aload_n 0, 1) := by decide +kernel
theorem d_Mo_checkpoint_78 : decode prog_9_method_17_code 78 = .ok (.invokevirtual 94, 3) := by decide +kernel
theorem d_Mo_checkpoint_81 : decode prog_9_method_17_code 81 = .ok (.ifCond .ne 9, 3) := by decide +kernel
theorem d_Mo_checkpoint_84 : decode prog_9_method_17_code 84 = .ok (.aload_n 0, 1) := by decide +kernel
theorem d_Mo_checkpoint_85 : decode prog_9_method_17_code 85 = .ok (.iconst 2, 1) := by decide +kernel
theorem d_Mo_checkpoint_86 : decode prog_9_method_17_code 86 = .ok (.invokevirtual 72, 3) := by decide +kernel
theorem d_Mo_checkpoint_89 : decode prog_9_method_17_code 89 = .ok (.ireturn, 1) := by decide +kernel
theorem d_Mo_checkpoint_90 : decode prog_9_method_17_code 90 = .ok (.aload_n 0, 1) := by decide +kernel
theorem d_Mo_checkpoint_91 : decode prog_9_method_17_code 91 = .ok (.iload_n 1, 1) := by decide +kernel
theorem d_Mo_checkpoint_92 : decode prog_9_method_17_code 92 = .ok (.putfield 57, 3) := by decide +kernel
theorem d_Mo_checkpoint_95 : decode prog_9_method_17_code 95 = .ok (.aload_n 0, 1) := by decide +kernel
theorem d_Mo_checkpoint_96 : decode prog_9_method_17_code 96 = .ok (.iload_n 2, 1) := by decide +kernel
theorem d_Mo_checkpoint_97 : decode prog_9_method_17_code 97 = .ok (.putfield 60, 3) := by decide +kernel
theorem d_Mo_checkpoint_100 : decode prog_9_method_17_code 100 = .ok (.aload_n 0, 1) := by decide +kernel
theorem d_Mo_checkpoint_101 : decode prog_9_method_17_code 101 = .ok (.aload_n 0, 1) := by decide +kernel
theorem d_Mo_checkpoint_102 : decode prog_9_method_17_code 102 = .ok (.getfield 60, 3) := by decide +kernel
theorem d_Mo_checkpoint_105 : decode prog_9_method_17_code 105 = .ok (.iconst 1, 1) := by decide +kernel
theorem d_Mo_checkpoint_106 : decode prog_9_method_17_code 106 = .ok (.isub, 1) := by decide +kernel
theorem d_Mo_checkpoint_107 : decode prog_9_method_17_code 107 = .ok (.putfield 40, 3) := by decide +kernel
theorem d_Mo_checkpoint_110 : decode prog_9_method_17_code 110 = .ok (.aload_n 0, 1) := by decide +kernel
theorem d_Mo_checkpoint_111 : decode prog_9_method_17_code 111 = .ok (.getfield 43, 3) := by decide +kernel
theorem d_Mo_checkpoint_114 : decode prog_9_method_17_code 114 = .ok (.aload_n 0, 1) := by decide +kernel
theorem d_Mo_checkpoint_115 : decode prog_9_method_17_code 115 = .ok (.getfield 54, 3) := by decide +kernel
theorem d_Mo_checkpoint_118 : decode prog_9_method_17_code 118 = .ok (.sipush 500, 3) := by decide +kernel
theorem d_Mo_checkpoint_121 : decode prog_9_method_17_code 121 = .ok (.idiv, 1) := by decide +kernel
theorem d_Mo_checkpoint_122 : decode prog_9_method_17_code 122 = .ok (.aload_n 0, 1) := by decide +kernel
theorem d_Mo_checkpoint_123 : decode prog_9_method_17_code 123 = .ok (.getfield 57, 3) := by decide +kernel
theorem d_Mo_checkpoint_126 : decode prog_9_method_17_code 126 = .ok (.sipush 500, 3) := by decide +kernel
theorem d_Mo_checkpoint_129 : decode prog_9_method_17_code 129 = .ok (.idiv, 1) := by decide +kernel
theorem d_Mo_checkpoint_130 : decode prog_9_method_17_code 130 = .ok (.isub, 1) := by decide +kernel
theorem d_Mo_checkpoint_131 : decode prog_9_method_17_code 131 = .ok (.iconst 1, 1) := by decide +kernel
theorem d_Mo_checkpoint_132 : decode prog_9_method_17_code 132 = .ok (.iadd, 1) := by decide +kernel
theorem d_Mo_checkpoint_133 : decode prog_9_method_17_code 133 = .ok (.isub, 1) := by decide +kernel
theorem d_Mo_checkpoint_134 : decode prog_9_method_17_code 134 = .ok (.ireturn, 1) := by decide +kernel
theorem d_Mo_open_0 : decode prog_9_method_19_code 0 = .ok (.aload_n 0, 1) := by decide +kernel
theorem d_Mo_open_1 : decode prog_9_method_19_code 1 = .ok (.iconst 0, 1) := by decide +kernel
theorem d_Mo_open_2 : decode prog_9_method_19_code 2 = .ok (.putfield 46, 3) := by decide +kernel
theorem d_Mo_open_5 : decode prog_9_method_19_code 5 = .ok (.aload_n 0, 1) := by decide +kernel
theorem d_Mo_open_6 : decode prog_9_method_19_code 6 = .ok (.invokevirtual 84, 3) := by decide +kernel
theorem d_Mo_open_9 : decode prog_9_method_19_code 9 = .ok (.ireturn, 1) := by decide +kernel
theorem d_Mo_next_0 : decode prog_9_method_20_code 0 = .ok (.aload_n 0, 1) := by decide +kernel
theorem d_Mo_next_1 : decode prog_9_method_20_code 1 = .ok (.iconst 0, 1) := by decide +kernel
theorem d_Mo_next_2 : decode prog_9_method_20_code 2 = .ok (.putfield 46, 3) := by decide +kernel
theorem d_Mo_next_5 : decode prog_9_method_20_code 5 = .ok (.aload_n 0, 1) := by decide +kernel
theorem d_Mo_next_6 : decode prog_9_method_20_code 6 = .ok (.getfield 40, 3) := by decide +kernel
theorem d_Mo_next_9 : decode prog_9_method_20_code 9 = .ok (.iconst 1, 1) := by decide +kernel
theorem d_Mo_next_10 : decode prog_9_method_20_code 10 = .ok (.iadd, 1) := by decide +kernel
theorem d_Mo_next_11 : decode prog_9_method_20_code 11 = .ok (.aload_n 0, 1) := by decide +kernel
theorem d_Mo_next_12 : decode prog_9_method_20_code 12 = .ok (.getfield 63, 3) := by decide +kernel
theorem d_Mo_next_15 : decode prog_9_method_20_code 15 = .ok (.if_icmp .lt 9, 3) := by decide +kernel
theorem d_Mo_next_18 : decode prog_9_method_20_code 18 = .ok (.aload_n 0, 1) := by decide +kernel
theorem d_Mo_next_19 : decode prog_9_method_20_code 19 = .ok (.iconst 1, 1) := by decide +kernel
theorem d_Mo_next_20 : decode prog_9_method_20_code 20 = .ok (.invokevirtual 72, 3) := by decide +kernel
theorem d_Mo_next_23 : decode prog_9_method_20_code 23 = .ok (.ireturn, 1) := by decide +kernel
theorem d_Mo_next_24 : decode prog_9_method_20_code 24 = .ok (.aload_n 0, 1) := by decide +kernel
theorem d_Mo_next_25 : decode prog_9_method_20_code 25 = .ok (.dup, 1) := by decide +kernel
theorem d_Mo_next_26 : decode prog_9_method_20_code 26 = .ok (.getfield 40, 3) := by decide +kernel
theorem d_Mo_next_29 : decode prog_9_method_20_code 29 = .ok (.iconst 1, 1) := by decide +kernel
theorem d_Mo_next_30 : decode prog_9_method_20_code 30 = .ok (.iadd, 1) := by decide +kernel
theorem d_Mo_next_31 : decode prog_9_method_20_code 31 = .ok (.putfield 40, 3) := by decide +kernel
theorem d_Mo_next_34 : decode prog_9_method_20_code 34 = .ok (.aload_n 0, 1) := by decide +kernel
theorem d_Mo_next_35 : decode prog_9_method_20_code 35 = .ok (.getfield 7, 3) := by decide +kernel
theorem d_Mo_next_38 : decode prog_9_method_20_code 38 = .ok (.aload_n 0, 1) := by decide +kernel
theorem d_Mo_next_39 : decode prog_9_method_20_code 39 = .ok (.getfield 40, 3) := by decide +kernel
theorem d_Mo_next_42 : decode prog_9_method_20_code 42 = .ok (.iaload, 1) := by decide +kernel
theorem d_Mo_next_43 : decode prog_9_method_20_code 43 = .ok (.ireturn, 1) := by decide +kernel
theorem d_Mo_length_0 : decode prog_9_method_21_code 0 = .ok (.aload_n 0, 1) := by decide +kernel
theorem d_Mo_length_1 : decode prog_9_method_21_code 1 = .ok (.iconst 0, 1) := by decide +kernel
theorem d_Mo_length_2 : decode prog_9_method_21_code 2 = .ok (.putfield 46, 3) := by decide +kernel
theorem d_Mo_length_5 : decode prog_9_method_21_code 5 = .ok (.aload_n 0, 1) := by decide +kernel
theorem d_Mo_length_6 : decode prog_9_method_21_code 6 = .ok (.getfield 40, 3) := by decide +kernel
theorem d_Mo_length_9 : decode prog_9_method_21_code 9 = .ok (.aload_n 0, 1) := by decide +kernel
theorem d_Mo_length_10 : decode prog_9_method_21_code 10 = .ok (.getfield 60, 3) := by decide +kernel
theorem d_Mo_length_13 : decode prog_9_method_21_code 13 = .ok (.if_icmp .ge 7, 3) := by decide +kernel
theorem d_Mo_length_16 : decode prog_9_method_21_code 16 = .ok (.iconst (-1), 1) := by decide +kernel
theorem d_Mo_length_17 : decode prog_9_method_21_code 17 = .ok (.goto 12, 3) := by decide +kernel
theorem d_Mo_length_20 : decode prog_9_method_21_code 20 = .ok (.aload_n 0, 1) := by decide +kernel
theorem d_Mo_length_21 : decode prog_9_method_21_code 21 = .ok (.getfield 16, 3) := by decide +kernel
theorem d_Mo_length_24 : decode prog_9_method_21_code 24 = .ok (.aload_n 0, 1) := by decide +kernel
theorem d_Mo_length_25 : decode prog_9_method_21_code 25 = .ok (.getfield 40, 3) := by decide +kernel
theorem d_Mo_length_28 : decode prog_9_method_21_code 28 = .ok (.iaload, 1) := by decide +kernel
theorem d_Mo_length_29 : decode prog_9_method_21_code 29 = .ok (.ireturn, 1) := by decide +kernel
theorem d_Mo_byteOf_0 : decode prog_9_method_22_code 0 = .ok (.aload_n 0, 1) := by decide +kernel
theorem d_Mo_byteOf_1 : decode prog_9_method_22_code 1 = .ok (.iconst 0, 1) := by decide +kernel
theorem d_Mo_byteOf_2 : decode prog_9_method_22_code 2 = .ok (.putfield 46, 3) := by decide +kernel
theorem d_Mo_byteOf_5 : decode prog_9_method_22_code 5 = .ok (.aload_n 0, 1) := by decide +kernel
theorem d_Mo_byteOf_6 : decode prog_9_method_22_code 6 = .ok (.getfield 40, 3) := by decide +kernel
theorem d_Mo_byteOf_9 : decode prog_9_method_22_code 9 = .ok (.aload_n 0, 1) := by decide +kernel
theorem d_Mo_byteOf_10 : decode prog_9_method_22_code 10 = .ok (.getfield 60, 3) := by decide +kernel
theorem d_Mo_byteOf_13 : decode prog_9_method_22_code 13 = .ok (.if_icmp .lt 20, 3) := by decide +kernel
theorem d_Mo_byteOf_16 : decode prog_9_method_22_code 16 = .ok (.iload_n 1, 1) := by decide +kernel
theorem d_Mo_byteOf_17 : decode prog_9_method_22_code 17 = .ok (.ifCond .lt 16, 3) := by decide +kernel
theorem d_Mo_byteOf_20 : decode prog_9_method_22_code 20 = .ok (.iload_n 1, 1) := by decide +kernel
theorem d_Mo_byteOf_21 : decode prog_9_method_22_code 21 = .ok (.aload_n 0, 1) := by decide +kernel
theorem d_Mo_byteOf_22 : decode prog_9_method_22_code 22 = .ok (.getfield 16, 3) := by decide +kernel
theorem d_Mo_byteOf_25 : decode prog_9_method_22_code 25 = .ok (.aload_n 0, 1) := by decide +kernel
theorem d_Mo_byteOf_26 : decode prog_9_method_22_code 26 = .ok (.getfield 40, 3) := by decide +kernel
theorem d_Mo_byteOf_29 : decode prog_9_method_22_code 29 = .ok (.iaload, 1) := by decide +kernel
theorem d_Mo_byteOf_30 : decode prog_9_method_22_code 30 = .ok (.if_icmp .lt 7, 3) := by decide +kernel
theorem d_Mo_byteOf_33 : decode prog_9_method_22_code 33 = .ok (.iconst (-1), 1) := by decide +kernel
theorem d_Mo_byteOf_34 : decode prog_9_method_22_code 34 = .ok (.goto 23, 3) := by decide +kernel
theorem d_Mo_byteOf_37 : decode prog_9_method_22_code 37 = .ok (.aload_n 0, 1) := by decide +kernel
theorem d_Mo_byteOf_38 : decode prog_9_method_22_code 38 = .ok (.getfield 22, 3) := by decide +kernel
theorem d_Mo_byteOf_41 : decode prog_9_method_22_code 41 = .ok (.aload_n 0, 1) := by decide +kernel
theorem d_Mo_byteOf_42 : decode prog_9_method_22_code 42 = .ok (.getfield 13, 3) := by decide +kernel
theorem d_Mo_byteOf_45 : decode prog_9_method_22_code 45 = .ok (.aload_n 0, 1) := by decide +kernel
theorem d_Mo_byteOf_46 : decode prog_9_method_22_code 46 = .ok (.getfield 40, 3) := by decide +kernel
theorem d_Mo_byteOf_49 : decode prog_9_method_22_code 49 = .ok (.iaload, 1) := by decide +kernel
theorem d_Mo_byteOf_50 : decode prog_9_method_22_code 50 = .ok (.iload_n 1, 1) := by decide +kernel
theorem d_Mo_byteOf_51 : decode prog_9_method_22_code 51 = .ok (.iadd, 1) := by decide +kernel
theorem d_Mo_byteOf_52 : decode prog_9_method_22_code 52 = .ok (.baload, 1) := by decide +kernel
theorem d_Mo_byteOf_53 : decode prog_9_method_22_code 53 = .ok (.sipush 255, 3) := by decide +kernel
theorem d_Mo_byteOf_56 : decode prog_9_method_22_code 56 = .ok (.iand, 1) := by decide +kernel
theorem d_Mo_byteOf_57 : decode prog_9_method_22_code 57 = .ok (.ireturn, 1) := by decide +kernel
theorem d_Mo_charge_0 : decode prog_9_method_23_code 0 = .ok (.aload_n 0, 1) := by decide +kernel
theorem d_Mo_charge_1 : decode prog_9_method_23_code 1 = .ok (.iload_n 1, 1) := by decide +kernel
theorem d_Mo_charge_2 : decode prog_9_method_23_code 2 = .ok (.ifCond .lt 10, 3) := by decide +kernel
theorem d_Mo_charge_5 : decode prog_9_method_23_code 5 = .ok (.iload_n 1, 1) := by decide +kernel
theorem d_Mo_charge_6 : decode prog_9_method_23_code 6 = .ok (.sipush 999, 3) := by decide +kernel
theorem d_Mo_charge_9 : decode prog_9_method_23_code 9 = .ok (.if_icmp .le 7, 3) := by decide +kernel
theorem d_Mo_charge_12 : decode prog_9_method_23_code 12 = .ok (.iconst 1, 1) := by decide +kernel
theorem d_Mo_charge_13 : decode prog_9_method_23_code 13 = .ok (.goto 4, 3) := by decide +kernel
theorem d_Mo_charge_16 : decode prog_9_method_23_code 16 = .ok (.iconst 0, 1) := by decide +kernel
theorem d_Mo_charge_17 : decode prog_9_method_23_code 17 = .ok (.putfield 46, 3) := by decide +kernel
theorem d_Mo_charge_20 : decode prog_9_method_23_code 20 = .ok (.aload_n 0, 1) := by decide +kernel
theorem d_Mo_charge_21 : decode prog_9_method_23_code 21 = .ok (.aload_n 0, 1) := by decide +kernel
theorem d_Mo_charge_22 : decode prog_9_method_23_code 22 = .ok (.getfield 46, 3) := by decide +kernel
theorem d_Mo_charge_25 : decode prog_9_method_23_code 25 = .ok (.ifCond .ne 7, 3) := by decide +kernel
theorem d_Mo_charge_28 : decode prog_9_method_23_code 28 = .ok (.iload_n 1, 1) := by decide +kernel
theorem d_Mo_charge_29 : decode prog_9_method_23_code 29 = .ok (.goto 7, 3) := by decide +kernel
theorem d_Mo_charge_32 : decode prog_9_method_23_code 32 = .ok (.aload_n 0, 1) := by decide +kernel
theorem d_Mo_charge_33 : decode prog_9_method_23_code 33 = .ok (.getfield 29, 3) := by decide +kernel
theorem d_Mo_charge_36 : decode prog_9_method_23_code 36 = .ok (.putfield 29, 3) := by decide +kernel
theorem d_Mo_charge_39 : decode prog_9_method_23_code 39 = .ok (.return_, 1) := by decide +kernel
theorem d_Mo_state_0 : decode prog_9_method_24_code 0 = .ok (.aload_n 0, 1) := by decide +kernel
theorem d_Mo_state_1 : decode prog_9_method_24_code 1 = .ok (.iconst 0, 1) := by decide +kernel
theorem d_Mo_state_2 : decode prog_9_method_24_code 2 = .ok (.putfield 46, 3) := by decide +kernel
theorem d_Mo_state_5 : decode prog_9_method_24_code 5 = .ok (.iconst 0, 1) := by decide +kernel
theorem d_Mo_state_6 : decode prog_9_method_24_code 6 = .ok (.istore_n 2, 1) := by decide +kernel
theorem d_Mo_state_7 : decode prog_9_method_24_code 7 = .ok (.iconst 0, 1) := by decide +kernel
theorem d_Mo_state_8 : decode prog_9_method_24_code 8 = .ok (.istore_n 3, 1) := by decide +kernel
theorem d_Mo_state_9 : decode prog_9_method_24_code 9 = .ok (.iload_n 3, 1) := by decide +kernel
theorem d_Mo_state_10 : decode prog_9_method_24_code 10 = .ok (.bipush 6, 2) := by decide +kernel
theorem d_Mo_state_12 : decode prog_9_method_24_code 12 = .ok (.if_icmp .ge 26, 3) := by decide +kernel
theorem d_Mo_state_15 : decode prog_9_method_24_code 15 = .ok (.iload_n 2, 1) := by decide +kernel
theorem d_Mo_state_16 : decode prog_9_method_24_code 16 = .ok (.aload_n 0, 1) := by decide +kernel
theorem d_Mo_state_17 : decode prog_9_method_24_code 17 = .ok (.getfield 33, 3) := by decide +kernel
theorem d_Mo_state_20 : decode prog_9_method_24_code 20 = .ok (.iload_n 3, 1) := by decide +kernel
theorem d_Mo_state_21 : decode prog_9_method_24_code 21 = .ok (.iaload, 1) := by decide +kernel
theorem d_Mo_state_22 : decode prog_9_method_24_code 22 = .ok (.ifCond .lt 7, 3) := by decide +kernel
theorem d_Mo_state_25 : decode prog_9_method_24_code 25 = .ok (.iconst 1, 1) := by decide +kernel
theorem d_Mo_state_26 : decode prog_9_method_24_code 26 = .ok (.goto 4, 3) := by decide +kernel
theorem d_Mo_state_29 : decode prog_9_method_24_code 29 = .ok (.iconst 0, 1) := by decide +kernel
theorem d_Mo_state_30 : decode prog_9_method_24_code 30 = .ok (.iadd, 1) := by decide +kernel
theorem d_Mo_state_31 : decode prog_9_method_24_code 31 = .ok (.istore_n 2, 1) := by decide +kernel
theorem d_Mo_state_32 : decode prog_9_method_24_code 32 = .ok (.iinc 3 1, 3) := by decide +kernel
theorem d_Mo_state_35 : decode prog_9_method_24_code 35 = .ok (.goto (-26), 3) := by decide +kernel
theorem d_Mo_state_38 : decode prog_9_method_24_code 38 = .ok (.iconst 0, 1) := by decide +kernel
theorem d_Mo_state_39 : decode prog_9_method_24_code 39 = .ok (.istore_n 3, 1) := by decide +kernel
theorem d_Mo_state_40 : decode prog_9_method_24_code 40 = .ok (.iconst 0, 1) := by decide +kernel
theorem d_Mo_state_41 : decode prog_9_method_24_code 41 = .ok (.istore 4, 2) := by decide +kernel
theorem d_Mo_state_43 : decode prog_9_method_24_code 43 = .ok (.iload 4, 2) := by decide +kernel
theorem d_Mo_state_45 : decode prog_9_method_24_code 45 = .ok (.sipush 2048, 3) := by decide +kernel
theorem d_Mo_state_48 : decode prog_9_method_24_code 48 = .ok (.if_icmp .ge 27, 3) := by decide +kernel
theorem d_Mo_state_51 : decode prog_9_method_24_code 51 = .ok (.iload_n 3, 1) := by decide +kernel
theorem d_Mo_state_52 : decode prog_9_method_24_code 52 = .ok (.aload_n 0, 1) := by decide +kernel
theorem d_Mo_state_53 : decode prog_9_method_24_code 53 = .ok (.getfield 36, 3) := by decide +kernel
theorem d_Mo_state_56 : decode prog_9_method_24_code 56 = .ok (.iload 4, 2) := by decide +kernel
theorem d_Mo_state_58 : decode prog_9_method_24_code 58 = .ok (.baload, 1) := by decide +kernel
theorem d_Mo_state_59 : decode prog_9_method_24_code 59 = .ok (.ifCond .eq 7, 3) := by decide +kernel
theorem d_Mo_state_62 : decode prog_9_method_24_code 62 = .ok (.iconst 1, 1) := by decide +kernel
theorem d_Mo_state_63 : decode prog_9_method_24_code 63 = .ok (.goto 4, 3) := by decide +kernel
theorem d_Mo_state_66 : decode prog_9_method_24_code 66 = .ok (.iconst 0, 1) := by decide +kernel
theorem d_Mo_state_67 : decode prog_9_method_24_code 67 = .ok (.iadd, 1) := by decide +kernel
theorem d_Mo_state_68 : decode prog_9_method_24_code 68 = .ok (.istore_n 3, 1) := by decide +kernel
theorem d_Mo_state_69 : decode prog_9_method_24_code 69 = .ok (.iinc 4 1, 3) := by decide +kernel
theorem d_Mo_state_72 : decode prog_9_method_24_code 72 = .ok (.goto (-29), 3) := by decide +kernel
theorem d_Mo_state_75 : decode prog_9_method_24_code 75 = .ok (.iload_n 1, 1) := by decide +kernel
theorem d_Mo_state_76 : decode prog_9_method_24_code 76 = .ok (.bipush 7, 2) := by decide +kernel
theorem d_Mo_state_78 : decode prog_9_method_24_code 78 = .ok (.if_icmp .ne 28, 3) := by decide +kernel
theorem d_Mo_state_81 : decode prog_9_method_24_code 81 = .ok (.aload_n 0, 1) := by decide +kernel
theorem d_Mo_state_82 : decode prog_9_method_24_code 82 = .ok (.getfield 40, 3) := by decide +kernel
theorem d_Mo_state_85 : decode prog_9_method_24_code 85 = .ok (.aload_n 0, 1) := by decide +kernel
theorem d_Mo_state_86 : decode prog_9_method_24_code 86 = .ok (.getfield 60, 3) := by decide +kernel
theorem d_Mo_state_89 : decode prog_9_method_24_code 89 = .ok (.if_icmp .ge 7, 3) := by decide +kernel
theorem d_Mo_state_92 : decode prog_9_method_24_code 92 = .ok (.iconst (-1), 1) := by decide +kernel
theorem d_Mo_state_93 : decode prog_9_method_24_code 93 = .ok (.goto 12, 3) := by decide +kernel
theorem d_Mo_state_96 : decode prog_9_method_24_code 96 = .ok (.aload_n 0, 1) := by decide +kernel
theorem d_Mo_state_97 : decode prog_9_method_24_code 97 = .ok (.getfield 19, 3) := by decide +kernel
theorem d_Mo_state_100 : decode prog_9_method_24_code 100 = .ok (.aload_n 0, 1) := by decide +kernel
theorem d_Mo_state_101 : decode prog_9_method_24_code 101 = .ok (.getfield 40, 3) := by decide +kernel
theorem d_Mo_state_104 : decode prog_9_method_24_code 104 = .ok (.iaload, 1) := by decide +kernel
theorem d_Mo_state_105 : decode prog_9_method_24_code 105 = .ok (.ireturn, 1) := by decide +kernel
theorem d_Mo_state_106 : decode prog_9_method_24_code 106 = .ok (.iload_n 1, 1) := by decide +kernel
theorem d_Mo_state_107 : decode prog_9_method_24_code 107 = .ok (.ifCond .ne 10, 3) := by decide +kernel
theorem d_Mo_state_110 : decode prog_9_method_24_code 110 = .ok (.aload_n 0, 1) := by decide +kernel
theorem d_Mo_state_111 : decode prog_9_method_24_code 111 = .ok (.getfield 57, 3) := by decide +kernel
theorem d_Mo_state_114 : decode prog_9_method_24_code 114 = .ok (.goto 71, 3) := by decide +kernel
theorem d_Mo_state_117 : decode prog_9_method_24_code 117 = .ok (.iload_n 1, 1) := by decide +kernel
theorem d_Mo_state_118 : decode prog_9_method_24_code 118 = .ok (.iconst 1, 1) := by decide +kernel
theorem d_Mo_state_119 : decode prog_9_method_24_code 119 = .ok (.if_icmp .ne 10, 3) := by decide +kernel
theorem d_Mo_state_122 : decode prog_9_method_24_code 122 = .ok (.aload_n 0, 1) := by decide +kernel
theorem d_Mo_state_123 : decode prog_9_method_24_code 123 = .ok (.getfield 54, 3) := by decide +kernel
theorem d_Mo_state_126 : decode prog_9_method_24_code 126 = .ok (.goto 59, 3) := by decide +kernel
theorem d_Mo_state_129 : decode prog_9_method_24_code 129 = .ok (.iload_n 1, 1) := by decide +kernel
theorem d_Mo_state_130 : decode prog_9_method_24_code 130 = .ok (.iconst 2, 1) := by decide +kernel
theorem d_Mo_state_131 : decode prog_9_method_24_code 131 = .ok (.if_icmp .ne 10, 3) := by decide +kernel
theorem d_Mo_state_134 : decode prog_9_method_24_code 134 = .ok (.aload_n 0, 1) := by decide +kernel
theorem d_Mo_state_135 : decode prog_9_method_24_code 135 = .ok (.getfield 91, 3) := by decide +kernel
theorem d_Mo_state_138 : decode prog_9_method_24_code 138 = .ok (.goto 47, 3) := by decide +kernel
theorem d_Mo_state_141 : decode prog_9_method_24_code 141 = .ok (.iload_n 1, 1) := by decide +kernel
theorem d_Mo_state_142 : decode prog_9_method_24_code 142 = .ok (.iconst 3, 1) := by decide +kernel
theorem d_Mo_state_143 : decode prog_9_method_24_code 143 = .ok (.if_icmp .ne 10, 3) := by decide +kernel
theorem d_Mo_state_146 : decode prog_9_method_24_code 146 = .ok (.aload_n 0, 1) := by decide +kernel
theorem d_Mo_state_147 : decode prog_9_method_24_code 147 = .ok (.getfield 88, 3) := by decide +kernel
theorem d_Mo_state_150 : decode prog_9_method_24_code 150 = .ok (.goto 35, 3) := by decide +kernel
theorem d_Mo_state_153 : decode prog_9_method_24_code 153 = .ok (.iload_n 1, 1) := by decide +kernel
theorem d_Mo_state_154 : decode prog_9_method_24_code 154 = .ok (.iconst 4, 1) := by decide +kernel
theorem d_Mo_state_155 : decode prog_9_method_24_code 155 = .ok (.if_icmp .ne 10, 3) := by decide +kernel
theorem d_Mo_state_158 : decode prog_9_method_24_code 158 = .ok (.aload_n 0, 1) := by decide +kernel
theorem d_Mo_state_159 : decode prog_9_method_24_code 159 = .ok (.getfield 49, 3) := by decide +kernel
theorem d_Mo_state_162 : decode prog_9_method_24_code 162 = .ok (.goto 23, 3) := by decide +kernel
theorem d_Mo_state_165 : decode prog_9_method_24_code 165 = .ok (.iload_n 1, 1) := by decide +kernel
theorem d_Mo_state_166 : decode prog_9_method_24_code 166 = .ok (.iconst 5, 1) := by decide +kernel
theorem d_Mo_state_167 : decode prog_9_method_24_code 167 = .ok (.if_icmp .ne 7, 3) := by decide +kernel
theorem d_Mo_state_170 : decode prog_9_method_24_code 170 = .ok (.iload_n 2, 1) := by decide +kernel
theorem d_Mo_state_171 : decode prog_9_method_24_code 171 = .ok (.goto 14, 3) := by decide +kernel
theorem d_Mo_state_174 : decode prog_9_method_24_code 174 = .ok (.iload_n 1, 1) := by decide +kernel
theorem d_Mo_state_175 : decode prog_9_method_24_code 175 = .ok (.bipush 6, 2) := by decide +kernel
theorem d_Mo_state_177 : decode prog_9_method_24_code 177 = .ok (.if_icmp .ne 7, 3) := by decide +kernel
theorem d_Mo_state_180 : decode prog_9_method_24_code 180 = .ok (.iload_n 3, 1) := by decide +kernel
theorem d_Mo_state_181 : decode prog_9_method_24_code 181 = .ok (.goto 4, 3) := by decide +kernel
theorem d_Mo_state_184 : decode prog_9_method_24_code 184 = .ok (.iconst (-1), 1) := by decide +kernel
theorem d_Mo_state_185 : decode prog_9_method_24_code 185 = .ok (.ireturn, 1) := by decide +kernel
end
section
theorem d_La_cell_0 : decode method_2_code 0 = .ok (.iload_n 1, 1) := by decide +kernel
theorem d_La_cell_1 : decode method_2_code 1 = .ok (.aload_n 0, 1) := by decide +kernel
theorem d_La_cell_2 : decode method_2_code 2 = .ok (.arraylength, 1) := by decide +kernel
theorem d_La_cell_3 : decode method_2_code 3 = .ok (.if_icmp .ge 9, 3) := by decide +kernel
theorem d_La_cell_6 : decode method_2_code 6 = .ok (.aload_n 0, 1) := by decide +kernel
theorem d_La_cell_7 : decode method_2_code 7 = .ok (.iload_n 1, 1) := by decide +kernel
theorem d_La_cell_8 : decode method_2_code 8 = .ok (.iaload, 1) := by decide +kernel
theorem d_La_cell_9 : decode method_2_code 9 = .ok (.goto 4, 3) := by decide +kernel
theorem d_La_cell_12 : decode method_2_code 12 = .ok (.iconst 0, 1) := by decide +kernel
theorem d_La_cell_13 : decode method_2_code 13 = .ok (.ireturn, 1) := by decide +kernel
theorem d_La_append_0 : decode method_3_code 0 = .ok (.aload_n 2, 1) := by decide +kernel
theorem d_La_append_1 : decode method_3_code 1 = .ok (.iconst 0, 1) := by decide +kernel
theorem d_La_append_2 : decode method_3_code 2 = .ok (.aload_n 0, 1) := by decide +kernel
theorem d_La_append_3 : decode method_3_code 3 = .ok (.iload_n 1, 1) := by decide +kernel
theorem d_La_append_4 : decode method_3_code 4 = .ok (.invokevirtual 7, 3) := by decide +kernel
theorem d_La_append_7 : decode method_3_code 7 = .ok (.i2l, 1) := by decide +kernel
theorem d_La_append_8 : decode method_3_code 8 = .ok (.lastore, 1) := by decide +kernel
theorem d_La_append_9 : decode method_3_code 9 = .ok (.goto 9, 3) := by decide +kernel
theorem d_La_append_12 : decode method_3_code 12 = .ok (.astore_n 3, 1) := by decide +kernel
theorem d_La_append_13 : decode method_3_code 13 = .ok (.iconst 1, 1) := by decide +kernel
theorem d_La_append_14 : decode method_3_code 14 = .ok (.ireturn, 1) := by decide +kernel
theorem d_La_append_15 : decode method_3_code 15 = .ok (.astore_n 3, 1) := by decide +kernel
theorem d_La_append_16 : decode method_3_code 16 = .ok (.iconst 2, 1) := by decide +kernel
theorem d_La_append_17 : decode method_3_code 17 = .ok (.ireturn, 1) := by decide +kernel
theorem d_La_append_18 : decode method_3_code 18 = .ok (.iconst 0, 1) := by decide +kernel
theorem d_La_append_19 : decode method_3_code 19 = .ok (.ireturn, 1) := by decide +kernel
theorem d_La_commit_0 : decode method_4_code 0 = .ok (.aload_n 2, 1) := by decide +kernel
theorem d_La_commit_1 : decode method_4_code 1 = .ok (.iconst 0, 1) := by decide +kernel
theorem d_La_commit_2 : decode method_4_code 2 = .ok (.aload_n 0, 1) := by decide +kernel
theorem d_La_commit_3 : decode method_4_code 3 = .ok (.iload_n 1, 1) := by decide +kernel
theorem d_La_commit_4 : decode method_4_code 4 = .ok (.invokevirtual 17, 3) := by decide +kernel
theorem d_La_commit_7 : decode method_4_code 7 = .ok (.i2l, 1) := by decide +kernel
theorem d_La_commit_8 : decode method_4_code 8 = .ok (.lastore, 1) := by decide +kernel
theorem d_La_commit_9 : decode method_4_code 9 = .ok (.goto 9, 3) := by decide +kernel
theorem d_La_commit_12 : decode method_4_code 12 = .ok (.astore_n 3, 1) := by decide +kernel
theorem d_La_commit_13 : decode method_4_code 13 = .ok (.iconst 1, 1) := by decide +kernel
theorem d_La_commit_14 : decode method_4_code 14 = .ok (.ireturn, 1) := by decide +kernel
theorem d_La_commit_15 : decode method_4_code 15 = .ok (.astore_n 3, 1) := by decide +kernel
theorem d_La_commit_16 : decode method_4_code 16 = .ok (.iconst 2, 1) := by decide +kernel
theorem d_La_commit_17 : decode method_4_code 17 = .ok (.ireturn, 1) := by decide +kernel
theorem d_La_commit_18 : decode method_4_code 18 = .ok (.iconst 0, 1) := by decide +kernel
theorem d_La_commit_19 : decode method_4_code 19 = .ok (.ireturn, 1) := by decide +kernel
theorem d_La_flush_0 : decode method_5_code 0 = .ok (.aload_n 2, 1) := by decide +kernel
theorem d_La_flush_1 : decode method_5_code 1 = .ok (.iconst 0, 1) := by decide +kernel
theorem d_La_flush_2 : decode method_5_code 2 = .ok (.aload_n 0, 1) := by decide +kernel
theorem d_La_flush_3 : decode method_5_code 3 = .ok (.iload_n 1, 1) := by decide +kernel
theorem d_La_flush_4 : decode method_5_code 4 = .ok (.invokevirtual 20, 3) := by decide +kernel
theorem d_La_flush_7 : decode method_5_code 7 = .ok (.i2l, 1) := by decide +kernel
theorem d_La_flush_8 : decode method_5_code 8 = .ok (.lastore, 1) := by decide +kernel
theorem d_La_flush_9 : decode method_5_code 9 = .ok (.goto 9, 3) := by decide +kernel
theorem d_La_flush_12 : decode method_5_code 12 = .ok (.astore_n 3, 1) := by decide +kernel
theorem d_La_flush_13 : decode method_5_code 13 = .ok (.iconst 1, 1) := by decide +kernel
theorem d_La_flush_14 : decode method_5_code 14 = .ok (.ireturn, 1) := by decide +kernel
theorem d_La_flush_15 : decode method_5_code 15 = .ok (.astore_n 3, 1) := by decide +kernel
theorem d_La_flush_16 : decode method_5_code 16 = .ok (.iconst 2, 1) := by decide +kernel
theorem d_La_flush_17 : decode method_5_code 17 = .ok (.ireturn, 1) := by decide +kernel
theorem d_La_flush_18 : decode method_5_code 18 = .ok (.iconst 0, 1) := by decide +kernel
theorem d_La_flush_19 : decode method_5_code 19 = .ok (.ireturn, 1) := by decide +kernel
theorem d_La_checkpoint_0 : decode method_6_code 0 = .ok (.aload_n 2, 1) := by decide +kernel
theorem d_La_checkpoint_1 : decode method_6_code 1 = .ok (.iconst 0, 1) := by decide +kernel
theorem d_La_checkpoint_2 : decode method_6_code 2 = .ok (.aload_n 0, 1) := by decide +kernel
theorem d_La_checkpoint_3 : decode method_6_code 3 = .ok (.iload_n 1, 1) := by decide +kernel
theorem d_La_checkpoint_4 : decode method_6_code 4 = .ok (.invokevirtual 25, 3) := by decide +kernel
theorem d_La_checkpoint_7 : decode method_6_code 7 = .ok (.i2l, 1) := by decide +kernel
theorem d_La_checkpoint_8 : decode method_6_code 8 = .ok (.lastore, 1) := by decide +kernel
theorem d_La_checkpoint_9 : decode method_6_code 9 = .ok (.goto 9, 3) := by decide +kernel
theorem d_La_checkpoint_12 : decode method_6_code 12 = .ok (.astore_n 3, 1) := by decide +kernel
theorem d_La_checkpoint_13 : decode method_6_code 13 = .ok (.iconst 1, 1) := by decide +kernel
theorem d_La_checkpoint_14 : decode method_6_code 14 = .ok (.ireturn, 1) := by decide +kernel
theorem d_La_checkpoint_15 : decode method_6_code 15 = .ok (.astore_n 3, 1) := by decide +kernel
theorem d_La_checkpoint_16 : decode method_6_code 16 = .ok (.iconst 2, 1) := by decide +kernel
theorem d_La_checkpoint_17 : decode method_6_code 17 = .ok (.ireturn, 1) := by decide +kernel
theorem d_La_checkpoint_18 : decode method_6_code 18 = .ok (.iconst 0, 1) := by decide +kernel
theorem d_La_checkpoint_19 : decode method_6_code 19 = .ok (.ireturn, 1) := by decide +kernel
theorem d_La_next_0 : decode method_7_code 0 = .ok (.aload_n 1, 1) := by decide +kernel
theorem d_La_next_1 : decode method_7_code 1 = .ok (.iconst 0, 1) := by decide +kernel
theorem d_La_next_2 : decode method_7_code 2 = .ok (.aload_n 0, 1) := by decide +kernel
theorem d_La_next_3 : decode method_7_code 3 = .ok (.invokevirtual 28, 3) := by decide +kernel
theorem d_La_next_6 : decode method_7_code 6 = .ok (.i2l, 1) := by decide +kernel
theorem d_La_next_7 : decode method_7_code 7 = .ok (.lastore, 1) := by decide +kernel
theorem d_La_next_8 : decode method_7_code 8 = .ok (.goto 6, 3) := by decide +kernel
theorem d_La_next_11 : decode method_7_code 11 = .ok (.astore_n 2, 1) := by decide +kernel
theorem d_La_next_12 : decode method_7_code 12 = .ok (.iconst 1, 1) := by decide +kernel
theorem d_La_next_13 : decode method_7_code 13 = .ok (.ireturn, 1) := by decide +kernel
theorem d_La_next_14 : decode method_7_code 14 = .ok (.iconst 0, 1) := by decide +kernel
theorem d_La_next_15 : decode method_7_code 15 = .ok (.ireturn, 1) := by decide +kernel
theorem d_La_charge_0 : decode method_8_code 0 = .ok (.aload_n 0, 1) := by decide +kernel
theorem d_La_charge_1 : decode method_8_code 1 = .ok (.iload_n 1, 1) := by decide +kernel
theorem d_La_charge_2 : decode method_8_code 2 = .ok (.invokevirtual 34, 3) := by decide +kernel
theorem d_La_charge_5 : decode method_8_code 5 = .ok (.goto 6, 3) := by decide +kernel
theorem d_La_charge_8 : decode method_8_code 8 = .ok (.astore_n 2, 1) := by decide +kernel
theorem d_La_charge_9 : decode method_8_code 9 = .ok (.iconst 1, 1) := by decide +kernel
theorem d_La_charge_10 : decode method_8_code 10 = .ok (.ireturn, 1) := by decide +kernel
theorem d_La_charge_11 : decode method_8_code 11 = .ok (.iconst 0, 1) := by decide +kernel
theorem d_La_charge_12 : decode method_8_code 12 = .ok (.ireturn, 1) := by decide +kernel
theorem d_La_law_0 : decode code 0 = .ok (.new 8, 3) := by decide +kernel
theorem d_La_law_3 : decode code 3 = .ok (.dup, 1) := by decide +kernel
theorem d_La_law_4 : decode code 4 = .ok (.aload_n 0, 1) := by decide +kernel
theorem d_La_law_5 : decode code 5 = .ok (.iconst 0, 1) := by decide +kernel
theorem d_La_law_6 : decode code 6 = .ok (.invokestatic 38, 3) := by decide +kernel
theorem d_La_law_9 : decode code 9 = .ok (.invokespecial 44, 3) := by decide +kernel
theorem d_La_law_12 : decode code 12 = .ok (.astore_n 1, 1) := by decide +kernel
theorem d_La_law_13 : decode code 13 = .ok (.new 46, 3) := by decide +kernel
theorem d_La_law_16 : decode code 16 = .ok (.dup, 1) := by decide +kernel
theorem d_La_law_17 : decode code 17 = .ok (.aload_n 0, 1) := by decide +kernel
theorem d_La_law_18 : decode code 18 = .ok (.iconst 0, 1) := by decide +kernel
theorem d_La_law_19 : decode code 19 = .ok (.invokestatic 38, 3) := by decide +kernel
theorem d_La_law_22 : decode code 22 = .ok (.invokespecial 48, 3) := by decide +kernel
theorem d_La_law_25 : decode code 25 = .ok (.astore_n 2, 1) := by decide +kernel
theorem d_La_law_26 : decode code 26 = .ok (.iconst 1, 1) := by decide +kernel
theorem d_La_law_27 : decode code 27 = .ok (.newarray .long, 2) := by decide +kernel
theorem d_La_law_29 : decode code 29 = .ok (.astore_n 3, 1) := by decide +kernel
theorem d_La_law_30 : decode code 30 = .ok (.iconst 1, 1) := by decide +kernel
theorem d_La_law_31 : decode code 31 = .ok (.istore 4, 2) := by decide +kernel
theorem d_La_law_33 : decode code 33 = .ok (.iload 4, 2) := by decide +kernel
theorem d_La_law_35 : decode code 35 = .ok (.aload_n 0, 1) := by decide +kernel
theorem d_La_law_36 : decode code 36 = .ok (.arraylength, 1) := by decide +kernel
theorem d_La_law_37 : decode code 37 = .ok (.iconst 4, 1) := by decide +kernel
theorem d_La_law_38 : decode code 38 = .ok (.isub, 1) := by decide +kernel
theorem d_La_law_39 : decode code 39 = .ok (.if_icmp .gt 628, 3) := by decide +kernel
theorem d_La_law_42 : decode code 42 = .ok (.aload_n 0, 1) := by decide +kernel
theorem d_La_law_43 : decode code 43 = .ok (.iload 4, 2) := by decide +kernel
theorem d_La_law_45 : decode code 45 = .ok (.iaload, 1) := by decide +kernel
theorem d_La_law_46 : decode code 46 = .ok (.bipush 15, 2) := by decide +kernel
theorem d_La_law_48 : decode code 48 = .ok (.iand, 1) := by decide +kernel
theorem d_La_law_49 : decode code 49 = .ok (.tableswitch 612 0 14 #[75, 144, 181, 237, 293, 349, 362, 387, 400, 456, 469, 513, 526, 551, 587], 75) := by decide +kernel
theorem d_La_law_124 : decode code 124 = .ok (.aload_n 1, 1) := by decide +kernel
theorem d_La_law_125 : decode code 125 = .ok (.aload_n 0, 1) := by decide +kernel
theorem d_La_law_126 : decode code 126 = .ok (.iload 4, 2) := by decide +kernel
theorem d_La_law_128 : decode code 128 = .ok (.iconst 1, 1) := by decide +kernel
theorem d_La_law_129 : decode code 129 = .ok (.iadd, 1) := by decide +kernel
theorem d_La_law_130 : decode code 130 = .ok (.iaload, 1) := by decide +kernel
theorem d_La_law_131 : decode code 131 = .ok (.i2l, 1) := by decide +kernel
theorem d_La_law_132 : decode code 132 = .ok (.bipush 32, 2) := by decide +kernel
theorem d_La_law_134 : decode code 134 = .ok (.lshl, 1) := by decide +kernel
theorem d_La_law_135 : decode code 135 = .ok (.aload_n 0, 1) := by decide +kernel
theorem d_La_law_136 : decode code 136 = .ok (.iload 4, 2) := by decide +kernel
theorem d_La_law_138 : decode code 138 = .ok (.iconst 2, 1) := by decide +kernel
theorem d_La_law_139 : decode code 139 = .ok (.iadd, 1) := by decide +kernel
theorem d_La_law_140 : decode code 140 = .ok (.iaload, 1) := by decide +kernel
theorem d_La_law_141 : decode code 141 = .ok (.i2l, 1) := by decide +kernel
theorem d_La_law_142 : decode code 142 = .ok (.ldc2_w 49, 3) := by decide +kernel
theorem d_La_law_145 : decode code 145 = .ok (.land, 1) := by decide +kernel
theorem d_La_law_146 : decode code 146 = .ok (.lor, 1) := by decide +kernel
theorem d_La_law_147 : decode code 147 = .ok (.aload_n 0, 1) := by decide +kernel
theorem d_La_law_148 : decode code 148 = .ok (.iload 4, 2) := by decide +kernel
theorem d_La_law_150 : decode code 150 = .ok (.iconst 3, 1) := by decide +kernel
theorem d_La_law_151 : decode code 151 = .ok (.iadd, 1) := by decide +kernel
theorem d_La_law_152 : decode code 152 = .ok (.iaload, 1) := by decide +kernel
theorem d_La_law_153 : decode code 153 = .ok (.invokevirtual 51, 3) := by decide +kernel
theorem d_La_law_156 : decode code 156 = .ok (.aload_n 2, 1) := by decide +kernel
theorem d_La_law_157 : decode code 157 = .ok (.aload_n 0, 1) := by decide +kernel
theorem d_La_law_158 : decode code 158 = .ok (.iload 4, 2) := by decide +kernel
theorem d_La_law_160 : decode code 160 = .ok (.iconst 1, 1) := by decide +kernel
theorem d_La_law_161 : decode code 161 = .ok (.iadd, 1) := by decide +kernel
theorem d_La_law_162 : decode code 162 = .ok (.iaload, 1) := by decide +kernel
theorem d_La_law_163 : decode code 163 = .ok (.i2l, 1) := by decide +kernel
theorem d_La_law_164 : decode code 164 = .ok (.bipush 32, 2) := by decide +kernel
theorem d_La_law_166 : decode code 166 = .ok (.lshl, 1) := by decide +kernel
theorem d_La_law_167 : decode code 167 = .ok (.aload_n 0, 1) := by decide +kernel
theorem d_La_law_168 : decode code 168 = .ok (.iload 4, 2) := by decide +kernel
theorem d_La_law_170 : decode code 170 = .ok (.iconst 2, 1) := by decide +kernel
theorem d_La_law_171 : decode code 171 = .ok (.iadd, 1) := by decide +kernel
theorem d_La_law_172 : decode code 172 = .ok (.iaload, 1) := by decide +kernel
theorem d_La_law_173 : decode code 173 = .ok (.i2l, 1) := by decide +kernel
theorem d_La_law_174 : decode code 174 = .ok (.ldc2_w 49, 3) := by decide +kernel
theorem d_La_law_177 : decode code 177 = .ok (.land, 1) := by decide +kernel
theorem d_La_law_178 : decode code 178 = .ok (.lor, 1) := by decide +kernel
theorem d_La_law_179 : decode code 179 = .ok (.aload_n 0, 1) := by decide +kernel
theorem d_La_law_180 : decode code 180 = .ok (.iload 4, 2) := by decide +kernel
theorem d_La_law_182 : decode code 182 = .ok (.iconst 3, 1) := by decide +kernel
theorem d_La_law_183 : decode code 183 = .ok (.iadd, 1) := by decide +kernel
theorem d_La_law_184 : decode code 184 = .ok (.iaload, 1) := by decide +kernel
theorem d_La_law_185 : decode code 185 = .ok (.invokevirtual 55, 3) := by decide +kernel
theorem d_La_law_188 : decode code 188 = .ok (.if_icmp .eq 473, 3) := by decide +kernel
theorem d_La_law_191 : decode code 191 = .ok (.iconst 0, 1) := by decide +kernel
theorem d_La_law_192 : decode code 192 = .ok (.ireturn, 1) := by decide +kernel
theorem d_La_law_193 : decode code 193 = .ok (.aload_n 1, 1) := by decide +kernel
theorem d_La_law_194 : decode code 194 = .ok (.aload_n 0, 1) := by decide +kernel
theorem d_La_law_195 : decode code 195 = .ok (.iload 4, 2) := by decide +kernel
theorem d_La_law_197 : decode code 197 = .ok (.iconst 1, 1) := by decide +kernel
theorem d_La_law_198 : decode code 198 = .ok (.iadd, 1) := by decide +kernel
theorem d_La_law_199 : decode code 199 = .ok (.iaload, 1) := by decide +kernel
theorem d_La_law_200 : decode code 200 = .ok (.aload_n 0, 1) := by decide +kernel
theorem d_La_law_201 : decode code 201 = .ok (.iload 4, 2) := by decide +kernel
theorem d_La_law_203 : decode code 203 = .ok (.iconst 2, 1) := by decide +kernel
theorem d_La_law_204 : decode code 204 = .ok (.iadd, 1) := by decide +kernel
theorem d_La_law_205 : decode code 205 = .ok (.iaload, 1) := by decide +kernel
theorem d_La_law_206 : decode code 206 = .ok (.invokevirtual 56, 3) := by decide +kernel
theorem d_La_law_209 : decode code 209 = .ok (.aload_n 2, 1) := by decide +kernel
theorem d_La_law_210 : decode code 210 = .ok (.aload_n 0, 1) := by decide +kernel
theorem d_La_law_211 : decode code 211 = .ok (.iload 4, 2) := by decide +kernel
theorem d_La_law_213 : decode code 213 = .ok (.iconst 1, 1) := by decide +kernel
theorem d_La_law_214 : decode code 214 = .ok (.iadd, 1) := by decide +kernel
theorem d_La_law_215 : decode code 215 = .ok (.iaload, 1) := by decide +kernel
theorem d_La_law_216 : decode code 216 = .ok (.aload_n 0, 1) := by decide +kernel
theorem d_La_law_217 : decode code 217 = .ok (.iload 4, 2) := by decide +kernel
theorem d_La_law_219 : decode code 219 = .ok (.iconst 2, 1) := by decide +kernel
theorem d_La_law_220 : decode code 220 = .ok (.iadd, 1) := by decide +kernel
theorem d_La_law_221 : decode code 221 = .ok (.iaload, 1) := by decide +kernel
theorem d_La_law_222 : decode code 222 = .ok (.invokevirtual 60, 3) := by decide +kernel
theorem d_La_law_225 : decode code 225 = .ok (.if_icmp .eq 436, 3) := by decide +kernel
theorem d_La_law_228 : decode code 228 = .ok (.iconst 0, 1) := by decide +kernel
theorem d_La_law_229 : decode code 229 = .ok (.ireturn, 1) := by decide +kernel
theorem d_La_law_230 : decode code 230 = .ok (.aload_n 1, 1) := by decide +kernel
theorem d_La_law_231 : decode code 231 = .ok (.aload_n 0, 1) := by decide +kernel
theorem d_La_law_232 : decode code 232 = .ok (.iload 4, 2) := by decide +kernel
theorem d_La_law_234 : decode code 234 = .ok (.iconst 1, 1) := by decide +kernel
theorem d_La_law_235 : decode code 235 = .ok (.iadd, 1) := by decide +kernel
theorem d_La_law_236 : decode code 236 = .ok (.iaload, 1) := by decide +kernel
theorem d_La_law_237 : decode code 237 = .ok (.aload_n 3, 1) := by decide +kernel
theorem d_La_law_238 : decode code 238 = .ok (.invokestatic 61, 3) := by decide +kernel
theorem d_La_law_241 : decode code 241 = .ok (.istore 5, 2) := by decide +kernel
theorem d_La_law_243 : decode code 243 = .ok (.aload_n 2, 1) := by decide +kernel
theorem d_La_law_244 : decode code 244 = .ok (.aload_n 0, 1) := by decide +kernel
theorem d_La_law_245 : decode code 245 = .ok (.iload 4, 2) := by decide +kernel
theorem d_La_law_247 : decode code 247 = .ok (.iconst 1, 1) := by decide +kernel
theorem d_La_law_248 : decode code 248 = .ok (.iadd, 1) := by decide +kernel
theorem d_La_law_249 : decode code 249 = .ok (.iaload, 1) := by decide +kernel
theorem d_La_law_250 : decode code 250 = .ok (.invokevirtual 64, 3) := by decide +kernel
theorem d_La_law_253 : decode code 253 = .ok (.istore 6, 2) := by decide +kernel
theorem d_La_law_255 : decode code 255 = .ok (.aload_n 2, 1) := by decide +kernel
theorem d_La_law_256 : decode code 256 = .ok (.invokevirtual 65, 3) := by decide +kernel
theorem d_La_law_259 : decode code 259 = .ok (.iload 5, 2) := by decide +kernel
theorem d_La_law_261 : decode code 261 = .ok (.if_icmp .eq 5, 3) := by decide +kernel
theorem d_La_law_264 : decode code 264 = .ok (.iconst 0, 1) := by decide +kernel
theorem d_La_law_265 : decode code 265 = .ok (.ireturn, 1) := by decide +kernel
theorem d_La_law_266 : decode code 266 = .ok (.iload 5, 2) := by decide +kernel
theorem d_La_law_268 : decode code 268 = .ok (.ifCond .ne 15, 3) := by decide +kernel
theorem d_La_law_271 : decode code 271 = .ok (.aload_n 3, 1) := by decide +kernel
theorem d_La_law_272 : decode code 272 = .ok (.iconst 0, 1) := by decide +kernel
theorem d_La_law_273 : decode code 273 = .ok (.laload, 1) := by decide +kernel
theorem d_La_law_274 : decode code 274 = .ok (.iload 6, 2) := by decide +kernel
theorem d_La_law_276 : decode code 276 = .ok (.i2l, 1) := by decide +kernel
theorem d_La_law_277 : decode code 277 = .ok (.lcmp, 1) := by decide +kernel
theorem d_La_law_278 : decode code 278 = .ok (.ifCond .eq 5, 3) := by decide +kernel
theorem d_La_law_281 : decode code 281 = .ok (.iconst 0, 1) := by decide +kernel
theorem d_La_law_282 : decode code 282 = .ok (.ireturn, 1) := by decide +kernel
theorem d_La_law_283 : decode code 283 = .ok (.goto 378, 3) := by decide +kernel
theorem d_La_law_286 : decode code 286 = .ok (.aload_n 1, 1) := by decide +kernel
theorem d_La_law_287 : decode code 287 = .ok (.aload_n 0, 1) := by decide +kernel
theorem d_La_law_288 : decode code 288 = .ok (.iload 4, 2) := by decide +kernel
theorem d_La_law_290 : decode code 290 = .ok (.iconst 1, 1) := by decide +kernel
theorem d_La_law_291 : decode code 291 = .ok (.iadd, 1) := by decide +kernel
theorem d_La_law_292 : decode code 292 = .ok (.iaload, 1) := by decide +kernel
theorem d_La_law_293 : decode code 293 = .ok (.aload_n 3, 1) := by decide +kernel
theorem d_La_law_294 : decode code 294 = .ok (.invokestatic 68, 3) := by decide +kernel
theorem d_La_law_297 : decode code 297 = .ok (.istore 5, 2) := by decide +kernel
theorem d_La_law_299 : decode code 299 = .ok (.aload_n 2, 1) := by decide +kernel
theorem d_La_law_300 : decode code 300 = .ok (.aload_n 0, 1) := by decide +kernel
theorem d_La_law_301 : decode code 301 = .ok (.iload 4, 2) := by decide +kernel
theorem d_La_law_303 : decode code 303 = .ok (.iconst 1, 1) := by decide +kernel
theorem d_La_law_304 : decode code 304 = .ok (.iadd, 1) := by decide +kernel
theorem d_La_law_305 : decode code 305 = .ok (.iaload, 1) := by decide +kernel
theorem d_La_law_306 : decode code 306 = .ok (.invokevirtual 70, 3) := by decide +kernel
theorem d_La_law_309 : decode code 309 = .ok (.istore 6, 2) := by decide +kernel
theorem d_La_law_311 : decode code 311 = .ok (.aload_n 2, 1) := by decide +kernel
theorem d_La_law_312 : decode code 312 = .ok (.invokevirtual 65, 3) := by decide +kernel
theorem d_La_law_315 : decode code 315 = .ok (.iload 5, 2) := by decide +kernel
theorem d_La_law_317 : decode code 317 = .ok (.if_icmp .eq 5, 3) := by decide +kernel
theorem d_La_law_320 : decode code 320 = .ok (.iconst 0, 1) := by decide +kernel
theorem d_La_law_321 : decode code 321 = .ok (.ireturn, 1) := by decide +kernel
theorem d_La_law_322 : decode code 322 = .ok (.iload 5, 2) := by decide +kernel
theorem d_La_law_324 : decode code 324 = .ok (.ifCond .ne 15, 3) := by decide +kernel
theorem d_La_law_327 : decode code 327 = .ok (.aload_n 3, 1) := by decide +kernel
theorem d_La_law_328 : decode code 328 = .ok (.iconst 0, 1) := by decide +kernel
theorem d_La_law_329 : decode code 329 = .ok (.laload, 1) := by decide +kernel
theorem d_La_law_330 : decode code 330 = .ok (.iload 6, 2) := by decide +kernel
theorem d_La_law_332 : decode code 332 = .ok (.i2l, 1) := by decide +kernel
theorem d_La_law_333 : decode code 333 = .ok (.lcmp, 1) := by decide +kernel
theorem d_La_law_334 : decode code 334 = .ok (.ifCond .eq 5, 3) := by decide +kernel
theorem d_La_law_337 : decode code 337 = .ok (.iconst 0, 1) := by decide +kernel
theorem d_La_law_338 : decode code 338 = .ok (.ireturn, 1) := by decide +kernel
theorem d_La_law_339 : decode code 339 = .ok (.goto 322, 3) := by decide +kernel
theorem d_La_law_342 : decode code 342 = .ok (.aload_n 1, 1) := by decide +kernel
theorem d_La_law_343 : decode code 343 = .ok (.aload_n 0, 1) := by decide +kernel
theorem d_La_law_344 : decode code 344 = .ok (.iload 4, 2) := by decide +kernel
theorem d_La_law_346 : decode code 346 = .ok (.iconst 1, 1) := by decide +kernel
theorem d_La_law_347 : decode code 347 = .ok (.iadd, 1) := by decide +kernel
theorem d_La_law_348 : decode code 348 = .ok (.iaload, 1) := by decide +kernel
theorem d_La_law_349 : decode code 349 = .ok (.aload_n 3, 1) := by decide +kernel
theorem d_La_law_350 : decode code 350 = .ok (.invokestatic 71, 3) := by decide +kernel
theorem d_La_law_353 : decode code 353 = .ok (.istore 5, 2) := by decide +kernel
theorem d_La_law_355 : decode code 355 = .ok (.aload_n 2, 1) := by decide +kernel
theorem d_La_law_356 : decode code 356 = .ok (.aload_n 0, 1) := by decide +kernel
theorem d_La_law_357 : decode code 357 = .ok (.iload 4, 2) := by decide +kernel
theorem d_La_law_359 : decode code 359 = .ok (.iconst 1, 1) := by decide +kernel
theorem d_La_law_360 : decode code 360 = .ok (.iadd, 1) := by decide +kernel
theorem d_La_law_361 : decode code 361 = .ok (.iaload, 1) := by decide +kernel
theorem d_La_law_362 : decode code 362 = .ok (.invokevirtual 73, 3) := by decide +kernel
theorem d_La_law_365 : decode code 365 = .ok (.istore 6, 2) := by decide +kernel
theorem d_La_law_367 : decode code 367 = .ok (.aload_n 2, 1) := by decide +kernel
theorem d_La_law_368 : decode code 368 = .ok (.invokevirtual 65, 3) := by decide +kernel
theorem d_La_law_371 : decode code 371 = .ok (.iload 5, 2) := by decide +kernel
theorem d_La_law_373 : decode code 373 = .ok (.if_icmp .eq 5, 3) := by decide +kernel
theorem d_La_law_376 : decode code 376 = .ok (.iconst 0, 1) := by decide +kernel
theorem d_La_law_377 : decode code 377 = .ok (.ireturn, 1) := by decide +kernel
theorem d_La_law_378 : decode code 378 = .ok (.iload 5, 2) := by decide +kernel
theorem d_La_law_380 : decode code 380 = .ok (.ifCond .ne 15, 3) := by decide +kernel
theorem d_La_law_383 : decode code 383 = .ok (.aload_n 3, 1) := by decide +kernel
theorem d_La_law_384 : decode code 384 = .ok (.iconst 0, 1) := by decide +kernel
theorem d_La_law_385 : decode code 385 = .ok (.laload, 1) := by decide +kernel
theorem d_La_law_386 : decode code 386 = .ok (.iload 6, 2) := by decide +kernel
theorem d_La_law_388 : decode code 388 = .ok (.i2l, 1) := by decide +kernel
theorem d_La_law_389 : decode code 389 = .ok (.lcmp, 1) := by decide +kernel
theorem d_La_law_390 : decode code 390 = .ok (.ifCond .eq 5, 3) := by decide +kernel
theorem d_La_law_393 : decode code 393 = .ok (.iconst 0, 1) := by decide +kernel
theorem d_La_law_394 : decode code 394 = .ok (.ireturn, 1) := by decide +kernel
theorem d_La_law_395 : decode code 395 = .ok (.goto 266, 3) := by decide +kernel
theorem d_La_law_398 : decode code 398 = .ok (.aload_n 1, 1) := by decide +kernel
theorem d_La_law_399 : decode code 399 = .ok (.invokevirtual 74, 3) := by decide +kernel
theorem d_La_law_402 : decode code 402 = .ok (.aload_n 2, 1) := by decide +kernel
theorem d_La_law_403 : decode code 403 = .ok (.invokevirtual 77, 3) := by decide +kernel
theorem d_La_law_406 : decode code 406 = .ok (.if_icmp .eq 255, 3) := by decide +kernel
theorem d_La_law_409 : decode code 409 = .ok (.iconst 0, 1) := by decide +kernel
theorem d_La_law_410 : decode code 410 = .ok (.ireturn, 1) := by decide +kernel
theorem d_La_law_411 : decode code 411 = .ok (.aload_n 1, 1) := by decide +kernel
theorem d_La_law_412 : decode code 412 = .ok (.aload_n 0, 1) := by decide +kernel
theorem d_La_law_413 : decode code 413 = .ok (.iload 4, 2) := by decide +kernel
theorem d_La_law_415 : decode code 415 = .ok (.iconst 1, 1) := by decide +kernel
theorem d_La_law_416 : decode code 416 = .ok (.iadd, 1) := by decide +kernel
theorem d_La_law_417 : decode code 417 = .ok (.iaload, 1) := by decide +kernel
theorem d_La_law_418 : decode code 418 = .ok (.invokevirtual 78, 3) := by decide +kernel
theorem d_La_law_421 : decode code 421 = .ok (.aload_n 2, 1) := by decide +kernel
theorem d_La_law_422 : decode code 422 = .ok (.aload_n 0, 1) := by decide +kernel
theorem d_La_law_423 : decode code 423 = .ok (.iload 4, 2) := by decide +kernel
theorem d_La_law_425 : decode code 425 = .ok (.iconst 1, 1) := by decide +kernel
theorem d_La_law_426 : decode code 426 = .ok (.iadd, 1) := by decide +kernel
theorem d_La_law_427 : decode code 427 = .ok (.iaload, 1) := by decide +kernel
theorem d_La_law_428 : decode code 428 = .ok (.invokevirtual 82, 3) := by decide +kernel
theorem d_La_law_431 : decode code 431 = .ok (.if_icmp .eq 230, 3) := by decide +kernel
theorem d_La_law_434 : decode code 434 = .ok (.iconst 0, 1) := by decide +kernel
theorem d_La_law_435 : decode code 435 = .ok (.ireturn, 1) := by decide +kernel
theorem d_La_law_436 : decode code 436 = .ok (.aload_n 1, 1) := by decide +kernel
theorem d_La_law_437 : decode code 437 = .ok (.invokevirtual 83, 3) := by decide +kernel
theorem d_La_law_440 : decode code 440 = .ok (.aload_n 2, 1) := by decide +kernel
theorem d_La_law_441 : decode code 441 = .ok (.invokevirtual 86, 3) := by decide +kernel
theorem d_La_law_444 : decode code 444 = .ok (.if_icmp .eq 217, 3) := by decide +kernel
theorem d_La_law_447 : decode code 447 = .ok (.iconst 0, 1) := by decide +kernel
theorem d_La_law_448 : decode code 448 = .ok (.ireturn, 1) := by decide +kernel
theorem d_La_law_449 : decode code 449 = .ok (.aload_n 1, 1) := by decide +kernel
theorem d_La_law_450 : decode code 450 = .ok (.aload_n 0, 1) := by decide +kernel
theorem d_La_law_451 : decode code 451 = .ok (.iload 4, 2) := by decide +kernel
theorem d_La_law_453 : decode code 453 = .ok (.iconst 1, 1) := by decide +kernel
theorem d_La_law_454 : decode code 454 = .ok (.iadd, 1) := by decide +kernel
theorem d_La_law_455 : decode code 455 = .ok (.iaload, 1) := by decide +kernel
theorem d_La_law_456 : decode code 456 = .ok (.aload_n 3, 1) := by decide +kernel
theorem d_La_law_457 : decode code 457 = .ok (.invokestatic 87, 3) := by decide +kernel
theorem d_La_law_460 : decode code 460 = .ok (.istore 5, 2) := by decide +kernel
theorem d_La_law_462 : decode code 462 = .ok (.aload_n 2, 1) := by decide +kernel
theorem d_La_law_463 : decode code 463 = .ok (.aload_n 0, 1) := by decide +kernel
theorem d_La_law_464 : decode code 464 = .ok (.iload 4, 2) := by decide +kernel
theorem d_La_law_466 : decode code 466 = .ok (.iconst 1, 1) := by decide +kernel
theorem d_La_law_467 : decode code 467 = .ok (.iadd, 1) := by decide +kernel
theorem d_La_law_468 : decode code 468 = .ok (.iaload, 1) := by decide +kernel
theorem d_La_law_469 : decode code 469 = .ok (.invokevirtual 89, 3) := by decide +kernel
theorem d_La_law_472 : decode code 472 = .ok (.istore 6, 2) := by decide +kernel
theorem d_La_law_474 : decode code 474 = .ok (.aload_n 2, 1) := by decide +kernel
theorem d_La_law_475 : decode code 475 = .ok (.invokevirtual 65, 3) := by decide +kernel
theorem d_La_law_478 : decode code 478 = .ok (.iload 5, 2) := by decide +kernel
theorem d_La_law_480 : decode code 480 = .ok (.if_icmp .eq 5, 3) := by decide +kernel
theorem d_La_law_483 : decode code 483 = .ok (.iconst 0, 1) := by decide +kernel
theorem d_La_law_484 : decode code 484 = .ok (.ireturn, 1) := by decide +kernel
theorem d_La_law_485 : decode code 485 = .ok (.iload 5, 2) := by decide +kernel
theorem d_La_law_487 : decode code 487 = .ok (.ifCond .ne 15, 3) := by decide +kernel
theorem d_La_law_490 : decode code 490 = .ok (.aload_n 3, 1) := by decide +kernel
theorem d_La_law_491 : decode code 491 = .ok (.iconst 0, 1) := by decide +kernel
theorem d_La_law_492 : decode code 492 = .ok (.laload, 1) := by decide +kernel
theorem d_La_law_493 : decode code 493 = .ok (.iload 6, 2) := by decide +kernel
theorem d_La_law_495 : decode code 495 = .ok (.i2l, 1) := by decide +kernel
theorem d_La_law_496 : decode code 496 = .ok (.lcmp, 1) := by decide +kernel
theorem d_La_law_497 : decode code 497 = .ok (.ifCond .eq 5, 3) := by decide +kernel
theorem d_La_law_500 : decode code 500 = .ok (.iconst 0, 1) := by decide +kernel
theorem d_La_law_501 : decode code 501 = .ok (.ireturn, 1) := by decide +kernel
theorem d_La_law_502 : decode code 502 = .ok (.goto 159, 3) := by decide +kernel
theorem d_La_law_505 : decode code 505 = .ok (.aload_n 1, 1) := by decide +kernel
theorem d_La_law_506 : decode code 506 = .ok (.invokevirtual 90, 3) := by decide +kernel
theorem d_La_law_509 : decode code 509 = .ok (.aload_n 2, 1) := by decide +kernel
theorem d_La_law_510 : decode code 510 = .ok (.invokevirtual 93, 3) := by decide +kernel
theorem d_La_law_513 : decode code 513 = .ok (.if_icmp .eq 148, 3) := by decide +kernel
theorem d_La_law_516 : decode code 516 = .ok (.iconst 0, 1) := by decide +kernel
theorem d_La_law_517 : decode code 517 = .ok (.ireturn, 1) := by decide +kernel
theorem d_La_law_518 : decode code 518 = .ok (.aload_n 1, 1) := by decide +kernel
theorem d_La_law_519 : decode code 519 = .ok (.aload_n 3, 1) := by decide +kernel
theorem d_La_law_520 : decode code 520 = .ok (.invokestatic 94, 3) := by decide +kernel
theorem d_La_law_523 : decode code 523 = .ok (.istore 5, 2) := by decide +kernel
theorem d_La_law_525 : decode code 525 = .ok (.aload_n 2, 1) := by decide +kernel
theorem d_La_law_526 : decode code 526 = .ok (.invokevirtual 97, 3) := by decide +kernel
theorem d_La_law_529 : decode code 529 = .ok (.istore 6, 2) := by decide +kernel
theorem d_La_law_531 : decode code 531 = .ok (.aload_n 2, 1) := by decide +kernel
theorem d_La_law_532 : decode code 532 = .ok (.invokevirtual 65, 3) := by decide +kernel
theorem d_La_law_535 : decode code 535 = .ok (.iload 5, 2) := by decide +kernel
theorem d_La_law_537 : decode code 537 = .ok (.if_icmp .eq 5, 3) := by decide +kernel
theorem d_La_law_540 : decode code 540 = .ok (.iconst 0, 1) := by decide +kernel
theorem d_La_law_541 : decode code 541 = .ok (.ireturn, 1) := by decide +kernel
theorem d_La_law_542 : decode code 542 = .ok (.iload 5, 2) := by decide +kernel
theorem d_La_law_544 : decode code 544 = .ok (.ifCond .ne 15, 3) := by decide +kernel
theorem d_La_law_547 : decode code 547 = .ok (.aload_n 3, 1) := by decide +kernel
theorem d_La_law_548 : decode code 548 = .ok (.iconst 0, 1) := by decide +kernel
theorem d_La_law_549 : decode code 549 = .ok (.laload, 1) := by decide +kernel
theorem d_La_law_550 : decode code 550 = .ok (.iload 6, 2) := by decide +kernel
theorem d_La_law_552 : decode code 552 = .ok (.i2l, 1) := by decide +kernel
theorem d_La_law_553 : decode code 553 = .ok (.lcmp, 1) := by decide +kernel
theorem d_La_law_554 : decode code 554 = .ok (.ifCond .eq 5, 3) := by decide +kernel
theorem d_La_law_557 : decode code 557 = .ok (.iconst 0, 1) := by decide +kernel
theorem d_La_law_558 : decode code 558 = .ok (.ireturn, 1) := by decide +kernel
theorem d_La_law_559 : decode code 559 = .ok (.goto 102, 3) := by decide +kernel
theorem d_La_law_562 : decode code 562 = .ok (.aload_n 1, 1) := by decide +kernel
theorem d_La_law_563 : decode code 563 = .ok (.invokevirtual 98, 3) := by decide +kernel
theorem d_La_law_566 : decode code 566 = .ok (.aload_n 2, 1) := by decide +kernel
theorem d_La_law_567 : decode code 567 = .ok (.invokevirtual 101, 3) := by decide +kernel
theorem d_La_law_570 : decode code 570 = .ok (.if_icmp .eq 91, 3) := by decide +kernel
theorem d_La_law_573 : decode code 573 = .ok (.iconst 0, 1) := by decide +kernel
theorem d_La_law_574 : decode code 574 = .ok (.ireturn, 1) := by decide +kernel
theorem d_La_law_575 : decode code 575 = .ok (.aload_n 1, 1) := by decide +kernel
theorem d_La_law_576 : decode code 576 = .ok (.aload_n 0, 1) := by decide +kernel
theorem d_La_law_577 : decode code 577 = .ok (.iload 4, 2) := by decide +kernel
theorem d_La_law_579 : decode code 579 = .ok (.iconst 1, 1) := by decide +kernel
theorem d_La_law_580 : decode code 580 = .ok (.iadd, 1) := by decide +kernel
theorem d_La_law_581 : decode code 581 = .ok (.iaload, 1) := by decide +kernel
theorem d_La_law_582 : decode code 582 = .ok (.invokevirtual 102, 3) := by decide +kernel
theorem d_La_law_585 : decode code 585 = .ok (.aload_n 2, 1) := by decide +kernel
theorem d_La_law_586 : decode code 586 = .ok (.aload_n 0, 1) := by decide +kernel
theorem d_La_law_587 : decode code 587 = .ok (.iload 4, 2) := by decide +kernel
theorem d_La_law_589 : decode code 589 = .ok (.iconst 1, 1) := by decide +kernel
theorem d_La_law_590 : decode code 590 = .ok (.iadd, 1) := by decide +kernel
theorem d_La_law_591 : decode code 591 = .ok (.iaload, 1) := by decide +kernel
theorem d_La_law_592 : decode code 592 = .ok (.invokevirtual 105, 3) := by decide +kernel
theorem d_La_law_595 : decode code 595 = .ok (.if_icmp .eq 66, 3) := by decide +kernel
theorem d_La_law_598 : decode code 598 = .ok (.iconst 0, 1) := by decide +kernel
theorem d_La_law_599 : decode code 599 = .ok (.ireturn, 1) := by decide +kernel
theorem d_La_law_600 : decode code 600 = .ok (.aload_n 1, 1) := by decide +kernel
theorem d_La_law_601 : decode code 601 = .ok (.aload_n 0, 1) := by decide +kernel
theorem d_La_law_602 : decode code 602 = .ok (.iload 4, 2) := by decide +kernel
theorem d_La_law_604 : decode code 604 = .ok (.iconst 1, 1) := by decide +kernel
theorem d_La_law_605 : decode code 605 = .ok (.iadd, 1) := by decide +kernel
theorem d_La_law_606 : decode code 606 = .ok (.iaload, 1) := by decide +kernel
theorem d_La_law_607 : decode code 607 = .ok (.invokestatic 106, 3) := by decide +kernel
theorem d_La_law_610 : decode code 610 = .ok (.istore 5, 2) := by decide +kernel
theorem d_La_law_612 : decode code 612 = .ok (.aload_n 2, 1) := by decide +kernel
theorem d_La_law_613 : decode code 613 = .ok (.aload_n 0, 1) := by decide +kernel
theorem d_La_law_614 : decode code 614 = .ok (.iload 4, 2) := by decide +kernel
theorem d_La_law_616 : decode code 616 = .ok (.iconst 1, 1) := by decide +kernel
theorem d_La_law_617 : decode code 617 = .ok (.iadd, 1) := by decide +kernel
theorem d_La_law_618 : decode code 618 = .ok (.iaload, 1) := by decide +kernel
theorem d_La_law_619 : decode code 619 = .ok (.invokevirtual 109, 3) := by decide +kernel
theorem d_La_law_622 : decode code 622 = .ok (.aload_n 2, 1) := by decide +kernel
theorem d_La_law_623 : decode code 623 = .ok (.invokevirtual 65, 3) := by decide +kernel
theorem d_La_law_626 : decode code 626 = .ok (.iload 5, 2) := by decide +kernel
theorem d_La_law_628 : decode code 628 = .ok (.if_icmp .eq 5, 3) := by decide +kernel
theorem d_La_law_631 : decode code 631 = .ok (.iconst 0, 1) := by decide +kernel
theorem d_La_law_632 : decode code 632 = .ok (.ireturn, 1) := by decide +kernel
theorem d_La_law_633 : decode code 633 = .ok (.goto 28, 3) := by decide +kernel
theorem d_La_law_636 : decode code 636 = .ok (.aload_n 1, 1) := by decide +kernel
theorem d_La_law_637 : decode code 637 = .ok (.aload_n 0, 1) := by decide +kernel
theorem d_La_law_638 : decode code 638 = .ok (.iload 4, 2) := by decide +kernel
theorem d_La_law_640 : decode code 640 = .ok (.iconst 1, 1) := by decide +kernel
theorem d_La_law_641 : decode code 641 = .ok (.iadd, 1) := by decide +kernel
theorem d_La_law_642 : decode code 642 = .ok (.iaload, 1) := by decide +kernel
theorem d_La_law_643 : decode code 643 = .ok (.invokevirtual 110, 3) := by decide +kernel
theorem d_La_law_646 : decode code 646 = .ok (.aload_n 2, 1) := by decide +kernel
theorem d_La_law_647 : decode code 647 = .ok (.aload_n 0, 1) := by decide +kernel
theorem d_La_law_648 : decode code 648 = .ok (.iload 4, 2) := by decide +kernel
theorem d_La_law_650 : decode code 650 = .ok (.iconst 1, 1) := by decide +kernel
theorem d_La_law_651 : decode code 651 = .ok (.iadd, 1) := by decide +kernel
theorem d_La_law_652 : decode code 652 = .ok (.iaload, 1) := by decide +kernel
theorem d_La_law_653 : decode code 653 = .ok (.invokevirtual 113, 3) := by decide +kernel
theorem d_La_law_656 : decode code 656 = .ok (.if_icmp .eq 5, 3) := by decide +kernel
theorem d_La_law_659 : decode code 659 = .ok (.iconst 0, 1) := by decide +kernel
theorem d_La_law_660 : decode code 660 = .ok (.ireturn, 1) := by decide +kernel
theorem d_La_law_661 : decode code 661 = .ok (.iinc 4 4, 3) := by decide +kernel
theorem d_La_law_664 : decode code 664 = .ok (.goto (-631), 3) := by decide +kernel
theorem d_La_law_667 : decode code 667 = .ok (.iconst 1, 1) := by decide +kernel
theorem d_La_law_668 : decode code 668 = .ok (.ireturn, 1) := by decide +kernel
end
section
/-- an Int32 by an Int, as a name that simp leaves alone -/
def iZ (z : Int) : Int32 := Int32.ofInt z
def iB (z : Int) : Prop := -2147483648 ≤ z ∧ z < 2147483648
theorem iZ_toInt {z : Int} (h : iB z) : (iZ z).toInt = z := Int32.toInt_ofInt_of_le h.1 h.2
theorem iZ_of (x : Int32) : ∃ z : Int, iB z ∧ x = iZ z := ⟨x.toInt, ⟨x.le_toInt, x.toInt_lt⟩, (Int32.ofInt_toInt x).symm⟩
theorem iZ_self (x : Int32) : iZ x.toInt = x := Int32.ofInt_toInt x
theorem iB_toInt (x : Int32) : iB x.toInt := ⟨x.le_toInt, x.toInt_lt⟩
theorem iZ_add (a b : Int) : iZ a + iZ b = iZ (a + b) := (Int32.ofInt_add a b).symm
theorem iZ_sub (a b : Int) : iZ a - iZ b = iZ (a - b) := (Int32.ofInt_sub a b).symm
theorem iZ_mul (a b : Int) : iZ a * iZ b = iZ (a * b) := (Int32.ofInt_mul a b).symm
theorem iZ_lt {a b : Int} (ha : iB a) (hb : iB b) : iZ a < iZ b ↔ a < b := by rw [Int32.lt_iff_toInt_lt, iZ_toInt ha, iZ_toInt hb]
theorem iZ_le {a b : Int} (ha : iB a) (hb : iB b) : iZ a ≤ iZ b ↔ a ≤ b := by rw [Int32.le_iff_toInt_le, iZ_toInt ha, iZ_toInt hb]
theorem iZ_eq {a b : Int} (ha : iB a) (hb : iB b) : iZ a = iZ b ↔ a = b := by rw [← Int32.toInt_inj, iZ_toInt ha, iZ_toInt hb]
theorem iZ_0 : (0 : Int32) = iZ 0 := rfl
theorem iZ_cl {a : Int} (h0 : 0 ≤ a) (h1 : a < 2147483648) : (iZ a).toNatClampNeg = a.toNat := by
  show (iZ a).toInt.toNat = a.toNat
  rw [iZ_toInt ⟨by omega, h1⟩]
theorem iZ_in {a : Int} {n : Nat} (h0 : 0 ≤ a) (h1 : a < n) (hn : n < 2147483648) : vp_in (iZ a) n := by
  rw [vp_in_iff, iZ_toInt ⟨by omega, by omega⟩]
  exact ⟨h0, h1⟩
theorem iZ_nat (n : Nat) : iZ (n : Int) = nI n := Int32.ofInt_eq_ofNat
theorem iZ_div {a d : Int} (h0 : 0 ≤ a) (h1 : a < 2147483648) (hd : 0 < d) (hd2 : d < 2147483648) : iZ a / iZ d = iZ (a / d) := by
  obtain ⟨n, rfl⟩ := Int.eq_ofNat_of_zero_le h0
  obtain ⟨k, rfl⟩ := Int.eq_ofNat_of_zero_le (Int.le_of_lt hd)
  rw [iZ_nat, iZ_nat, pk_div (by omega) (by omega) (by omega), ← iZ_nat]
  rfl
theorem iZ_rem {a d : Int} (h0 : 0 ≤ a) (h1 : a < 2147483648) (hd : 0 < d) (hd2 : d < 2147483648) : iZ a - iZ a / iZ d * iZ d = iZ (a % d) := by
  rw [iZ_div h0 h1 hd hd2, iZ_mul, iZ_sub]
  congr 1
  rw [Int.emod_def, Int.mul_comm]
theorem iZ_tb (a : Int) : (iZ a).toBitVec = BitVec.ofInt 32 a := rfl
theorem iZ_tn (a : Int) : ((iZ a).toBitVec.toNat : Int) = a % 4294967296 := by
  rw [iZ_tb, BitVec.toNat_ofInt]
  omega
theorem iZ_and255 (a : Int) : iZ a &&& iZ 255 = iZ (a % 256) := by
  have h := pk_and (iZ a) (m := iZ 255) 8 (by decide)
  rw [h, ← iZ_nat]
  congr 1
  have := iZ_tn a
  omega
theorem iZ_i8 (a : Int) : (iZ a).toInt8.toInt32 = iZ (Int.bmod a 256) := by
  apply Int32.toInt_inj.mp
  rw [iZ_toInt ⟨by have := Int.le_bmod (x := a) (m := 256) (by decide); omega, by have := Int.bmod_lt (x := a) (m := 256) (by decide); omega⟩]
  rw [Int8.toInt_toInt32, Int32.toInt_toInt8]
  show ((iZ a).toInt).bmod 256 = _
  show ((Int32.ofInt a).toInt).bmod 256 = _
  rw [Int32.toInt_ofInt]
  exact Int.bmod_bmod_of_dvd (by decide)
theorem bm256 (a : Int) : Int.bmod a 256 % 256 = a % 256 := by
  have := Int.bmod_emod (x := a) (m := 256)
  simpa using this
end
section
section ZZ
variable {p : Program} {l : Launch} {e : Env} {R : Room} {s : State} {m : MethodId} {args : Array Value} {below : List Frame} {meth : Method} {c : Code} {H : Heap} {locs : List Loc} {cells slots : Nat} {Q : State → Prop}
variable {cc : ByteArray} {pc : Nat} {ls : Array Slot} {rest : List Value} {D : va_G} {cl : List vw_C} {A : Nat → Prop} {a : Nat} {tys : List (ClassId × FieldType)} {ws : va_W} {H0 : Heap}
theorem zz_iadd (hexec : p.tables.exec = Jvm.exec) (hb : c.code = cc) {x y : Int} (hdg : decode cc pc = .ok (.iadd, 1)) (k : W p l e R s m args below meth c H locs cells slots Q (F0 m (pc + 1) ls (.int (iZ (x + y)) :: rest))) : W p l e R s m args below meth c H locs cells slots Q (F0 m pc ls (.int (iZ y) :: .int (iZ x) :: rest)) := by
  refine lv_iadd hexec hb hdg ?_
  rw [iZ_add]
  exact k
theorem zz_isub (hexec : p.tables.exec = Jvm.exec) (hb : c.code = cc) {x y : Int} (hdg : decode cc pc = .ok (.isub, 1)) (k : W p l e R s m args below meth c H locs cells slots Q (F0 m (pc + 1) ls (.int (iZ (x - y)) :: rest))) : W p l e R s m args below meth c H locs cells slots Q (F0 m pc ls (.int (iZ y) :: .int (iZ x) :: rest)) := by
  refine lv_isub hexec hb hdg ?_
  rw [iZ_sub]
  exact k
theorem zz_imul (hexec : p.tables.exec = Jvm.exec) (hb : c.code = cc) {x y : Int} (hdg : decode cc pc = .ok (.imul, 1)) (k : W p l e R s m args below meth c H locs cells slots Q (F0 m (pc + 1) ls (.int (iZ (x * y)) :: rest))) : W p l e R s m args below meth c H locs cells slots Q (F0 m pc ls (.int (iZ y) :: .int (iZ x) :: rest)) := by
  refine lv_imul hexec hb hdg ?_
  rw [iZ_mul]
  exact k
theorem zz_idiv (hexec : p.tables.exec = Jvm.exec) (hb : c.code = cc) {x y : Int} (h0 : 0 ≤ x) (h1 : x < 2147483648) (hd : 0 < y) (hd2 : y < 2147483648) (hdg : decode cc pc = .ok (.idiv, 1)) (k : W p l e R s m args below meth c H locs cells slots Q (F0 m (pc + 1) ls (.int (iZ (x / y)) :: rest))) : W p l e R s m args below meth c H locs cells slots Q (F0 m pc ls (.int (iZ y) :: .int (iZ x) :: rest)) := by
  refine lv_idiv hexec hb hdg (fun h => ?_) ?_
  · rw [iZ_0, iZ_eq ⟨by omega, by omega⟩ ⟨by omega, by omega⟩] at h
    omega
  · rw [iZ_div h0 h1 hd hd2]
    exact k
theorem zz_irem (hexec : p.tables.exec = Jvm.exec) (hb : c.code = cc) {x y : Int} (h0 : 0 ≤ x) (h1 : x < 2147483648) (hd : 0 < y) (hd2 : y < 2147483648) (hdg : decode cc pc = .ok (.irem, 1)) (k : W p l e R s m args below meth c H locs cells slots Q (F0 m (pc + 1) ls (.int (iZ (x % y)) :: rest))) : W p l e R s m args below meth c H locs cells slots Q (F0 m pc ls (.int (iZ y) :: .int (iZ x) :: rest)) := by
  refine lv_irem hexec hb hdg (fun h => ?_) ?_
  · rw [iZ_0, iZ_eq ⟨by omega, by omega⟩ ⟨by omega, by omega⟩] at h
    omega
  · rw [iZ_rem h0 h1 hd hd2]
    exact k
theorem zz_and255 (hexec : p.tables.exec = Jvm.exec) (hb : c.code = cc) {x : Int} (hdg : decode cc pc = .ok (.iand, 1)) (k : W p l e R s m args below meth c H locs cells slots Q (F0 m (pc + 1) ls (.int (iZ (x % 256)) :: rest))) : W p l e R s m args below meth c H locs cells slots Q (F0 m pc ls (.int (iZ 255) :: .int (iZ x) :: rest)) := by
  refine lv_iand hexec hb hdg ?_
  rw [iZ_and255]
  exact k
theorem zz_and255b (hexec : p.tables.exec = Jvm.exec) (hb : c.code = cc) {x : Int} (hdg : decode cc pc = .ok (.iand, 1)) (k : W p l e R s m args below meth c H locs cells slots Q (F0 m (pc + 1) ls (.int (iZ (x % 256)) :: rest))) : W p l e R s m args below meth c H locs cells slots Q (F0 m pc ls (.int (iZ 255) :: .int (iZ (Int.bmod x 256)) :: rest)) := by
  refine zz_and255 hexec hb hdg ?_
  rw [bm256]
  exact k
theorem zz_i2b (hexec : p.tables.exec = Jvm.exec) (hb : c.code = cc) {x : Int} (hdg : decode cc pc = .ok (.i2b, 1)) (k : W p l e R s m args below meth c H locs cells slots Q (F0 m (pc + 1) ls (.int (iZ (Int.bmod x 256)) :: rest))) : W p l e R s m args below meth c H locs cells slots Q (F0 m pc ls (.int (iZ x) :: rest)) := by
  exact lv_i2b hexec hb hdg (iZ_i8 x) k
theorem zz_l2i (hexec : p.tables.exec = Jvm.exec) (hb : c.code = cc) {x : Int64} (hdg : decode cc pc = .ok (.l2i, 1)) (k : W p l e R s m args below meth c H locs cells slots Q (F0 m (pc + 1) ls (.int (iZ x.toInt32.toInt) :: rest))) : W p l e R s m args below meth c H locs cells slots Q (F0 m pc ls (.long x :: rest)) := by
  exact lv_l2i hexec hb hdg (iZ_self _).symm k
theorem zz_icmp_eq (hexec : p.tables.exec = Jvm.exec) (hb : c.code = cc) {x y off : Int} {tgt : Nat} (hdg : decode cc pc = .ok (.if_icmp .eq off, 3)) (ht : (pc : Int) + off = (tgt : Int)) (hx : iB x) (hy : iB y) (kt : x = y → W p l e R s m args below meth c H locs cells slots Q (F0 m tgt ls rest)) (kf : x ≠ y → W p l e R s m args below meth c H locs cells slots Q (F0 m (pc + 3) ls rest)) : W p l e R s m args below meth c H locs cells slots Q (F0 m pc ls (.int (iZ y) :: .int (iZ x) :: rest)) :=
  lv_icmp_eq hexec hb hdg ht (fun h => kt ((iZ_eq hx hy).mp h)) (fun h => kf (fun q => h ((iZ_eq hx hy).mpr q)))
theorem zz_if_eq (hexec : p.tables.exec = Jvm.exec) (hb : c.code = cc) {x off : Int} {tgt : Nat} (hdg : decode cc pc = .ok (.ifCond .eq off, 3)) (ht : (pc : Int) + off = (tgt : Int)) (hx : iB x) (kt : x = 0 → W p l e R s m args below meth c H locs cells slots Q (F0 m tgt ls rest)) (kf : x ≠ 0 → W p l e R s m args below meth c H locs cells slots Q (F0 m (pc + 3) ls rest)) : W p l e R s m args below meth c H locs cells slots Q (F0 m pc ls (.int (iZ x) :: rest)) :=
  have hy : iB 0 := ⟨by omega, by omega⟩
  lv_if_eq hexec hb hdg ht (fun h => kt ((iZ_eq hx hy).mp h)) (fun h => kf (fun q => h ((iZ_eq hx hy).mpr q)))
theorem zz_icmp_ne (hexec : p.tables.exec = Jvm.exec) (hb : c.code = cc) {x y off : Int} {tgt : Nat} (hdg : decode cc pc = .ok (.if_icmp .ne off, 3)) (ht : (pc : Int) + off = (tgt : Int)) (hx : iB x) (hy : iB y) (kt : x ≠ y → W p l e R s m args below meth c H locs cells slots Q (F0 m tgt ls rest)) (kf : x = y → W p l e R s m args below meth c H locs cells slots Q (F0 m (pc + 3) ls rest)) : W p l e R s m args below meth c H locs cells slots Q (F0 m pc ls (.int (iZ y) :: .int (iZ x) :: rest)) :=
  lv_icmp_ne hexec hb hdg ht (fun h => kt (fun q => h ((iZ_eq hx hy).mpr q))) (fun h => kf ((iZ_eq hx hy).mp h))
theorem zz_if_ne (hexec : p.tables.exec = Jvm.exec) (hb : c.code = cc) {x off : Int} {tgt : Nat} (hdg : decode cc pc = .ok (.ifCond .ne off, 3)) (ht : (pc : Int) + off = (tgt : Int)) (hx : iB x) (kt : x ≠ 0 → W p l e R s m args below meth c H locs cells slots Q (F0 m tgt ls rest)) (kf : x = 0 → W p l e R s m args below meth c H locs cells slots Q (F0 m (pc + 3) ls rest)) : W p l e R s m args below meth c H locs cells slots Q (F0 m pc ls (.int (iZ x) :: rest)) :=
  have hy : iB 0 := ⟨by omega, by omega⟩
  lv_if_ne hexec hb hdg ht (fun h => kt (fun q => h ((iZ_eq hx hy).mpr q))) (fun h => kf ((iZ_eq hx hy).mp h))
theorem zz_icmp_lt (hexec : p.tables.exec = Jvm.exec) (hb : c.code = cc) {x y off : Int} {tgt : Nat} (hdg : decode cc pc = .ok (.if_icmp .lt off, 3)) (ht : (pc : Int) + off = (tgt : Int)) (hx : iB x) (hy : iB y) (kt : x < y → W p l e R s m args below meth c H locs cells slots Q (F0 m tgt ls rest)) (kf : y ≤ x → W p l e R s m args below meth c H locs cells slots Q (F0 m (pc + 3) ls rest)) : W p l e R s m args below meth c H locs cells slots Q (F0 m pc ls (.int (iZ y) :: .int (iZ x) :: rest)) :=
  lv_icmp_lt hexec hb hdg ht (fun h => kt ((iZ_lt hx hy).mp h)) (fun h => kf (Int.not_lt.mp fun q => h ((iZ_lt hx hy).mpr q)))
theorem zz_if_lt (hexec : p.tables.exec = Jvm.exec) (hb : c.code = cc) {x off : Int} {tgt : Nat} (hdg : decode cc pc = .ok (.ifCond .lt off, 3)) (ht : (pc : Int) + off = (tgt : Int)) (hx : iB x) (kt : x < 0 → W p l e R s m args below meth c H locs cells slots Q (F0 m tgt ls rest)) (kf : 0 ≤ x → W p l e R s m args below meth c H locs cells slots Q (F0 m (pc + 3) ls rest)) : W p l e R s m args below meth c H locs cells slots Q (F0 m pc ls (.int (iZ x) :: rest)) :=
  have hy : iB 0 := ⟨by omega, by omega⟩
  lv_if_lt hexec hb hdg ht (fun h => kt ((iZ_lt hx hy).mp h)) (fun h => kf (Int.not_lt.mp fun q => h ((iZ_lt hx hy).mpr q)))
theorem zz_icmp_ge (hexec : p.tables.exec = Jvm.exec) (hb : c.code = cc) {x y off : Int} {tgt : Nat} (hdg : decode cc pc = .ok (.if_icmp .ge off, 3)) (ht : (pc : Int) + off = (tgt : Int)) (hx : iB x) (hy : iB y) (kt : y ≤ x → W p l e R s m args below meth c H locs cells slots Q (F0 m tgt ls rest)) (kf : x < y → W p l e R s m args below meth c H locs cells slots Q (F0 m (pc + 3) ls rest)) : W p l e R s m args below meth c H locs cells slots Q (F0 m pc ls (.int (iZ y) :: .int (iZ x) :: rest)) :=
  lv_icmp_ge hexec hb hdg ht (fun h => kt ((iZ_le hy hx).mp h)) (fun h => kf (Int.not_le.mp fun q => h ((iZ_le hy hx).mpr q)))
theorem zz_if_ge (hexec : p.tables.exec = Jvm.exec) (hb : c.code = cc) {x off : Int} {tgt : Nat} (hdg : decode cc pc = .ok (.ifCond .ge off, 3)) (ht : (pc : Int) + off = (tgt : Int)) (hx : iB x) (kt : 0 ≤ x → W p l e R s m args below meth c H locs cells slots Q (F0 m tgt ls rest)) (kf : x < 0 → W p l e R s m args below meth c H locs cells slots Q (F0 m (pc + 3) ls rest)) : W p l e R s m args below meth c H locs cells slots Q (F0 m pc ls (.int (iZ x) :: rest)) :=
  have hy : iB 0 := ⟨by omega, by omega⟩
  lv_if_ge hexec hb hdg ht (fun h => kt ((iZ_le hy hx).mp h)) (fun h => kf (Int.not_le.mp fun q => h ((iZ_le hy hx).mpr q)))
theorem zz_icmp_gt (hexec : p.tables.exec = Jvm.exec) (hb : c.code = cc) {x y off : Int} {tgt : Nat} (hdg : decode cc pc = .ok (.if_icmp .gt off, 3)) (ht : (pc : Int) + off = (tgt : Int)) (hx : iB x) (hy : iB y) (kt : y < x → W p l e R s m args below meth c H locs cells slots Q (F0 m tgt ls rest)) (kf : x ≤ y → W p l e R s m args below meth c H locs cells slots Q (F0 m (pc + 3) ls rest)) : W p l e R s m args below meth c H locs cells slots Q (F0 m pc ls (.int (iZ y) :: .int (iZ x) :: rest)) :=
  lv_icmp_gt hexec hb hdg ht (fun h => kt ((iZ_lt hy hx).mp h)) (fun h => kf (Int.not_lt.mp fun q => h ((iZ_lt hy hx).mpr q)))
theorem zz_if_gt (hexec : p.tables.exec = Jvm.exec) (hb : c.code = cc) {x off : Int} {tgt : Nat} (hdg : decode cc pc = .ok (.ifCond .gt off, 3)) (ht : (pc : Int) + off = (tgt : Int)) (hx : iB x) (kt : 0 < x → W p l e R s m args below meth c H locs cells slots Q (F0 m tgt ls rest)) (kf : x ≤ 0 → W p l e R s m args below meth c H locs cells slots Q (F0 m (pc + 3) ls rest)) : W p l e R s m args below meth c H locs cells slots Q (F0 m pc ls (.int (iZ x) :: rest)) :=
  have hy : iB 0 := ⟨by omega, by omega⟩
  lv_if_gt hexec hb hdg ht (fun h => kt ((iZ_lt hy hx).mp h)) (fun h => kf (Int.not_lt.mp fun q => h ((iZ_lt hy hx).mpr q)))
theorem zz_icmp_le (hexec : p.tables.exec = Jvm.exec) (hb : c.code = cc) {x y off : Int} {tgt : Nat} (hdg : decode cc pc = .ok (.if_icmp .le off, 3)) (ht : (pc : Int) + off = (tgt : Int)) (hx : iB x) (hy : iB y) (kt : x ≤ y → W p l e R s m args below meth c H locs cells slots Q (F0 m tgt ls rest)) (kf : y < x → W p l e R s m args below meth c H locs cells slots Q (F0 m (pc + 3) ls rest)) : W p l e R s m args below meth c H locs cells slots Q (F0 m pc ls (.int (iZ y) :: .int (iZ x) :: rest)) :=
  lv_icmp_le hexec hb hdg ht (fun h => kt ((iZ_le hx hy).mp h)) (fun h => kf (Int.not_le.mp fun q => h ((iZ_le hx hy).mpr q)))
theorem zz_if_le (hexec : p.tables.exec = Jvm.exec) (hb : c.code = cc) {x off : Int} {tgt : Nat} (hdg : decode cc pc = .ok (.ifCond .le off, 3)) (ht : (pc : Int) + off = (tgt : Int)) (hx : iB x) (kt : x ≤ 0 → W p l e R s m args below meth c H locs cells slots Q (F0 m tgt ls rest)) (kf : 0 < x → W p l e R s m args below meth c H locs cells slots Q (F0 m (pc + 3) ls rest)) : W p l e R s m args below meth c H locs cells slots Q (F0 m pc ls (.int (iZ x) :: rest)) :=
  have hy : iB 0 := ⟨by omega, by omega⟩
  lv_if_le hexec hb hdg ht (fun h => kt ((iZ_le hx hy).mp h)) (fun h => kf (Int.not_le.mp fun q => h ((iZ_le hx hy).mpr q)))
theorem zz_bald (hexec : p.tables.exec = Jvm.exec) (hb : c.code = cc) (hK : va_K D cl tys s) (hP : va_P D cl ws H) (q0 t0 : Nat) {cA : ClassId} {n : Nat} {u : Nat → Int} {x : Int} (ha : ws[q0]? = some (a, .inl (cA, n, .inl (fun j => iZ (Int.bmod (u j) 256))))) (ht : tys[t0]? = some (cA, .byte)) (h0 : 0 ≤ x) (h1 : x < n) (hn : n < 2147483648) (hdg : decode cc pc = .ok (.baload, 1)) (k : W p l e R s m args below meth c H locs cells slots Q (F0 m (pc + 1) ls (.int (iZ (Int.bmod (u x.toNat) 256)) :: rest))) : W p l e R s m args below meth c H locs cells slots Q (F0 m pc ls (.int (iZ x) :: .ref a :: rest)) := by
  refine va_bald hexec hb hK hP q0 t0 ha ht (iZ_in h0 h1 hn) hdg ?_
  rw [iZ_cl h0 (by omega)]
  exact k
theorem zz_iald (hexec : p.tables.exec = Jvm.exec) (hb : c.code = cc) (hK : va_K D cl tys s) (hP : va_P D cl ws H) (q0 t0 : Nat) {cA : ClassId} {n : Nat} {u : Nat → Int} {x : Int} (ha : ws[q0]? = some (a, .inl (cA, n, .inl (fun j => iZ (u j))))) (ht : tys[t0]? = some (cA, .int)) (h0 : 0 ≤ x) (h1 : x < n) (hn : n < 2147483648) (hdg : decode cc pc = .ok (.iaload, 1)) (k : W p l e R s m args below meth c H locs cells slots Q (F0 m (pc + 1) ls (.int (iZ (u x.toNat)) :: rest))) : W p l e R s m args below meth c H locs cells slots Q (F0 m pc ls (.int (iZ x) :: .ref a :: rest)) := by
  refine va_iald hexec hb hK hP q0 t0 ha ht (iZ_in h0 h1 hn) hdg ?_
  rw [iZ_cl h0 (by omega)]
  exact k
theorem zz_lald (hexec : p.tables.exec = Jvm.exec) (hb : c.code = cc) (hK : va_K D cl tys s) (hP : va_P D cl ws H) (q0 t0 : Nat) {cA : ClassId} {n : Nat} {u : Nat → Int64} {x : Int} (ha : ws[q0]? = some (a, .inl (cA, n, .inr (.inl u)))) (ht : tys[t0]? = some (cA, .long)) (h0 : 0 ≤ x) (h1 : x < n) (hn : n < 2147483648) (hdg : decode cc pc = .ok (.laload, 1)) (k : W p l e R s m args below meth c H locs cells slots Q (F0 m (pc + 1) ls (.long (u x.toNat) :: rest))) : W p l e R s m args below meth c H locs cells slots Q (F0 m pc ls (.int (iZ x) :: .ref a :: rest)) := by
  refine va_lald hexec hb hK hP q0 t0 ha ht (iZ_in h0 h1 hn) hdg ?_
  rw [iZ_cl h0 (by omega)]
  exact k
theorem zz_bast (hexec : p.tables.exec = Jvm.exec) (hb : c.code = cc) (hK : va_K D cl tys s) (hP : va_P D cl ws H) (hD : va_D A ws) (hS : va_S A H0 H locs) (q0 t0 : Nat) {cA : ClassId} {n : Nat} {u : Nat → Int} {x v : Int} (ha : ws[q0]? = some (a, .inl (cA, n, .inl (fun j => iZ (Int.bmod (u j) 256))))) (ht : tys[t0]? = some (cA, .byte)) (h0 : 0 ≤ x) (h1 : x < n) (hn : n < 2147483648) (hdg : decode cc pc = .ok (.bastore, 1)) (kk : ∀ (H1 : Heap) (locs1 : List Loc), va_P D cl (ws.set q0 (a, .inl (cA, n, .inl (fun j => iZ (Int.bmod (va_up u x.toNat v j) 256))))) H1 → va_D A (ws.set q0 (a, .inl (cA, n, .inl (fun j => iZ (Int.bmod (va_up u x.toNat v j) 256))))) → va_S A H0 H1 locs1 → W p l e R s m args below meth c H1 locs1 cells slots Q (F0 m (pc + 1) ls rest)) : W p l e R s m args below meth c H locs cells slots Q (F0 m pc ls (.int (iZ v) :: .int (iZ x) :: .ref a :: rest)) := by
  refine va_bast hexec hb hK hP hD hS q0 t0 ha ht (iZ_in h0 h1 hn) hdg (fun H1 l1 h1' h2 h3 => ?_)
  have hf : upd (fun j => iZ (Int.bmod (u j) 256)) (iZ x).toNatClampNeg (vp_nar .byte (iZ v)) = (fun j => iZ (Int.bmod (va_up u x.toNat v j) 256)) := by
    funext j
    rw [iZ_cl h0 (by omega), vp_nar_byte, iZ_i8]
    by_cases hj : j = x.toNat
    · subst hj; rw [pk_us, va_up_self]
    · rw [pk_un hj, va_up_ne _ _ hj]
  rw [hf] at h1' h2
  exact kk H1 l1 h1' h2 h3
theorem zz_iast (hexec : p.tables.exec = Jvm.exec) (hb : c.code = cc) (hK : va_K D cl tys s) (hP : va_P D cl ws H) (hD : va_D A ws) (hS : va_S A H0 H locs) (q0 t0 : Nat) {cA : ClassId} {n : Nat} {u : Nat → Int} {x v : Int} (ha : ws[q0]? = some (a, .inl (cA, n, .inl (fun j => iZ (u j))))) (ht : tys[t0]? = some (cA, .int)) (h0 : 0 ≤ x) (h1 : x < n) (hn : n < 2147483648) (hdg : decode cc pc = .ok (.iastore, 1)) (kk : ∀ (H1 : Heap) (locs1 : List Loc), va_P D cl (ws.set q0 (a, .inl (cA, n, .inl (fun j => iZ (va_up u x.toNat v j))))) H1 → va_D A (ws.set q0 (a, .inl (cA, n, .inl (fun j => iZ (va_up u x.toNat v j))))) → va_S A H0 H1 locs1 → W p l e R s m args below meth c H1 locs1 cells slots Q (F0 m (pc + 1) ls rest)) : W p l e R s m args below meth c H locs cells slots Q (F0 m pc ls (.int (iZ v) :: .int (iZ x) :: .ref a :: rest)) := by
  refine va_iast hexec hb hK hP hD hS q0 t0 ha ht (iZ_in h0 h1 hn) hdg (fun H1 l1 h1' h2 h3 => ?_)
  have hf : upd (fun j => iZ (u j)) (iZ x).toNatClampNeg (iZ v) = (fun j => iZ (va_up u x.toNat v j)) := by
    funext j
    rw [iZ_cl h0 (by omega)]
    by_cases hj : j = x.toNat
    · subst hj; rw [pk_us, va_up_self]
    · rw [pk_un hj, va_up_ne _ _ hj]
  rw [hf] at h1' h2
  exact kk H1 l1 h1' h2 h3
theorem zz_last (hexec : p.tables.exec = Jvm.exec) (hb : c.code = cc) (hK : va_K D cl tys s) (hP : va_P D cl ws H) (hD : va_D A ws) (hS : va_S A H0 H locs) (q0 t0 : Nat) {cA : ClassId} {n : Nat} {u : Nat → Int64} {x : Int} {v : Int64} (ha : ws[q0]? = some (a, .inl (cA, n, .inr (.inl u)))) (ht : tys[t0]? = some (cA, .long)) (h0 : 0 ≤ x) (h1 : x < n) (hn : n < 2147483648) (hdg : decode cc pc = .ok (.lastore, 1)) (kk : ∀ (H1 : Heap) (locs1 : List Loc), va_P D cl (ws.set q0 (a, .inl (cA, n, .inr (.inl (va_up u x.toNat v))))) H1 → va_D A (ws.set q0 (a, .inl (cA, n, .inr (.inl (va_up u x.toNat v))))) → va_S A H0 H1 locs1 → W p l e R s m args below meth c H1 locs1 cells slots Q (F0 m (pc + 1) ls rest)) : W p l e R s m args below meth c H locs cells slots Q (F0 m pc ls (.long v :: .int (iZ x) :: .ref a :: rest)) := by
  refine va_last hexec hb hK hP hD hS q0 t0 ha ht (iZ_in h0 h1 hn) hdg (fun H1 l1 h1' h2 h3 => ?_)
  have hf : vp_updL u (iZ x).toNatClampNeg v = va_up u x.toNat v := by
    funext j
    rw [iZ_cl h0 (by omega)]
    by_cases hj : j = x.toNat
    · subst hj; rw [pk_uLs, va_up_self]
    · rw [pk_uLn hj, va_up_ne _ _ hj]
  rw [hf] at h1' h2
  exact kk H1 l1 h1' h2 h3
end ZZ
end
section
/-- what the tables say beside the good words: links inside the nest, the array over Block, the texts, what can be cast and what can't -/
def nzW : List Cond := [.methodLinkNest "LogDesk" 11 y_Ri_init "LogDesk", .methodLinkNest "LogDesk" 18 y_Ha_init "LogDesk", .methodLinkNest "LogDesk" 25 y_Wa_init "LogDesk", .methodLinkNest "LogDesk" 32 y_Pa_init "LogDesk", .methodLinkNest "LogDesk" 39 y_Di_init "LogDesk", .methodLinkNest "LogDesk$Ring" 17 y_De_blockOf "LogDesk", .methodLinkNest "LogDesk$Ring" 25 y_Bl_init "LogDesk"]
def nzF : List Cond := [.fieldLinkNest "LogDesk$Ring" 21 "LogDesk$Block" "cells" "[B" "LogDesk"]
def NZ (U : State) : Prop := (∀ w ∈ nzW, va_Nw w U) ∧ (∀ w ∈ nzF, va_Nw w U) ∧ va_AO "LogDesk$Block" U
theorem NZ.same {u U : State} (h : u.vm = U.vm) (z : NZ u) : NZ U := by
  refine ⟨fun w hw => ?_, fun w hw => ?_, ?_⟩
  · have hz := z.1 w hw
    simp only [nzW, List.mem_cons, List.not_mem_nil, or_false] at hw
    rcases hw with rfl | rfl | rfl | rfl | rfl | rfl | rfl <;> exact va_Nw.same rfl h hz
  · have hz := z.2.1 w hw
    simp only [nzF, List.mem_cons, List.not_mem_nil, or_false] at hw
    subst hw
    exact va_Nw.same rfl h hz
  · exact va_AO.moved (by rw [h]; exact Vm.Alike.refl _) z.2.2
theorem NZ.warm {s U : State} (h : s.WarmedH U.vm) (z : NZ s) : NZ U := by
  refine ⟨fun w hw => ?_, fun w hw => ?_, ?_⟩
  · have hz := z.1 w hw
    simp only [nzW, List.mem_cons, List.not_mem_nil, or_false] at hw
    rcases hw with rfl | rfl | rfl | rfl | rfl | rfl | rfl <;> exact va_Nw.warmM h hz
  · have hz := z.2.1 w hw
    simp only [nzF, List.mem_cons, List.not_mem_nil, or_false] at hw
    subst hw
    exact va_Nw.warmF h hz
  · exact va_AO.moved h.alike z.2.2
def zPc (D : va_G) (tys : List (ClassId × FieldType)) (av : List Value) (ws : va_W) (sz : Nat) : Array Value → State → Prop :=
  va_Pc av (fun U => U.heap.size = sz ∧ va_P D vwCl ws U.heap ∧ va_K D vwCl tys U ∧ va_D (fun _ => True) ws ∧ NZ U)
def zB (D : va_G) (tys : List (ClassId × FieldType)) (A : Nat → Prop) (ws : va_W) (_ : Unit) (t : State) : Prop := va_P D vwCl ws t.heap ∧ va_K D vwCl tys t ∧ va_D A ws
theorem zPc_blind {D : va_G} {tys : List (ClassId × FieldType)} {av : List Value} {ws : va_W} {sz : Nat} : FrameBlind (zPc D tys av ws sz) := fun a U g mk q => by
  obtain ⟨q0, q1, qP, qK, qD, qZ⟩ := q
  exact ⟨q0, q1, qP, va_K.moved (u := U) (U := U.calling g mk a) (Vm.Alike.refl U.vm) qK, qD, NZ.same (u := U) (U := U.calling g mk a) rfl qZ⟩
theorem zSub {ws wc : va_W} {is : List Nat} (h : is.map (fun i => ws[i]?) = wc.map some) : is.filterMap (fun i => ws[i]?) = wc := by
  have h1 : (is.map (fun i => ws[i]?)).filterMap id = (wc.map some).filterMap id := by rw [h]
  simpa [List.filterMap_map] using h1
section ZC
variable {p : Program} {l : Launch} {e : Env} {R : Room} {s : State} {m : MethodId} {args : Array Value} {below : List Frame} {meth : Method} {c : Code} {H : Heap} {locs : List Loc} {cells slots : Nat} {Q : State → Prop}
variable {cc : ByteArray} {pc : Nat} {ls : Array Slot} {rest st0 : List Value} {D : va_G} {A : Nat → Prop} {tys : List (ClassId × FieldType)} {ws wc wr w1 X cx rx pl pl1 : va_W} {H0 : Heap} {mc ms : Nat} {z : Int} {a : Array Value}
theorem zPreS {As : List Value} (hK : va_K D vwCl tys s) (hP : va_P D vwCl ws H) (hD : va_D A ws) (hZ : NZ s) (isC : List Nat) (hC : isC.map (fun i => ws[i]?) = wc.map some) (hn : va_nd isC = true) : PreS s H (zPc D tys As wc H.size) As :=
  ⟨zPc_blind, fun U hU hW => ⟨rfl, by rw [hU], by rw [hU]; exact hP.sub isC (zSub hC), va_K.moved hW.alike hK, (hD.sub isC hn hC).weaken (fun _ _ _ _ => trivial), hZ.warm hW⟩⟩
theorem zPreV {As : List Value} {b ci : Nat} {q : vw_C} {fs : List Value} (hK : va_K D vwCl tys s) (hP : va_P D vwCl ws H) (hD : va_D A ws) (hZ : NZ s) (isC : List Nat) (hC : isC.map (fun i => ws[i]?) = wc.map some) (hn : va_nd isC = true) (q0 : Nat) (hq : vwCl[ci]? = some q) (he : ws[q0]? = some (b, .inr (ci, fs))) : PreV s H q.1 b (zPc D tys (.ref b :: As) wc H.size) As :=
  ⟨zPc_blind, va_recv hK hP hq he, (zPreS (As := .ref b :: As) hK hP hD hZ isC hC hn).2⟩
theorem zPreSP {As : List Value} (hK : va_K D vwCl tys s) (hP : va_P D vwCl (X ++ pl) H) (hD : va_D A (X ++ pl)) (hZ : NZ s) (isC : List Nat) (hC : isC.map (fun i => X[i]?) = cx.map some) (hn : va_nd isC = true) : PreS s H (zPc D tys As (cx ++ pl) H.size) As :=
  ⟨zPc_blind, fun U hU hW => ⟨rfl, by rw [hU], by rw [hU]; exact hP.part isC hC, va_K.moved hW.alike hK, (hD.part isC hn hC).weaken (fun _ _ _ _ => trivial), hZ.warm hW⟩⟩
theorem zPreVP {As : List Value} {b ci : Nat} {q : vw_C} {fs : List Value} (hK : va_K D vwCl tys s) (hP : va_P D vwCl (X ++ pl) H) (hD : va_D A (X ++ pl)) (hZ : NZ s) (isC : List Nat) (hC : isC.map (fun i => X[i]?) = cx.map some) (hn : va_nd isC = true) (q0 : Nat) (hq : vwCl[ci]? = some q) (he : (X ++ pl)[q0]? = some (b, .inr (ci, fs))) : PreV s H q.1 b (zPc D tys (.ref b :: As) (cx ++ pl) H.size) As :=
  ⟨zPc_blind, va_recv hK hP hq he, (zPreSP (As := .ref b :: As) hK hP hD hZ isC hC hn).2⟩
/-- an int comes back; the callee's cells were some of ours -/
theorem z_i (hr : va_Run p l e R s m args below meth c H locs cells slots mc ms (F0 m pc ls st0) rest (va_Qi (fun (r : Int32) (_ : Unit) => r = iZ z) (zB D tys (va_A wc H.size) w1) (va_A wc H.size) a) (va_A wc H.size)) (hP : va_P D vwCl ws H) (hD : va_D A ws) (hS : va_S A H0 H locs) (hA : ∀ q, H0.size ≤ q → A q) (isC isR : List Nat) (hC : isC.map (fun i => ws[i]?) = wc.map some) (hR : isR.map (fun i => ws[i]?) = wr.map some) (hn : va_nd isR = true) (hdis : ∀ i ∈ isR, i ∉ isC)
    (kk : ∀ (H1 : Heap) (locs1 : List Loc), va_P D vwCl (wr ++ w1) H1 → va_D A (wr ++ w1) → va_S A H0 H1 locs1 → W p l e R s m args below meth c H1 locs1 (cells + mc) (slots + ms) Q (F0 m (pc + 3) ls (.int (iZ z) :: rest))) : W p l e R s m args below meth c H locs cells slots Q (F0 m pc ls st0) := by
  have hFc := va_free (wc := wc) hD hS hA isC hC
  refine va_calli hr hS (fun q _ h => hFc q h) hFc (fun r u t H1 locs1 ht hvm hw hB hz1 hk1 hS1 => ?_)
  obtain ⟨hP1, hK1, hD1⟩ := hB
  rw [ht] at hP1
  obtain ⟨hP2, hD2⟩ := va_join hP hD isC isR hC hR hn hdis hk1 hFc hP1 hD1
  rw [hw]
  exact kk H1 locs1 hP2 hD2 hS1
theorem z_v (hr : va_Run p l e R s m args below meth c H locs cells slots mc ms (F0 m pc ls st0) rest (va_Qv (fun (_ : Unit) => True) (zB D tys (va_A wc H.size) w1) (va_A wc H.size) a) (va_A wc H.size)) (hP : va_P D vwCl ws H) (hD : va_D A ws) (hS : va_S A H0 H locs) (hA : ∀ q, H0.size ≤ q → A q) (isC isR : List Nat) (hC : isC.map (fun i => ws[i]?) = wc.map some) (hR : isR.map (fun i => ws[i]?) = wr.map some) (hn : va_nd isR = true) (hdis : ∀ i ∈ isR, i ∉ isC)
    (kk : ∀ (H1 : Heap) (locs1 : List Loc), va_P D vwCl (wr ++ w1) H1 → va_D A (wr ++ w1) → va_S A H0 H1 locs1 → W p l e R s m args below meth c H1 locs1 (cells + mc) (slots + ms) Q (F0 m (pc + 3) ls rest)) : W p l e R s m args below meth c H locs cells slots Q (F0 m pc ls st0) := by
  have hFc := va_free (wc := wc) hD hS hA isC hC
  refine va_callv hr hS (fun q _ h => hFc q h) hFc (fun u t H1 locs1 ht hvm hw hB hz1 hk1 hS1 => ?_)
  obtain ⟨hP1, hK1, hD1⟩ := hB
  rw [ht] at hP1
  obtain ⟨hP2, hD2⟩ := va_join hP hD isC isR hC hR hn hdis hk1 hFc hP1 hD1
  exact kk H1 locs1 hP2 hD2 hS1
/-- the same; a pool of cells stays with the rest -/
theorem zq_i (hr : va_Run p l e R s m args below meth c H locs cells slots mc ms (F0 m pc ls st0) rest (va_Qi (fun (r : Int32) (_ : Unit) => r = iZ z) (zB D tys (va_A cx H.size) w1) (va_A cx H.size) a) (va_A cx H.size)) (hP : va_P D vwCl (X ++ pl) H) (hD : va_D A (X ++ pl)) (hS : va_S A H0 H locs) (hA : ∀ q, H0.size ≤ q → A q) (isC isR : List Nat) (hC : isC.map (fun i => X[i]?) = cx.map some) (hR : isR.map (fun i => X[i]?) = wr.map some) (hn : va_nd isR = true) (hdis : ∀ i ∈ isR, i ∉ isC) (hC2 : isC.map (fun i => (X ++ pl)[i]?) = cx.map some)
    (kk : ∀ (H1 : Heap) (locs1 : List Loc), va_P D vwCl ((wr ++ w1) ++ pl) H1 → va_D A ((wr ++ w1) ++ pl) → va_S A H0 H1 locs1 → W p l e R s m args below meth c H1 locs1 (cells + mc) (slots + ms) Q (F0 m (pc + 3) ls (.int (iZ z) :: rest))) : W p l e R s m args below meth c H locs cells slots Q (F0 m pc ls st0) := by
  have hFc := va_free (wc := cx) hD hS hA isC hC2
  refine va_calli hr hS (fun q _ h => hFc q h) hFc (fun r u t H1 locs1 ht hvm hw hB hz1 hk1 hS1 => ?_)
  obtain ⟨hP1, hK1, hD1⟩ := hB
  rw [ht] at hP1
  obtain ⟨hP2, hD2⟩ := va_joinQ hP hD isC isR hC hR hn hdis hk1 hFc hP1 hD1
  rw [hw]
  exact kk H1 locs1 hP2 hD2 hS1
theorem zq_v (hr : va_Run p l e R s m args below meth c H locs cells slots mc ms (F0 m pc ls st0) rest (va_Qv (fun (_ : Unit) => True) (zB D tys (va_A cx H.size) w1) (va_A cx H.size) a) (va_A cx H.size)) (hP : va_P D vwCl (X ++ pl) H) (hD : va_D A (X ++ pl)) (hS : va_S A H0 H locs) (hA : ∀ q, H0.size ≤ q → A q) (isC isR : List Nat) (hC : isC.map (fun i => X[i]?) = cx.map some) (hR : isR.map (fun i => X[i]?) = wr.map some) (hn : va_nd isR = true) (hdis : ∀ i ∈ isR, i ∉ isC) (hC2 : isC.map (fun i => (X ++ pl)[i]?) = cx.map some)
    (kk : ∀ (H1 : Heap) (locs1 : List Loc), va_P D vwCl ((wr ++ w1) ++ pl) H1 → va_D A ((wr ++ w1) ++ pl) → va_S A H0 H1 locs1 → W p l e R s m args below meth c H1 locs1 (cells + mc) (slots + ms) Q (F0 m (pc + 3) ls rest)) : W p l e R s m args below meth c H locs cells slots Q (F0 m pc ls st0) := by
  have hFc := va_free (wc := cx) hD hS hA isC hC2
  refine va_callv hr hS (fun q _ h => hFc q h) hFc (fun u t H1 locs1 ht hvm hw hB hz1 hk1 hS1 => ?_)
  obtain ⟨hP1, hK1, hD1⟩ := hB
  rw [ht] at hP1
  obtain ⟨hP2, hD2⟩ := va_joinQ hP hD isC isR hC hR hn hdis hk1 hFc hP1 hD1
  exact kk H1 locs1 hP2 hD2 hS1
/-- the same; the pool goes to the callee and comes back -/
theorem zp_i (hr : va_Run p l e R s m args below meth c H locs cells slots mc ms (F0 m pc ls st0) rest (va_Qi (fun (r : Int32) (_ : Unit) => r = iZ z) (zB D tys (va_A (cx ++ pl) H.size) (rx ++ pl1)) (va_A (cx ++ pl) H.size) a) (va_A (cx ++ pl) H.size)) (hP : va_P D vwCl (X ++ pl) H) (hD : va_D A (X ++ pl)) (hS : va_S A H0 H locs) (hA : ∀ q, H0.size ≤ q → A q) (isC isR : List Nat) (hC : isC.map (fun i => X[i]?) = cx.map some) (hR : isR.map (fun i => X[i]?) = wr.map some) (hn : va_nd isR = true) (hdis : ∀ i ∈ isR, i ∉ isC)
    (kk : ∀ (H1 : Heap) (locs1 : List Loc), va_P D vwCl ((wr ++ rx) ++ pl1) H1 → va_D A ((wr ++ rx) ++ pl1) → va_S A H0 H1 locs1 → W p l e R s m args below meth c H1 locs1 (cells + mc) (slots + ms) Q (F0 m (pc + 3) ls (.int (iZ z) :: rest))) : W p l e R s m args below meth c H locs cells slots Q (F0 m pc ls st0) := by
  have hFc := va_freeP (cx := cx) hD hS hA isC hC
  refine va_calli hr hS (fun q _ h => hFc q h) hFc (fun r u t H1 locs1 ht hvm hw hB hz1 hk1 hS1 => ?_)
  obtain ⟨hP1, hK1, hD1⟩ := hB
  rw [ht] at hP1
  obtain ⟨hP2, hD2⟩ := va_joinP hP hD isC isR hC hR hn hdis hk1 hFc hP1 hD1
  rw [hw]
  exact kk H1 locs1 hP2 hD2 hS1
theorem zp_v (hr : va_Run p l e R s m args below meth c H locs cells slots mc ms (F0 m pc ls st0) rest (va_Qv (fun (_ : Unit) => True) (zB D tys (va_A (cx ++ pl) H.size) (rx ++ pl1)) (va_A (cx ++ pl) H.size) a) (va_A (cx ++ pl) H.size)) (hP : va_P D vwCl (X ++ pl) H) (hD : va_D A (X ++ pl)) (hS : va_S A H0 H locs) (hA : ∀ q, H0.size ≤ q → A q) (isC isR : List Nat) (hC : isC.map (fun i => X[i]?) = cx.map some) (hR : isR.map (fun i => X[i]?) = wr.map some) (hn : va_nd isR = true) (hdis : ∀ i ∈ isR, i ∉ isC)
    (kk : ∀ (H1 : Heap) (locs1 : List Loc), va_P D vwCl ((wr ++ rx) ++ pl1) H1 → va_D A ((wr ++ rx) ++ pl1) → va_S A H0 H1 locs1 → W p l e R s m args below meth c H1 locs1 (cells + mc) (slots + ms) Q (F0 m (pc + 3) ls rest)) : W p l e R s m args below meth c H locs cells slots Q (F0 m pc ls st0) := by
  have hFc := va_freeP (cx := cx) hD hS hA isC hC
  refine va_callv hr hS (fun q _ h => hFc q h) hFc (fun u t H1 locs1 ht hvm hw hB hz1 hk1 hS1 => ?_)
  obtain ⟨hP1, hK1, hD1⟩ := hB
  rw [ht] at hP1
  obtain ⟨hP2, hD2⟩ := va_joinP hP hD isC isR hC hR hn hdis hk1 hFc hP1 hD1
  exact kk H1 locs1 hP2 hD2 hS1
end ZC
theorem gw_V {own C : String} {idx n : Nat} {y : MethodName} {b : ByteArray} {r : Option FieldType} (h1 : Cond.methodLink own idx y ∈ gw) (h2 : Cond.instanceMethod y ∈ gw) (h3 : Cond.selects C y y ∈ gw) (h4 : Cond.initialized C ∈ gw) (h5 : Cond.code y b n r ∈ gw) : GoodIn gw (wsV own idx C y (Cond.code y b n r :: gw)) := gw_callG (by
  intro w hw
  simp only [wsV, List.mem_append, List.mem_cons, List.not_mem_nil, or_false] at hw
  rcases hw with (rfl | rfl | rfl | rfl) | rfl | hw <;> assumption)
theorem gw_S {own : String} {idx n : Nat} {y : MethodName} {b : ByteArray} {r : Option FieldType} (h1 : Cond.methodLink own idx y ∈ gw) (h2 : Cond.static y ∈ gw) (h4 : Cond.initialized y.cls ∈ gw) (h5 : Cond.code y b n r ∈ gw) : GoodIn gw (va_wsS own idx y (Cond.code y b n r :: gw)) := gw_callG (by
  intro w hw
  simp only [va_wsS, List.mem_append, List.mem_cons, List.not_mem_nil, or_false] at hw
  rcases hw with (rfl | rfl | rfl) | rfl | hw <;> assumption)
theorem gw_I {n : Nat} {y : MethodName} {b : ByteArray} {r : Option FieldType} (h5 : Cond.code y b n r ∈ gw) : GoodIn gw (Cond.code y b n r :: gw) := gw_callG (gw_cons h5)
end
section
theorem up_lt {α : Type} {w u : Nat → α} {v : α} {i : Int} (h0 : 0 ≤ i) (hw : ∀ j : Nat, w j = if (j : Int) < i then v else u j) : ∀ j : Nat, va_up w i.toNat v j = if (j : Int) < i + 1 then v else u j := by
  intro j
  by_cases hj : j = i.toNat
  · subst hj
    rw [va_up_self, if_pos (by omega)]
  · rw [va_up_ne _ _ hj, hw]
    by_cases h : (j : Int) < i
    · rw [if_pos h, if_pos (by omega)]
    · rw [if_neg h, if_neg (by omega)]
theorem up_end {α : Type} {w u : Nat → α} {v : α} {i : Int} {N : Nat} (hi : i = N) (hw : ∀ j : Nat, w j = if (j : Int) < i then v else u j) : w = fun j => if j < N then v else u j := by
  funext j
  rw [hw j]
  by_cases h : j < N
  · rw [if_pos h, if_pos (by omega)]
  · rw [if_neg h, if_neg (by omega)]
/-- the session that waits with the smallest end, among the first n -/
def wfst (g : Nat → Int) : Nat → Int
  | 0 => -1
  | n + 1 => if g n ≠ 0 ∧ (wfst g n = -1 ∨ g n < g (wfst g n).toNat) then (n : Int) else wfst g n
theorem wfst_step {g : Nat → Int} {i f : Int} (h0 : 0 ≤ i) (hf : f = wfst g i.toNat) : wfst g (i + 1).toNat = if g i.toNat ≠ 0 ∧ (f = -1 ∨ g i.toNat < g f.toNat) then i else f := by
  have e : (i + 1).toNat = i.toNat + 1 := by omega
  rw [e, hf]
  show (if _ then ((i.toNat : Nat) : Int) else _) = _
  rw [Int.toNat_of_nonneg h0]
def wcnt (g : Nat → Int) : Nat → Int
  | 0 => 0
  | n + 1 => wcnt g n + if g n ≠ 0 then 1 else 0
theorem wcnt_step {g : Nat → Int} {i : Int} (h0 : 0 ≤ i) : wcnt g (i + 1).toNat = wcnt g i.toNat + if g i.toNat ≠ 0 then 1 else 0 := by
  have e : (i + 1).toNat = i.toNat + 1 := by omega
  rw [e]
  rfl
end
section
section ZZ2
variable {p : Program} {l : Launch} {e : Env} {R : Room} {s : State} {m : MethodId} {args : Array Value} {below : List Frame} {meth : Method} {c : Code} {H : Heap} {locs : List Loc} {cells slots : Nat} {Q : State → Prop}
variable {cc : ByteArray} {pc : Nat} {ls : Array Slot} {rest : List Value} {D : va_G} {cl : List vw_C} {A : Nat → Prop} {a : Nat} {tys : List (ClassId × FieldType)} {ws : va_W} {H0 : Heap}
theorem lg_cmp_0 {x y : Int64} : lg_cmp x y = 0 ↔ x = y := by
  unfold lg_cmp
  by_cases h1 : y < x
  · rw [if_pos h1]
    constructor
    · intro h; exact absurd h (by decide)
    · intro h; subst h; exact (Int64.lt_irrefl h1).elim
  · rw [if_neg h1]
    by_cases h2 : x = y
    · simp [h2]
    · simp [h2]
theorem zc_if_eq (hexec : p.tables.exec = Jvm.exec) (hb : c.code = cc) {x y : Int64} {off : Int} {tgt : Nat} (hdg : decode cc pc = .ok (.ifCond .eq off, 3)) (ht : (pc : Int) + off = (tgt : Int)) (kt : x = y → W p l e R s m args below meth c H locs cells slots Q (F0 m tgt ls rest)) (kf : x ≠ y → W p l e R s m args below meth c H locs cells slots Q (F0 m (pc + 3) ls rest)) : W p l e R s m args below meth c H locs cells slots Q (F0 m pc ls (.int (lg_cmp x y) :: rest)) :=
  lv_if_eq hexec hb hdg ht (fun h => kt (lg_cmp_0.mp h)) (fun h => kf (fun q => h (lg_cmp_0.mpr q)))
theorem zc_if_ne (hexec : p.tables.exec = Jvm.exec) (hb : c.code = cc) {x y : Int64} {off : Int} {tgt : Nat} (hdg : decode cc pc = .ok (.ifCond .ne off, 3)) (ht : (pc : Int) + off = (tgt : Int)) (kt : x ≠ y → W p l e R s m args below meth c H locs cells slots Q (F0 m tgt ls rest)) (kf : x = y → W p l e R s m args below meth c H locs cells slots Q (F0 m (pc + 3) ls rest)) : W p l e R s m args below meth c H locs cells slots Q (F0 m pc ls (.int (lg_cmp x y) :: rest)) :=
  lv_if_ne hexec hb hdg ht (fun h => kt (fun q => h (lg_cmp_0.mpr q))) (fun h => kf (lg_cmp_0.mp h))
end ZZ2
def zBx {S : Type} (D : va_G) (tys : List (ClassId × FieldType)) (A : Nat → Prop) (ws : S → va_W) (u : S) (t : State) : Prop := va_P D vwCl (ws u) t.heap ∧ va_K D vwCl tys t ∧ va_D A (ws u)
theorem z_vx {p : Program} {l : Launch} {e : Env} {R : Room} {s : State} {m : MethodId} {args : Array Value} {below : List Frame} {meth : Method} {c : Code} {H : Heap} {locs : List Loc} {cells slots : Nat} {Q : State → Prop} {pc : Nat} {ls : Array Slot} {rest st0 : List Value} {D : va_G} {A : Nat → Prop} {tys : List (ClassId × FieldType)} {ws wc wr : va_W} {H0 : Heap} {mc ms : Nat} {a : Array Value} {S : Type} {w1 : S → va_W} (hr : va_Run p l e R s m args below meth c H locs cells slots mc ms (F0 m pc ls st0) rest (va_Qv (fun (_ : S) => True) (zBx D tys (va_A wc H.size) w1) (va_A wc H.size) a) (va_A wc H.size)) (hP : va_P D vwCl ws H) (hD : va_D A ws) (hS : va_S A H0 H locs) (hA : ∀ q, H0.size ≤ q → A q) (isC isR : List Nat) (hC : isC.map (fun i => ws[i]?) = wc.map some) (hR : isR.map (fun i => ws[i]?) = wr.map some) (hn : va_nd isR = true) (hdis : ∀ i ∈ isR, i ∉ isC)
    (kk : ∀ (u : S) (H1 : Heap) (locs1 : List Loc), va_P D vwCl (wr ++ w1 u) H1 → va_D A (wr ++ w1 u) → va_S A H0 H1 locs1 → W p l e R s m args below meth c H1 locs1 (cells + mc) (slots + ms) Q (F0 m (pc + 3) ls rest)) : W p l e R s m args below meth c H locs cells slots Q (F0 m pc ls st0) := by
  have hFc := va_free (wc := wc) hD hS hA isC hC
  refine va_callv hr hS (fun q _ h => hFc q h) hFc (fun u t H1 locs1 ht hvm hw hB hz1 hk1 hS1 => ?_)
  obtain ⟨hP1, hK1, hD1⟩ := hB
  rw [ht] at hP1
  obtain ⟨hP2, hD2⟩ := va_join hP hD isC isR hC hR hn hdis hk1 hFc hP1 hD1
  exact kk u H1 locs1 hP2 hD2 hS1
theorem tyU {D : va_G} {cl : List vw_C} {tys : List (ClassId × FieldType)} {s : State} (hK : va_K D cl tys s) {i j : Nat} {a b : ClassId} {t : FieldType} (hi : tys[i]? = some (a, t)) (hj : tys[j]? = some (b, t)) : a = b := by
  have h1 := (hK.2 i _ hi).2
  have h2 := (hK.2 j _ hj).2
  cases t with
  | object C =>
    obtain ⟨-, -, -, -, -, h1⟩ := h1
    obtain ⟨-, -, -, -, -, h2⟩ := h2
    exact Option.some.inj (h1.symm.trans h2)
  | _ => exact Option.some.inj ((show s.vm.findClass _ = some a from h1).symm.trans h2)
theorem zz_min {p : Program} {l : Launch} {e : Env} {R : Room} {s : State} {m : MethodId} {args : Array Value} {below : List Frame} {meth : Method} {c : Code} {H : Heap} {locs : List Loc} {cells slots : Nat} {Q : State → Prop} {pc : Nat} {ls : Array Slot} {rest : List Value} {cc : ByteArray} (hexec : p.tables.exec = Jvm.exec) (hb : c.code = cc) (hml : c.maxLocals = ls.size) {own : String} {index : Nat} (hown : s.vm.findClass own = some m.cls) (hlink : (Cond.methodLink own index y_Ma_min).before args s = true) (hstat : (Cond.static y_Ma_min).before args s = true) (hini : (Cond.initialized "java/lang/Math").before args s = true) (hcode : (Cond.code y_Ma_min prog_13_method_69_code 2 (some .int)).before args s = true)
    (hframes : 1 ≤ R.frames) (hlocals : (rest.map fun v => v.category).sum + 13 ≤ R.locals) (hc : cells ≤ R.cells) (hs : slots ≤ R.slots) {x y : Int} (hx : iB x) (hy : iB y) (hdg : decode cc pc = .ok (.invokestatic index, 3))
    (kk : W p l e R s m args below meth c H locs cells slots Q (F0 m (pc + 3) ls (.int (iZ (if y < x then y else x)) :: rest))) : W p l e R s m args below meth c H locs cells slots Q (F0 m pc ls (.int (iZ y) :: .int (iZ x) :: rest)) := by
  have e1 : prog_13_method_69_code = Lib.Math.min.code := by decide +kernel
  rw [e1] at hcode
  refine va_mmin hexec hb hml hown hlink hstat hini hcode hframes hlocals hc hs hdg ?_
  have e2 : (if iZ y < iZ x then iZ y else iZ x) = iZ (if y < x then y else x) := by
    by_cases h : y < x
    · rw [if_pos h, if_pos ((iZ_lt hy hx).mpr h)]
    · rw [if_neg h, if_neg (fun q => h ((iZ_lt hy hx).mp q))]
  rw [e2]
  exact kk
theorem zz_num {p : Program} {l : Launch} {e : Env} {R : Room} {s : State} {m : MethodId} {args : Array Value} {below : List Frame} {meth : Method} {c : Code} {H : Heap} {locs : List Loc} {cells slots : Nat} {Q : State → Prop} {pc : Nat} {ls : Array Slot} {rest : List Value} {v : Int32} {z : Int} (h : v = iZ z) (k : W p l e R s m args below meth c H locs cells slots Q (F0 m pc ls (.int (iZ z) :: rest))) : W p l e R s m args below meth c H locs cells slots Q (F0 m pc ls (.int v :: rest)) := h ▸ k
end
section
set_option maxHeartbeats 4000000 in
set_option maxRecDepth 100000 in
/-- Disk.written() -/
theorem c_Di_written (l : Launch) (dC : Nat → ClassId) (dI : Nat → Nat → Nat) (cB : ClassId) (cI : ClassId) (cJ : ClassId) (cZ : ClassId) (cQ : ClassId) (h0 : Nat) (sz : Nat) (wr : Int) (lf : Int) : Met l y_Di_written ((Cond.code y_Di_written prog_3_method_2_code 1 (some .int)) :: gw) ({ frames := 0, cells := 0, slots := 0, locals := 0 } : Room) (zPc (dC, dI) [(cB, .byte), (cI, .int), (cJ, .long), (cZ, .boolean), (cQ, .object "LogDesk$Block")] [.ref h0] [(h0, .inr (1, [.int (iZ wr), .int (iZ lf)]))] sz) (va_Qi (fun (r : Int32) (_ : Unit) => r = iZ wr) (zB (dC, dI) [(cB, .byte), (cI, .int), (cJ, .long), (cZ, .boolean), (cQ, .object "LogDesk$Block")] (va_A [(h0, .inr (1, [.int (iZ wr), .int (iZ lf)]))] sz) [(h0, .inr (1, [.int (iZ wr), .int (iZ lf)]))]) (va_A [(h0, .inr (1, [.int (iZ wr), .int (iZ lf)]))] sz)) 0 0 (va_A [(h0, .inr (1, [.int (iZ wr), .int (iZ lf)]))] sz) := by
  refine Met.ofW (cc := prog_3_method_2_code) (maxL := 1) (ret := (some .int)) (by decide) rfl ?_
  intro p e s m args below meth c s₁ B hml hv
  obtain ⟨rfl, hsz, hP, hK, hD0, hZ⟩ := hv
  have hx := B.exec
  have hb := B.bytes
  have hr := B.returns
  have hts := atoms_spec (ws := (Cond.code y_Di_written prog_3_method_2_code 1 (some .int)) :: gw) B.pre
  have htg : ∀ w ∈ gw, w.before _ s = true := fun w h => hts w (List.mem_cons_of_mem _ h)
  have hown : s.vm.findClass "LogDesk$Disk" = some m.cls := findClass_of_methodNamed B.named
  have hlocks := B.notSynchronized
  subst hsz
  have hD := hD0.self (sz := s.heap.size)
  generalize hAe : va_A [(h0, .inr (1, [.int (iZ wr), .int (iZ lf)]))] s.heap.size = A at hD ⊢
  have hRc : (headSpec ((Cond.code y_Di_written prog_3_method_2_code 1 (some .int)) :: gw) ({ frames := 0, cells := 0, slots := 0, locals := 0 } : Room)).room.cells = 0 := rfl
  have hRs : (headSpec ((Cond.code y_Di_written prog_3_method_2_code 1 (some .int)) :: gw) ({ frames := 0, cells := 0, slots := 0, locals := 0 } : Room)).room.slots = 0 := rfl
  have hA : ∀ q : Nat, s.heap.size ≤ q → A q := fun q h => by rw [← hAe]; exact Or.inr h
  have hS : va_S A s.heap s.heap [] := va_S.rf
  have hP : va_P (dC, dI) vwCl [(h0, .inr (1, [.int (iZ wr), .int (iZ lf)]))] s.heap := hP
  have hl := lv_entry ([.ref h0]) (n := 1) (Nat.le_of_ble_eq_true rfl)
  rw [lg_entry_eq]
  generalize (lg_sl ([.ref h0]) ++ List.replicate (1 - (lg_sl ([.ref h0])).length) Slot.unset).toArray = ls at hl ⊢
  have hl : lv_has ls 1 [(0, .ref h0)] := hl
  refine lv_aload_n hx hb d_Di_written_0 rfl (lv_at hl 0 rfl) ?_
  refine va_get (D := (dC, dI)) (ci := 1) (v := .int (iZ wr)) (C := "LogDesk$Disk") (T := F_Di) (N := 2) hx hb htg hin_Di hown hK hP 0 rfl rfl 0 (by decide) (htg _ k_83) (fun _ h9 => h9) rfl d_Di_written_1 ?_
  exact W.iret (v := (iZ wr)) hx hb hr (fun t ht hW => ⟨⟨_, (), rfl, rfl, by rw [ht]; exact hP, va_K.moved hW.alike hK, hAe ▸ hD⟩, hAe ▸ hS.F ht⟩) (hAe ▸ hS.2.2) d_Di_written_4
set_option maxHeartbeats 4000000 in
set_option maxRecDepth 100000 in
/-- Disk.setCharge(n) -/
theorem c_Di_setCharge (l : Launch) (dC : Nat → ClassId) (dI : Nat → Nat → Nat) (cB : ClassId) (cI : ClassId) (cJ : ClassId) (cZ : ClassId) (cQ : ClassId) (h0 : Nat) (sz : Nat) (wr : Int) (lf : Int) (n : Int) : Met l y_Di_setCharge ((Cond.code y_Di_setCharge prog_3_method_3_code 2 none) :: gw) ({ frames := 0, cells := 0, slots := 0, locals := 0 } : Room) (zPc (dC, dI) [(cB, .byte), (cI, .int), (cJ, .long), (cZ, .boolean), (cQ, .object "LogDesk$Block")] [.ref h0, .int (iZ n)] [(h0, .inr (1, [.int (iZ wr), .int (iZ lf)]))] sz) (va_Qv (fun (_ : Unit) => True) (zB (dC, dI) [(cB, .byte), (cI, .int), (cJ, .long), (cZ, .boolean), (cQ, .object "LogDesk$Block")] (va_A [(h0, .inr (1, [.int (iZ wr), .int (iZ lf)]))] sz) [(h0, .inr (1, [.int (iZ wr), .int (iZ n)]))]) (va_A [(h0, .inr (1, [.int (iZ wr), .int (iZ lf)]))] sz)) 0 0 (va_A [(h0, .inr (1, [.int (iZ wr), .int (iZ lf)]))] sz) := by
  refine Met.ofW (cc := prog_3_method_3_code) (maxL := 2) (ret := none) (by decide) rfl ?_
  intro p e s m args below meth c s₁ B hml hv
  obtain ⟨rfl, hsz, hP, hK, hD0, hZ⟩ := hv
  have hx := B.exec
  have hb := B.bytes
  have hr := B.returns
  have hts := atoms_spec (ws := (Cond.code y_Di_setCharge prog_3_method_3_code 2 none) :: gw) B.pre
  have htg : ∀ w ∈ gw, w.before _ s = true := fun w h => hts w (List.mem_cons_of_mem _ h)
  have hown : s.vm.findClass "LogDesk$Disk" = some m.cls := findClass_of_methodNamed B.named
  have hlocks := B.notSynchronized
  subst hsz
  have hD := hD0.self (sz := s.heap.size)
  generalize hAe : va_A [(h0, .inr (1, [.int (iZ wr), .int (iZ lf)]))] s.heap.size = A at hD ⊢
  have hRc : (headSpec ((Cond.code y_Di_setCharge prog_3_method_3_code 2 none) :: gw) ({ frames := 0, cells := 0, slots := 0, locals := 0 } : Room)).room.cells = 0 := rfl
  have hRs : (headSpec ((Cond.code y_Di_setCharge prog_3_method_3_code 2 none) :: gw) ({ frames := 0, cells := 0, slots := 0, locals := 0 } : Room)).room.slots = 0 := rfl
  have hA : ∀ q : Nat, s.heap.size ≤ q → A q := fun q h => by rw [← hAe]; exact Or.inr h
  have hS : va_S A s.heap s.heap [] := va_S.rf
  have hP : va_P (dC, dI) vwCl [(h0, .inr (1, [.int (iZ wr), .int (iZ lf)]))] s.heap := hP
  have hl := lv_entry ([.ref h0, .int (iZ n)]) (n := 2) (Nat.le_of_ble_eq_true rfl)
  rw [lg_entry_eq]
  generalize (lg_sl ([.ref h0, .int (iZ n)]) ++ List.replicate (2 - (lg_sl ([.ref h0, .int (iZ n)])).length) Slot.unset).toArray = ls at hl ⊢
  have hl : lv_has ls 2 [(0, .ref h0), (1, .int (iZ n))] := hl
  refine lv_aload_n hx hb d_Di_setCharge_0 rfl (lv_at hl 0 rfl) ?_
  refine lv_iload_n hx hb d_Di_setCharge_1 rfl (lv_at hl 1 rfl) ?_
  refine va_put (D := (dC, dI)) (ci := 1) (v := .int (iZ n)) (ty := t_Di 1) (C := "LogDesk$Disk") (T := F_Di) (N := 2) hx hb htg hin_Di t_Di t_Di_ok n_Di hown hK hP hD hS 0 rfl rfl 1 (by decide) (htg _ k_84) (fun _ h9 => h9) rfl (by decide +kernel) rfl rfl (Nat.le_of_ble_eq_true rfl) d_Di_setCharge_2 (fun H locs hP hD hS => ?_)
  have hP : va_P (dC, dI) vwCl [(h0, .inr (1, [.int (iZ wr), .int (iZ n)]))] H := hP
  have hD : va_D A [(h0, .inr (1, [.int (iZ wr), .int (iZ n)]))] := hD
  exact W.vret hx hb hr (fun t ht hW => ⟨⟨(), rfl, trivial, by rw [ht]; exact hP, va_K.moved hW.alike hK, hAe ▸ hD⟩, hAe ▸ hS.F ht⟩) (hAe ▸ hS.2.2) d_Di_setCharge_5
set_option maxHeartbeats 4000000 in
set_option maxRecDepth 100000 in
/-- Disk.dropCharge() -/
theorem c_Di_dropCharge (l : Launch) (dC : Nat → ClassId) (dI : Nat → Nat → Nat) (cB : ClassId) (cI : ClassId) (cJ : ClassId) (cZ : ClassId) (cQ : ClassId) (h0 : Nat) (sz : Nat) (wr : Int) (lf : Int) : Met l y_Di_dropCharge ((Cond.code y_Di_dropCharge prog_3_method_4_code 1 none) :: gw) ({ frames := 0, cells := 0, slots := 0, locals := 0 } : Room) (zPc (dC, dI) [(cB, .byte), (cI, .int), (cJ, .long), (cZ, .boolean), (cQ, .object "LogDesk$Block")] [.ref h0] [(h0, .inr (1, [.int (iZ wr), .int (iZ lf)]))] sz) (va_Qv (fun (_ : Unit) => True) (zB (dC, dI) [(cB, .byte), (cI, .int), (cJ, .long), (cZ, .boolean), (cQ, .object "LogDesk$Block")] (va_A [(h0, .inr (1, [.int (iZ wr), .int (iZ lf)]))] sz) [(h0, .inr (1, [.int (iZ wr), .int (iZ (-1))]))]) (va_A [(h0, .inr (1, [.int (iZ wr), .int (iZ lf)]))] sz)) 0 0 (va_A [(h0, .inr (1, [.int (iZ wr), .int (iZ lf)]))] sz) := by
  refine Met.ofW (cc := prog_3_method_4_code) (maxL := 1) (ret := none) (by decide) rfl ?_
  intro p e s m args below meth c s₁ B hml hv
  obtain ⟨rfl, hsz, hP, hK, hD0, hZ⟩ := hv
  have hx := B.exec
  have hb := B.bytes
  have hr := B.returns
  have hts := atoms_spec (ws := (Cond.code y_Di_dropCharge prog_3_method_4_code 1 none) :: gw) B.pre
  have htg : ∀ w ∈ gw, w.before _ s = true := fun w h => hts w (List.mem_cons_of_mem _ h)
  have hown : s.vm.findClass "LogDesk$Disk" = some m.cls := findClass_of_methodNamed B.named
  have hlocks := B.notSynchronized
  subst hsz
  have hD := hD0.self (sz := s.heap.size)
  generalize hAe : va_A [(h0, .inr (1, [.int (iZ wr), .int (iZ lf)]))] s.heap.size = A at hD ⊢
  have hRc : (headSpec ((Cond.code y_Di_dropCharge prog_3_method_4_code 1 none) :: gw) ({ frames := 0, cells := 0, slots := 0, locals := 0 } : Room)).room.cells = 0 := rfl
  have hRs : (headSpec ((Cond.code y_Di_dropCharge prog_3_method_4_code 1 none) :: gw) ({ frames := 0, cells := 0, slots := 0, locals := 0 } : Room)).room.slots = 0 := rfl
  have hA : ∀ q : Nat, s.heap.size ≤ q → A q := fun q h => by rw [← hAe]; exact Or.inr h
  have hS : va_S A s.heap s.heap [] := va_S.rf
  have hP : va_P (dC, dI) vwCl [(h0, .inr (1, [.int (iZ wr), .int (iZ lf)]))] s.heap := hP
  have hl := lv_entry ([.ref h0]) (n := 1) (Nat.le_of_ble_eq_true rfl)
  rw [lg_entry_eq]
  generalize (lg_sl ([.ref h0]) ++ List.replicate (1 - (lg_sl ([.ref h0])).length) Slot.unset).toArray = ls at hl ⊢
  have hl : lv_has ls 1 [(0, .ref h0)] := hl
  refine lv_aload_n hx hb d_Di_dropCharge_0 rfl (lv_at hl 0 rfl) ?_
  refine lv_iconst (v := iZ (-1)) hx hb d_Di_dropCharge_1 rfl ?_
  refine va_put (D := (dC, dI)) (ci := 1) (v := .int (iZ (-1))) (ty := t_Di 1) (C := "LogDesk$Disk") (T := F_Di) (N := 2) hx hb htg hin_Di t_Di t_Di_ok n_Di hown hK hP hD hS 0 rfl rfl 1 (by decide) (htg _ k_84) (fun _ h9 => h9) rfl (by decide +kernel) rfl rfl (Nat.le_of_ble_eq_true rfl) d_Di_dropCharge_2 (fun H locs hP hD hS => ?_)
  have hP : va_P (dC, dI) vwCl [(h0, .inr (1, [.int (iZ wr), .int (iZ (-1))]))] H := hP
  have hD : va_D A [(h0, .inr (1, [.int (iZ wr), .int (iZ (-1))]))] := hD
  exact W.vret hx hb hr (fun t ht hW => ⟨⟨(), rfl, trivial, by rw [ht]; exact hP, va_K.moved hW.alike hK, hAe ▸ hD⟩, hAe ▸ hS.F ht⟩) (hAe ▸ hS.2.2) d_Di_dropCharge_5
set_option maxHeartbeats 4000000 in
set_option maxRecDepth 100000 in
/-- Disk.writeBlock() -/
theorem c_Di_writeBlock (l : Launch) (dC : Nat → ClassId) (dI : Nat → Nat → Nat) (cB : ClassId) (cI : ClassId) (cJ : ClassId) (cZ : ClassId) (cQ : ClassId) (h0 : Nat) (sz : Nat) (wr : Int) (lf : Int) (hlf : -1 ≤ lf ∧ lf < 1000) (hwr : 0 ≤ wr ∧ wr < 1000000000) : Met l y_Di_writeBlock ((Cond.code y_Di_writeBlock prog_3_method_5_code 1 (some .boolean)) :: gw) ({ frames := 0, cells := 0, slots := 0, locals := 0 } : Room) (zPc (dC, dI) [(cB, .byte), (cI, .int), (cJ, .long), (cZ, .boolean), (cQ, .object "LogDesk$Block")] [.ref h0] [(h0, .inr (1, [.int (iZ wr), .int (iZ lf)]))] sz) (va_Qi (fun (r : Int32) (_ : Unit) => r = iZ (if lf = 0 then 0 else 1)) (zB (dC, dI) [(cB, .byte), (cI, .int), (cJ, .long), (cZ, .boolean), (cQ, .object "LogDesk$Block")] (va_A [(h0, .inr (1, [.int (iZ wr), .int (iZ lf)]))] sz) [(h0, .inr (1, [.int (iZ (if lf = 0 then wr else wr + 1)), .int (iZ (if 0 < lf then lf - 1 else lf))]))]) (va_A [(h0, .inr (1, [.int (iZ wr), .int (iZ lf)]))] sz)) 0 0 (va_A [(h0, .inr (1, [.int (iZ wr), .int (iZ lf)]))] sz) := by
  refine Met.ofW (cc := prog_3_method_5_code) (maxL := 1) (ret := (some .boolean)) (by decide) rfl ?_
  intro p e s m args below meth c s₁ B hml hv
  obtain ⟨rfl, hsz, hP, hK, hD0, hZ⟩ := hv
  have hx := B.exec
  have hb := B.bytes
  have hr := B.returns
  have hts := atoms_spec (ws := (Cond.code y_Di_writeBlock prog_3_method_5_code 1 (some .boolean)) :: gw) B.pre
  have htg : ∀ w ∈ gw, w.before _ s = true := fun w h => hts w (List.mem_cons_of_mem _ h)
  have hown : s.vm.findClass "LogDesk$Disk" = some m.cls := findClass_of_methodNamed B.named
  have hlocks := B.notSynchronized
  subst hsz
  have hD := hD0.self (sz := s.heap.size)
  generalize hAe : va_A [(h0, .inr (1, [.int (iZ wr), .int (iZ lf)]))] s.heap.size = A at hD ⊢
  have hRc : (headSpec ((Cond.code y_Di_writeBlock prog_3_method_5_code 1 (some .boolean)) :: gw) ({ frames := 0, cells := 0, slots := 0, locals := 0 } : Room)).room.cells = 0 := rfl
  have hRs : (headSpec ((Cond.code y_Di_writeBlock prog_3_method_5_code 1 (some .boolean)) :: gw) ({ frames := 0, cells := 0, slots := 0, locals := 0 } : Room)).room.slots = 0 := rfl
  have hA : ∀ q : Nat, s.heap.size ≤ q → A q := fun q h => by rw [← hAe]; exact Or.inr h
  have hS : va_S A s.heap s.heap [] := va_S.rf
  have hP : va_P (dC, dI) vwCl [(h0, .inr (1, [.int (iZ wr), .int (iZ lf)]))] s.heap := hP
  have hl := lv_entry ([.ref h0]) (n := 1) (Nat.le_of_ble_eq_true rfl)
  rw [lg_entry_eq]
  generalize (lg_sl ([.ref h0]) ++ List.replicate (1 - (lg_sl ([.ref h0])).length) Slot.unset).toArray = ls at hl ⊢
  have hl : lv_has ls 1 [(0, .ref h0)] := hl
  refine lv_aload_n hx hb d_Di_writeBlock_0 rfl (lv_at hl 0 rfl) ?_
  refine va_get (D := (dC, dI)) (ci := 1) (v := .int (iZ lf)) (C := "LogDesk$Disk") (T := F_Di) (N := 2) hx hb htg hin_Di hown hK hP 0 rfl rfl 1 (by decide) (htg _ k_84) (fun _ h9 => h9) rfl d_Di_writeBlock_1 ?_
  refine zz_if_ne (tgt := 9) hx hb d_Di_writeBlock_4 (by decide) ⟨by omega, by omega⟩ (fun c_1 => ?_) (fun c_1 => ?_)
  · refine lv_aload_n hx hb d_Di_writeBlock_9 rfl (lv_at hl 0 rfl) ?_
    refine va_get (D := (dC, dI)) (ci := 1) (v := .int (iZ lf)) (C := "LogDesk$Disk") (T := F_Di) (N := 2) hx hb htg hin_Di hown hK hP 0 rfl rfl 1 (by decide) (htg _ k_84) (fun _ h9 => h9) rfl d_Di_writeBlock_10 ?_
    refine lv_iconst (v := iZ (-1)) hx hb d_Di_writeBlock_13 rfl ?_
    refine zz_icmp_eq (tgt := 27) hx hb d_Di_writeBlock_14 (by decide) ⟨by omega, by omega⟩ ⟨by omega, by omega⟩ (fun c_2 => ?_) (fun c_2 => ?_)
    · refine lv_aload_n hx hb d_Di_writeBlock_27 rfl (lv_at hl 0 rfl) ?_
      refine lv_dup hx hb d_Di_writeBlock_28 rfl ?_
      refine va_get (D := (dC, dI)) (ci := 1) (v := .int (iZ wr)) (C := "LogDesk$Disk") (T := F_Di) (N := 2) hx hb htg hin_Di hown hK hP 0 rfl rfl 0 (by decide) (htg _ k_83) (fun _ h9 => h9) rfl d_Di_writeBlock_29 ?_
      refine lv_iconst (v := iZ 1) hx hb d_Di_writeBlock_32 rfl ?_
      refine zz_iadd hx hb d_Di_writeBlock_33 ?_
      refine va_put (D := (dC, dI)) (ci := 1) (v := .int (iZ (wr + 1))) (ty := t_Di 0) (C := "LogDesk$Disk") (T := F_Di) (N := 2) hx hb htg hin_Di t_Di t_Di_ok n_Di hown hK hP hD hS 0 rfl rfl 0 (by decide) (htg _ k_83) (fun _ h9 => h9) rfl (by decide +kernel) rfl rfl (Nat.le_of_ble_eq_true rfl) d_Di_writeBlock_34 (fun H locs hP hD hS => ?_)
      have hP : va_P (dC, dI) vwCl [(h0, .inr (1, [.int (iZ (wr + 1)), .int (iZ lf)]))] H := hP
      have hD : va_D A [(h0, .inr (1, [.int (iZ (wr + 1)), .int (iZ lf)]))] := hD
      refine lv_iconst (v := iZ 1) hx hb d_Di_writeBlock_37 rfl ?_
      have eW : ∀ (x0 y0 : Int) (x1 y1 : Int), x0 = y0 → x1 = y1 → ([(h0, .inr (1, [.int (iZ x0), .int (iZ x1)]))] : va_W) = [(h0, .inr (1, [.int (iZ y0), .int (iZ y1)]))] := by intros; subst_vars; rfl
      have eW := eW (wr + 1) (if lf = 0 then wr else wr + 1) lf (if 0 < lf then lf - 1 else lf) (by omega) (by omega)
      have hP : va_P (dC, dI) vwCl [(h0, .inr (1, [.int (iZ (if lf = 0 then wr else wr + 1)), .int (iZ (if 0 < lf then lf - 1 else lf))]))] H := eW ▸ hP
      have hD : va_D A [(h0, .inr (1, [.int (iZ (if lf = 0 then wr else wr + 1)), .int (iZ (if 0 < lf then lf - 1 else lf))]))] := eW ▸ hD
      exact W.zret (v := (iZ 1)) hx hb hr rfl (fun t ht hW => ⟨⟨_, (), rfl, (congrArg iZ (by omega)), by rw [ht]; exact hP, va_K.moved hW.alike hK, hAe ▸ hD⟩, hAe ▸ hS.F ht⟩) (hAe ▸ hS.2.2) d_Di_writeBlock_38
    · refine lv_aload_n hx hb d_Di_writeBlock_17 rfl (lv_at hl 0 rfl) ?_
      refine lv_dup hx hb d_Di_writeBlock_18 rfl ?_
      refine va_get (D := (dC, dI)) (ci := 1) (v := .int (iZ lf)) (C := "LogDesk$Disk") (T := F_Di) (N := 2) hx hb htg hin_Di hown hK hP 0 rfl rfl 1 (by decide) (htg _ k_84) (fun _ h9 => h9) rfl d_Di_writeBlock_19 ?_
      refine lv_iconst (v := iZ 1) hx hb d_Di_writeBlock_22 rfl ?_
      refine zz_isub hx hb d_Di_writeBlock_23 ?_
      refine va_put (D := (dC, dI)) (ci := 1) (v := .int (iZ (lf - 1))) (ty := t_Di 1) (C := "LogDesk$Disk") (T := F_Di) (N := 2) hx hb htg hin_Di t_Di t_Di_ok n_Di hown hK hP hD hS 0 rfl rfl 1 (by decide) (htg _ k_84) (fun _ h9 => h9) rfl (by decide +kernel) rfl rfl (Nat.le_of_ble_eq_true rfl) d_Di_writeBlock_24 (fun H locs hP hD hS => ?_)
      have hP : va_P (dC, dI) vwCl [(h0, .inr (1, [.int (iZ wr), .int (iZ (lf - 1))]))] H := hP
      have hD : va_D A [(h0, .inr (1, [.int (iZ wr), .int (iZ (lf - 1))]))] := hD
      refine lv_aload_n hx hb d_Di_writeBlock_27 rfl (lv_at hl 0 rfl) ?_
      refine lv_dup hx hb d_Di_writeBlock_28 rfl ?_
      refine va_get (D := (dC, dI)) (ci := 1) (v := .int (iZ wr)) (C := "LogDesk$Disk") (T := F_Di) (N := 2) hx hb htg hin_Di hown hK hP 0 rfl rfl 0 (by decide) (htg _ k_83) (fun _ h9 => h9) rfl d_Di_writeBlock_29 ?_
      refine lv_iconst (v := iZ 1) hx hb d_Di_writeBlock_32 rfl ?_
      refine zz_iadd hx hb d_Di_writeBlock_33 ?_
      refine va_put (D := (dC, dI)) (ci := 1) (v := .int (iZ (wr + 1))) (ty := t_Di 0) (C := "LogDesk$Disk") (T := F_Di) (N := 2) hx hb htg hin_Di t_Di t_Di_ok n_Di hown hK hP hD hS 0 rfl rfl 0 (by decide) (htg _ k_83) (fun _ h9 => h9) rfl (by decide +kernel) rfl rfl (Nat.le_of_ble_eq_true rfl) d_Di_writeBlock_34 (fun H locs hP hD hS => ?_)
      have hP : va_P (dC, dI) vwCl [(h0, .inr (1, [.int (iZ (wr + 1)), .int (iZ (lf - 1))]))] H := hP
      have hD : va_D A [(h0, .inr (1, [.int (iZ (wr + 1)), .int (iZ (lf - 1))]))] := hD
      refine lv_iconst (v := iZ 1) hx hb d_Di_writeBlock_37 rfl ?_
      have eW : ∀ (x0 y0 : Int) (x1 y1 : Int), x0 = y0 → x1 = y1 → ([(h0, .inr (1, [.int (iZ x0), .int (iZ x1)]))] : va_W) = [(h0, .inr (1, [.int (iZ y0), .int (iZ y1)]))] := by intros; subst_vars; rfl
      have eW := eW (wr + 1) (if lf = 0 then wr else wr + 1) (lf - 1) (if 0 < lf then lf - 1 else lf) (by omega) (by omega)
      have hP : va_P (dC, dI) vwCl [(h0, .inr (1, [.int (iZ (if lf = 0 then wr else wr + 1)), .int (iZ (if 0 < lf then lf - 1 else lf))]))] H := eW ▸ hP
      have hD : va_D A [(h0, .inr (1, [.int (iZ (if lf = 0 then wr else wr + 1)), .int (iZ (if 0 < lf then lf - 1 else lf))]))] := eW ▸ hD
      exact W.zret (v := (iZ 1)) hx hb hr rfl (fun t ht hW => ⟨⟨_, (), rfl, (congrArg iZ (by omega)), by rw [ht]; exact hP, va_K.moved hW.alike hK, hAe ▸ hD⟩, hAe ▸ hS.F ht⟩) (hAe ▸ hS.2.2) d_Di_writeBlock_38
  · refine lv_iconst (v := iZ 0) hx hb d_Di_writeBlock_7 rfl ?_
    have eW : ∀ (x0 y0 : Int) (x1 y1 : Int), x0 = y0 → x1 = y1 → ([(h0, .inr (1, [.int (iZ x0), .int (iZ x1)]))] : va_W) = [(h0, .inr (1, [.int (iZ y0), .int (iZ y1)]))] := by intros; subst_vars; rfl
    have eW := eW wr (if lf = 0 then wr else wr + 1) lf (if 0 < lf then lf - 1 else lf) (by omega) (by omega)
    have hP : va_P (dC, dI) vwCl [(h0, .inr (1, [.int (iZ (if lf = 0 then wr else wr + 1)), .int (iZ (if 0 < lf then lf - 1 else lf))]))] s.heap := eW ▸ hP
    have hD : va_D A [(h0, .inr (1, [.int (iZ (if lf = 0 then wr else wr + 1)), .int (iZ (if 0 < lf then lf - 1 else lf))]))] := eW ▸ hD
    exact W.zret (v := (iZ 0)) hx hb hr rfl (fun t ht hW => ⟨⟨_, (), rfl, (congrArg iZ (by omega)), by rw [ht]; exact hP, va_K.moved hW.alike hK, hAe ▸ hD⟩, hAe ▸ hS.F ht⟩) (hAe ▸ hS.2.2) d_Di_writeBlock_8
set_option maxHeartbeats 4000000 in
set_option maxRecDepth 100000 in
/-- Hand.count() -/
theorem c_Ha_count (l : Launch) (dC : Nat → ClassId) (dI : Nat → Nat → Nat) (cB : ClassId) (cI : ClassId) (cJ : ClassId) (cZ : ClassId) (cQ : ClassId) (h0 h1 : Nat) (sz : Nat) (cnt : Int) (u : Nat → Int) : Met l y_Ha_count ((Cond.code y_Ha_count prog_4_method_2_code 1 (some .int)) :: gw) ({ frames := 0, cells := 0, slots := 0, locals := 0 } : Room) (zPc (dC, dI) [(cB, .byte), (cI, .int), (cJ, .long), (cZ, .boolean), (cQ, .object "LogDesk$Block")] [.ref h0] [(h0, .inr (2, [.ref h1, .int (iZ cnt)])), (h1, .inl (cB, 600, .inl (fun j => iZ (Int.bmod (u j) 256))))] sz) (va_Qi (fun (r : Int32) (_ : Unit) => r = iZ cnt) (zB (dC, dI) [(cB, .byte), (cI, .int), (cJ, .long), (cZ, .boolean), (cQ, .object "LogDesk$Block")] (va_A [(h0, .inr (2, [.ref h1, .int (iZ cnt)])), (h1, .inl (cB, 600, .inl (fun j => iZ (Int.bmod (u j) 256))))] sz) [(h0, .inr (2, [.ref h1, .int (iZ cnt)])), (h1, .inl (cB, 600, .inl (fun j => iZ (Int.bmod (u j) 256))))]) (va_A [(h0, .inr (2, [.ref h1, .int (iZ cnt)])), (h1, .inl (cB, 600, .inl (fun j => iZ (Int.bmod (u j) 256))))] sz)) 0 0 (va_A [(h0, .inr (2, [.ref h1, .int (iZ cnt)])), (h1, .inl (cB, 600, .inl (fun j => iZ (Int.bmod (u j) 256))))] sz) := by
  refine Met.ofW (cc := prog_4_method_2_code) (maxL := 1) (ret := (some .int)) (by decide) rfl ?_
  intro p e s m args below meth c s₁ B hml hv
  obtain ⟨rfl, hsz, hP, hK, hD0, hZ⟩ := hv
  have hx := B.exec
  have hb := B.bytes
  have hr := B.returns
  have hts := atoms_spec (ws := (Cond.code y_Ha_count prog_4_method_2_code 1 (some .int)) :: gw) B.pre
  have htg : ∀ w ∈ gw, w.before _ s = true := fun w h => hts w (List.mem_cons_of_mem _ h)
  have hown : s.vm.findClass "LogDesk$Hand" = some m.cls := findClass_of_methodNamed B.named
  have hlocks := B.notSynchronized
  subst hsz
  have hD := hD0.self (sz := s.heap.size)
  generalize hAe : va_A [(h0, .inr (2, [.ref h1, .int (iZ cnt)])), (h1, .inl (cB, 600, .inl (fun j => iZ (Int.bmod (u j) 256))))] s.heap.size = A at hD ⊢
  have hRc : (headSpec ((Cond.code y_Ha_count prog_4_method_2_code 1 (some .int)) :: gw) ({ frames := 0, cells := 0, slots := 0, locals := 0 } : Room)).room.cells = 0 := rfl
  have hRs : (headSpec ((Cond.code y_Ha_count prog_4_method_2_code 1 (some .int)) :: gw) ({ frames := 0, cells := 0, slots := 0, locals := 0 } : Room)).room.slots = 0 := rfl
  have hA : ∀ q : Nat, s.heap.size ≤ q → A q := fun q h => by rw [← hAe]; exact Or.inr h
  have hS : va_S A s.heap s.heap [] := va_S.rf
  have hP : va_P (dC, dI) vwCl [(h0, .inr (2, [.ref h1, .int (iZ cnt)])), (h1, .inl (cB, 600, .inl (fun j => iZ (Int.bmod (u j) 256))))] s.heap := hP
  have hl := lv_entry ([.ref h0]) (n := 1) (Nat.le_of_ble_eq_true rfl)
  rw [lg_entry_eq]
  generalize (lg_sl ([.ref h0]) ++ List.replicate (1 - (lg_sl ([.ref h0])).length) Slot.unset).toArray = ls at hl ⊢
  have hl : lv_has ls 1 [(0, .ref h0)] := hl
  refine lv_aload_n hx hb d_Ha_count_0 rfl (lv_at hl 0 rfl) ?_
  refine va_get (D := (dC, dI)) (ci := 2) (v := .int (iZ cnt)) (C := "LogDesk$Hand") (T := F_Ha) (N := 2) hx hb htg hin_Ha hown hK hP 0 rfl rfl 1 (by decide) (htg _ k_45) (fun _ h9 => h9) rfl d_Ha_count_1 ?_
  exact W.iret (v := (iZ cnt)) hx hb hr (fun t ht hW => ⟨⟨_, (), rfl, rfl, by rw [ht]; exact hP, va_K.moved hW.alike hK, hAe ▸ hD⟩, hAe ▸ hS.F ht⟩) (hAe ▸ hS.2.2) d_Ha_count_4
set_option maxHeartbeats 4000000 in
set_option maxRecDepth 100000 in
/-- Hand.hasRoomFor(n) -/
theorem c_Ha_hasRoomFor (l : Launch) (dC : Nat → ClassId) (dI : Nat → Nat → Nat) (cB : ClassId) (cI : ClassId) (cJ : ClassId) (cZ : ClassId) (cQ : ClassId) (h0 h1 : Nat) (sz : Nat) (cnt : Int) (u : Nat → Int) (n : Int) (hc : 0 ≤ cnt ∧ cnt ≤ 600) (hn : iB n) : Met l y_Ha_hasRoomFor ((Cond.code y_Ha_hasRoomFor prog_4_method_3_code 2 (some .boolean)) :: gw) ({ frames := 0, cells := 0, slots := 0, locals := 0 } : Room) (zPc (dC, dI) [(cB, .byte), (cI, .int), (cJ, .long), (cZ, .boolean), (cQ, .object "LogDesk$Block")] [.ref h0, .int (iZ n)] [(h0, .inr (2, [.ref h1, .int (iZ cnt)])), (h1, .inl (cB, 600, .inl (fun j => iZ (Int.bmod (u j) 256))))] sz) (va_Qi (fun (r : Int32) (_ : Unit) => r = iZ (if n ≤ 600 - cnt then 1 else 0)) (zB (dC, dI) [(cB, .byte), (cI, .int), (cJ, .long), (cZ, .boolean), (cQ, .object "LogDesk$Block")] (va_A [(h0, .inr (2, [.ref h1, .int (iZ cnt)])), (h1, .inl (cB, 600, .inl (fun j => iZ (Int.bmod (u j) 256))))] sz) [(h0, .inr (2, [.ref h1, .int (iZ cnt)])), (h1, .inl (cB, 600, .inl (fun j => iZ (Int.bmod (u j) 256))))]) (va_A [(h0, .inr (2, [.ref h1, .int (iZ cnt)])), (h1, .inl (cB, 600, .inl (fun j => iZ (Int.bmod (u j) 256))))] sz)) 0 0 (va_A [(h0, .inr (2, [.ref h1, .int (iZ cnt)])), (h1, .inl (cB, 600, .inl (fun j => iZ (Int.bmod (u j) 256))))] sz) := by
  refine Met.ofW (cc := prog_4_method_3_code) (maxL := 2) (ret := (some .boolean)) (by decide) rfl ?_
  intro p e s m args below meth c s₁ B hml hv
  obtain ⟨rfl, hsz, hP, hK, hD0, hZ⟩ := hv
  have hx := B.exec
  have hb := B.bytes
  have hr := B.returns
  have hts := atoms_spec (ws := (Cond.code y_Ha_hasRoomFor prog_4_method_3_code 2 (some .boolean)) :: gw) B.pre
  have htg : ∀ w ∈ gw, w.before _ s = true := fun w h => hts w (List.mem_cons_of_mem _ h)
  have hown : s.vm.findClass "LogDesk$Hand" = some m.cls := findClass_of_methodNamed B.named
  have hlocks := B.notSynchronized
  subst hsz
  have hD := hD0.self (sz := s.heap.size)
  generalize hAe : va_A [(h0, .inr (2, [.ref h1, .int (iZ cnt)])), (h1, .inl (cB, 600, .inl (fun j => iZ (Int.bmod (u j) 256))))] s.heap.size = A at hD ⊢
  have hRc : (headSpec ((Cond.code y_Ha_hasRoomFor prog_4_method_3_code 2 (some .boolean)) :: gw) ({ frames := 0, cells := 0, slots := 0, locals := 0 } : Room)).room.cells = 0 := rfl
  have hRs : (headSpec ((Cond.code y_Ha_hasRoomFor prog_4_method_3_code 2 (some .boolean)) :: gw) ({ frames := 0, cells := 0, slots := 0, locals := 0 } : Room)).room.slots = 0 := rfl
  have hA : ∀ q : Nat, s.heap.size ≤ q → A q := fun q h => by rw [← hAe]; exact Or.inr h
  have hS : va_S A s.heap s.heap [] := va_S.rf
  have hP : va_P (dC, dI) vwCl [(h0, .inr (2, [.ref h1, .int (iZ cnt)])), (h1, .inl (cB, 600, .inl (fun j => iZ (Int.bmod (u j) 256))))] s.heap := hP
  have hl := lv_entry ([.ref h0, .int (iZ n)]) (n := 2) (Nat.le_of_ble_eq_true rfl)
  rw [lg_entry_eq]
  generalize (lg_sl ([.ref h0, .int (iZ n)]) ++ List.replicate (2 - (lg_sl ([.ref h0, .int (iZ n)])).length) Slot.unset).toArray = ls at hl ⊢
  have hl : lv_has ls 2 [(0, .ref h0), (1, .int (iZ n))] := hl
  have hn1 := hn.1
  have hn2 := hn.2
  refine lv_iload_n hx hb d_Ha_hasRoomFor_0 rfl (lv_at hl 1 rfl) ?_
  refine lv_sipush (v := iZ 600) hx hb d_Ha_hasRoomFor_1 (by decide) ?_
  refine lv_aload_n hx hb d_Ha_hasRoomFor_4 rfl (lv_at hl 0 rfl) ?_
  refine va_get (D := (dC, dI)) (ci := 2) (v := .int (iZ cnt)) (C := "LogDesk$Hand") (T := F_Ha) (N := 2) hx hb htg hin_Ha hown hK hP 0 rfl rfl 1 (by decide) (htg _ k_45) (fun _ h9 => h9) rfl d_Ha_hasRoomFor_5 ?_
  refine zz_isub hx hb d_Ha_hasRoomFor_8 ?_
  refine zz_icmp_gt (tgt := 16) hx hb d_Ha_hasRoomFor_9 (by decide) ⟨by omega, by omega⟩ ⟨by omega, by omega⟩ (fun c_1 => ?_) (fun c_1 => ?_)
  · refine lv_iconst (v := iZ 0) hx hb d_Ha_hasRoomFor_16 rfl ?_
    exact W.zret (v := (iZ 0)) hx hb hr rfl (fun t ht hW => ⟨⟨_, (), rfl, (congrArg iZ (by omega)), by rw [ht]; exact hP, va_K.moved hW.alike hK, hAe ▸ hD⟩, hAe ▸ hS.F ht⟩) (hAe ▸ hS.2.2) d_Ha_hasRoomFor_17
  · refine lv_iconst (v := iZ 1) hx hb d_Ha_hasRoomFor_12 rfl ?_
    refine lv_goto (tgt := 17) hx hb d_Ha_hasRoomFor_13 (by decide) ?_
    exact W.zret (v := (iZ 1)) hx hb hr rfl (fun t ht hW => ⟨⟨_, (), rfl, (congrArg iZ (by omega)), by rw [ht]; exact hP, va_K.moved hW.alike hK, hAe ▸ hD⟩, hAe ▸ hS.F ht⟩) (hAe ▸ hS.2.2) d_Ha_hasRoomFor_17
set_option maxHeartbeats 4000000 in
set_option maxRecDepth 100000 in
/-- Hand.add(v) -/
theorem c_Ha_add (l : Launch) (dC : Nat → ClassId) (dI : Nat → Nat → Nat) (cB : ClassId) (cI : ClassId) (cJ : ClassId) (cZ : ClassId) (cQ : ClassId) (h0 h1 : Nat) (sz : Nat) (cnt : Int) (u : Nat → Int) (v : Int) (hc : 0 ≤ cnt ∧ cnt < 600) : Met l y_Ha_add ((Cond.code y_Ha_add prog_4_method_4_code 2 none) :: gw) ({ frames := 0, cells := 0, slots := 0, locals := 0 } : Room) (zPc (dC, dI) [(cB, .byte), (cI, .int), (cJ, .long), (cZ, .boolean), (cQ, .object "LogDesk$Block")] [.ref h0, .int (iZ v)] [(h0, .inr (2, [.ref h1, .int (iZ cnt)])), (h1, .inl (cB, 600, .inl (fun j => iZ (Int.bmod (u j) 256))))] sz) (va_Qv (fun (_ : Unit) => True) (zB (dC, dI) [(cB, .byte), (cI, .int), (cJ, .long), (cZ, .boolean), (cQ, .object "LogDesk$Block")] (va_A [(h0, .inr (2, [.ref h1, .int (iZ cnt)])), (h1, .inl (cB, 600, .inl (fun j => iZ (Int.bmod (u j) 256))))] sz) [(h0, .inr (2, [.ref h1, .int (iZ (cnt + 1))])), (h1, .inl (cB, 600, .inl (fun j => iZ (Int.bmod ((va_up u cnt.toNat (Int.bmod v 256)) j) 256))))]) (va_A [(h0, .inr (2, [.ref h1, .int (iZ cnt)])), (h1, .inl (cB, 600, .inl (fun j => iZ (Int.bmod (u j) 256))))] sz)) 0 0 (va_A [(h0, .inr (2, [.ref h1, .int (iZ cnt)])), (h1, .inl (cB, 600, .inl (fun j => iZ (Int.bmod (u j) 256))))] sz) := by
  refine Met.ofW (cc := prog_4_method_4_code) (maxL := 2) (ret := none) (by decide) rfl ?_
  intro p e s m args below meth c s₁ B hml hv
  obtain ⟨rfl, hsz, hP, hK, hD0, hZ⟩ := hv
  have hx := B.exec
  have hb := B.bytes
  have hr := B.returns
  have hts := atoms_spec (ws := (Cond.code y_Ha_add prog_4_method_4_code 2 none) :: gw) B.pre
  have htg : ∀ w ∈ gw, w.before _ s = true := fun w h => hts w (List.mem_cons_of_mem _ h)
  have hown : s.vm.findClass "LogDesk$Hand" = some m.cls := findClass_of_methodNamed B.named
  have hlocks := B.notSynchronized
  subst hsz
  have hD := hD0.self (sz := s.heap.size)
  generalize hAe : va_A [(h0, .inr (2, [.ref h1, .int (iZ cnt)])), (h1, .inl (cB, 600, .inl (fun j => iZ (Int.bmod (u j) 256))))] s.heap.size = A at hD ⊢
  have hRc : (headSpec ((Cond.code y_Ha_add prog_4_method_4_code 2 none) :: gw) ({ frames := 0, cells := 0, slots := 0, locals := 0 } : Room)).room.cells = 0 := rfl
  have hRs : (headSpec ((Cond.code y_Ha_add prog_4_method_4_code 2 none) :: gw) ({ frames := 0, cells := 0, slots := 0, locals := 0 } : Room)).room.slots = 0 := rfl
  have hA : ∀ q : Nat, s.heap.size ≤ q → A q := fun q h => by rw [← hAe]; exact Or.inr h
  have hS : va_S A s.heap s.heap [] := va_S.rf
  have hP : va_P (dC, dI) vwCl [(h0, .inr (2, [.ref h1, .int (iZ cnt)])), (h1, .inl (cB, 600, .inl (fun j => iZ (Int.bmod (u j) 256))))] s.heap := hP
  have hl := lv_entry ([.ref h0, .int (iZ v)]) (n := 2) (Nat.le_of_ble_eq_true rfl)
  rw [lg_entry_eq]
  generalize (lg_sl ([.ref h0, .int (iZ v)]) ++ List.replicate (2 - (lg_sl ([.ref h0, .int (iZ v)])).length) Slot.unset).toArray = ls at hl ⊢
  have hl : lv_has ls 2 [(0, .ref h0), (1, .int (iZ v))] := hl
  refine lv_aload_n hx hb d_Ha_add_0 rfl (lv_at hl 0 rfl) ?_
  refine va_get (D := (dC, dI)) (ci := 2) (v := .int (iZ cnt)) (C := "LogDesk$Hand") (T := F_Ha) (N := 2) hx hb htg hin_Ha hown hK hP 0 rfl rfl 1 (by decide) (htg _ k_45) (fun _ h9 => h9) rfl d_Ha_add_1 ?_
  refine zz_if_lt (tgt := 38) hx hb d_Ha_add_4 (by decide) ⟨by omega, by omega⟩ (fun c_1 => ?_) (fun c_1 => ?_)
  · exfalso; omega
  · refine lv_aload_n hx hb d_Ha_add_7 rfl (lv_at hl 0 rfl) ?_
    refine va_get (D := (dC, dI)) (ci := 2) (v := .int (iZ cnt)) (C := "LogDesk$Hand") (T := F_Ha) (N := 2) hx hb htg hin_Ha hown hK hP 0 rfl rfl 1 (by decide) (htg _ k_45) (fun _ h9 => h9) rfl d_Ha_add_8 ?_
    refine lv_sipush (v := iZ 600) hx hb d_Ha_add_11 (by decide) ?_
    refine zz_icmp_ge (tgt := 38) hx hb d_Ha_add_14 (by decide) ⟨by omega, by omega⟩ ⟨by omega, by omega⟩ (fun c_2 => ?_) (fun c_2 => ?_)
    · exfalso; omega
    · refine lv_aload_n hx hb d_Ha_add_17 rfl (lv_at hl 0 rfl) ?_
      refine va_get (D := (dC, dI)) (ci := 2) (v := .ref h1) (C := "LogDesk$Hand") (T := F_Ha) (N := 2) hx hb htg hin_Ha hown hK hP 0 rfl rfl 0 (by decide) (htg _ k_44) (fun _ h9 => h9) rfl d_Ha_add_18 ?_
      refine lv_aload_n hx hb d_Ha_add_21 rfl (lv_at hl 0 rfl) ?_
      refine va_get (D := (dC, dI)) (ci := 2) (v := .int (iZ cnt)) (C := "LogDesk$Hand") (T := F_Ha) (N := 2) hx hb htg hin_Ha hown hK hP 0 rfl rfl 1 (by decide) (htg _ k_45) (fun _ h9 => h9) rfl d_Ha_add_22 ?_
      refine lv_iload_n hx hb d_Ha_add_25 rfl (lv_at hl 1 rfl) ?_
      refine zz_i2b hx hb d_Ha_add_26 ?_
      refine zz_bast hx hb hK hP hD hS 1 0 rfl rfl (by omega) (by omega) (by omega) d_Ha_add_27 (fun H locs hP hD hS => ?_)
      have hP : va_P (dC, dI) vwCl [(h0, .inr (2, [.ref h1, .int (iZ cnt)])), (h1, .inl (cB, 600, .inl (fun j => iZ (Int.bmod ((va_up u (cnt).toNat (Int.bmod v 256)) j) 256))))] H := hP
      have hD : va_D A [(h0, .inr (2, [.ref h1, .int (iZ cnt)])), (h1, .inl (cB, 600, .inl (fun j => iZ (Int.bmod ((va_up u (cnt).toNat (Int.bmod v 256)) j) 256))))] := hD
      refine lv_aload_n hx hb d_Ha_add_28 rfl (lv_at hl 0 rfl) ?_
      refine lv_dup hx hb d_Ha_add_29 rfl ?_
      refine va_get (D := (dC, dI)) (ci := 2) (v := .int (iZ cnt)) (C := "LogDesk$Hand") (T := F_Ha) (N := 2) hx hb htg hin_Ha hown hK hP 0 rfl rfl 1 (by decide) (htg _ k_45) (fun _ h9 => h9) rfl d_Ha_add_30 ?_
      refine lv_iconst (v := iZ 1) hx hb d_Ha_add_33 rfl ?_
      refine zz_iadd hx hb d_Ha_add_34 ?_
      refine va_put (D := (dC, dI)) (ci := 2) (v := .int (iZ (cnt + 1))) (ty := t_Ha 1) (C := "LogDesk$Hand") (T := F_Ha) (N := 2) hx hb htg hin_Ha t_Ha t_Ha_ok n_Ha hown hK hP hD hS 0 rfl rfl 1 (by decide) (htg _ k_45) (fun _ h9 => h9) rfl (by decide +kernel) rfl rfl (Nat.le_of_ble_eq_true rfl) d_Ha_add_35 (fun H locs hP hD hS => ?_)
      have hP : va_P (dC, dI) vwCl [(h0, .inr (2, [.ref h1, .int (iZ (cnt + 1))])), (h1, .inl (cB, 600, .inl (fun j => iZ (Int.bmod ((va_up u (cnt).toNat (Int.bmod v 256)) j) 256))))] H := hP
      have hD : va_D A [(h0, .inr (2, [.ref h1, .int (iZ (cnt + 1))])), (h1, .inl (cB, 600, .inl (fun j => iZ (Int.bmod ((va_up u (cnt).toNat (Int.bmod v 256)) j) 256))))] := hD
      have eW : ∀ (x0 y0 : Nat → Int), x0 = y0 → ([(h0, .inr (2, [.ref h1, .int (iZ (cnt + 1))])), (h1, .inl (cB, 600, .inl (fun j => iZ (Int.bmod (x0 j) 256))))] : va_W) = [(h0, .inr (2, [.ref h1, .int (iZ (cnt + 1))])), (h1, .inl (cB, 600, .inl (fun j => iZ (Int.bmod (y0 j) 256))))] := by intros; subst_vars; rfl
      have eW := eW (va_up u (cnt).toNat (Int.bmod v 256)) (va_up u cnt.toNat (Int.bmod v 256)) rfl
      have hP : va_P (dC, dI) vwCl [(h0, .inr (2, [.ref h1, .int (iZ (cnt + 1))])), (h1, .inl (cB, 600, .inl (fun j => iZ (Int.bmod ((va_up u cnt.toNat (Int.bmod v 256)) j) 256))))] H := eW ▸ hP
      have hD : va_D A [(h0, .inr (2, [.ref h1, .int (iZ (cnt + 1))])), (h1, .inl (cB, 600, .inl (fun j => iZ (Int.bmod ((va_up u cnt.toNat (Int.bmod v 256)) j) 256))))] := eW ▸ hD
      exact W.vret hx hb hr (fun t ht hW => ⟨⟨(), rfl, trivial, by rw [ht]; exact hP, va_K.moved hW.alike hK, hAe ▸ hD⟩, hAe ▸ hS.F ht⟩) (hAe ▸ hS.2.2) d_Ha_add_38
set_option maxHeartbeats 4000000 in
set_option maxRecDepth 100000 in
/-- Hand.get(i) -/
theorem c_Ha_get (l : Launch) (dC : Nat → ClassId) (dI : Nat → Nat → Nat) (cB : ClassId) (cI : ClassId) (cJ : ClassId) (cZ : ClassId) (cQ : ClassId) (h0 h1 : Nat) (sz : Nat) (cnt : Int) (u : Nat → Int) (i : Int) (hc : 0 ≤ cnt ∧ cnt ≤ 600) (hi : 0 ≤ i ∧ i < cnt) : Met l y_Ha_get ((Cond.code y_Ha_get prog_4_method_5_code 2 (some .int)) :: gw) ({ frames := 0, cells := 0, slots := 0, locals := 0 } : Room) (zPc (dC, dI) [(cB, .byte), (cI, .int), (cJ, .long), (cZ, .boolean), (cQ, .object "LogDesk$Block")] [.ref h0, .int (iZ i)] [(h0, .inr (2, [.ref h1, .int (iZ cnt)])), (h1, .inl (cB, 600, .inl (fun j => iZ (Int.bmod (u j) 256))))] sz) (va_Qi (fun (r : Int32) (_ : Unit) => r = iZ (u i.toNat % 256)) (zB (dC, dI) [(cB, .byte), (cI, .int), (cJ, .long), (cZ, .boolean), (cQ, .object "LogDesk$Block")] (va_A [(h0, .inr (2, [.ref h1, .int (iZ cnt)])), (h1, .inl (cB, 600, .inl (fun j => iZ (Int.bmod (u j) 256))))] sz) [(h0, .inr (2, [.ref h1, .int (iZ cnt)])), (h1, .inl (cB, 600, .inl (fun j => iZ (Int.bmod (u j) 256))))]) (va_A [(h0, .inr (2, [.ref h1, .int (iZ cnt)])), (h1, .inl (cB, 600, .inl (fun j => iZ (Int.bmod (u j) 256))))] sz)) 0 0 (va_A [(h0, .inr (2, [.ref h1, .int (iZ cnt)])), (h1, .inl (cB, 600, .inl (fun j => iZ (Int.bmod (u j) 256))))] sz) := by
  refine Met.ofW (cc := prog_4_method_5_code) (maxL := 2) (ret := (some .int)) (by decide) rfl ?_
  intro p e s m args below meth c s₁ B hml hv
  obtain ⟨rfl, hsz, hP, hK, hD0, hZ⟩ := hv
  have hx := B.exec
  have hb := B.bytes
  have hr := B.returns
  have hts := atoms_spec (ws := (Cond.code y_Ha_get prog_4_method_5_code 2 (some .int)) :: gw) B.pre
  have htg : ∀ w ∈ gw, w.before _ s = true := fun w h => hts w (List.mem_cons_of_mem _ h)
  have hown : s.vm.findClass "LogDesk$Hand" = some m.cls := findClass_of_methodNamed B.named
  have hlocks := B.notSynchronized
  subst hsz
  have hD := hD0.self (sz := s.heap.size)
  generalize hAe : va_A [(h0, .inr (2, [.ref h1, .int (iZ cnt)])), (h1, .inl (cB, 600, .inl (fun j => iZ (Int.bmod (u j) 256))))] s.heap.size = A at hD ⊢
  have hRc : (headSpec ((Cond.code y_Ha_get prog_4_method_5_code 2 (some .int)) :: gw) ({ frames := 0, cells := 0, slots := 0, locals := 0 } : Room)).room.cells = 0 := rfl
  have hRs : (headSpec ((Cond.code y_Ha_get prog_4_method_5_code 2 (some .int)) :: gw) ({ frames := 0, cells := 0, slots := 0, locals := 0 } : Room)).room.slots = 0 := rfl
  have hA : ∀ q : Nat, s.heap.size ≤ q → A q := fun q h => by rw [← hAe]; exact Or.inr h
  have hS : va_S A s.heap s.heap [] := va_S.rf
  have hP : va_P (dC, dI) vwCl [(h0, .inr (2, [.ref h1, .int (iZ cnt)])), (h1, .inl (cB, 600, .inl (fun j => iZ (Int.bmod (u j) 256))))] s.heap := hP
  have hl := lv_entry ([.ref h0, .int (iZ i)]) (n := 2) (Nat.le_of_ble_eq_true rfl)
  rw [lg_entry_eq]
  generalize (lg_sl ([.ref h0, .int (iZ i)]) ++ List.replicate (2 - (lg_sl ([.ref h0, .int (iZ i)])).length) Slot.unset).toArray = ls at hl ⊢
  have hl : lv_has ls 2 [(0, .ref h0), (1, .int (iZ i))] := hl
  refine lv_iload_n hx hb d_Ha_get_0 rfl (lv_at hl 1 rfl) ?_
  refine zz_if_lt (tgt := 32) hx hb d_Ha_get_1 (by decide) ⟨by omega, by omega⟩ (fun c_1 => ?_) (fun c_1 => ?_)
  · refine lv_iconst (v := iZ 0) hx hb d_Ha_get_32 rfl ?_
    exact W.iret (v := (iZ 0)) hx hb hr (fun t ht hW => ⟨⟨_, (), rfl, (congrArg iZ (by omega)), by rw [ht]; exact hP, va_K.moved hW.alike hK, hAe ▸ hD⟩, hAe ▸ hS.F ht⟩) (hAe ▸ hS.2.2) d_Ha_get_33
  · refine lv_iload_n hx hb d_Ha_get_4 rfl (lv_at hl 1 rfl) ?_
    refine lv_aload_n hx hb d_Ha_get_5 rfl (lv_at hl 0 rfl) ?_
    refine va_get (D := (dC, dI)) (ci := 2) (v := .int (iZ cnt)) (C := "LogDesk$Hand") (T := F_Ha) (N := 2) hx hb htg hin_Ha hown hK hP 0 rfl rfl 1 (by decide) (htg _ k_45) (fun _ h9 => h9) rfl d_Ha_get_6 ?_
    refine zz_icmp_ge (tgt := 32) hx hb d_Ha_get_9 (by decide) ⟨by omega, by omega⟩ ⟨by omega, by omega⟩ (fun c_2 => ?_) (fun c_2 => ?_)
    · refine lv_iconst (v := iZ 0) hx hb d_Ha_get_32 rfl ?_
      exact W.iret (v := (iZ 0)) hx hb hr (fun t ht hW => ⟨⟨_, (), rfl, (congrArg iZ (by omega)), by rw [ht]; exact hP, va_K.moved hW.alike hK, hAe ▸ hD⟩, hAe ▸ hS.F ht⟩) (hAe ▸ hS.2.2) d_Ha_get_33
    · refine lv_iload_n hx hb d_Ha_get_12 rfl (lv_at hl 1 rfl) ?_
      refine lv_sipush (v := iZ 600) hx hb d_Ha_get_13 (by decide) ?_
      refine zz_icmp_ge (tgt := 32) hx hb d_Ha_get_16 (by decide) ⟨by omega, by omega⟩ ⟨by omega, by omega⟩ (fun c_3 => ?_) (fun c_3 => ?_)
      · refine lv_iconst (v := iZ 0) hx hb d_Ha_get_32 rfl ?_
        exact W.iret (v := (iZ 0)) hx hb hr (fun t ht hW => ⟨⟨_, (), rfl, (congrArg iZ (by omega)), by rw [ht]; exact hP, va_K.moved hW.alike hK, hAe ▸ hD⟩, hAe ▸ hS.F ht⟩) (hAe ▸ hS.2.2) d_Ha_get_33
      · refine lv_aload_n hx hb d_Ha_get_19 rfl (lv_at hl 0 rfl) ?_
        refine va_get (D := (dC, dI)) (ci := 2) (v := .ref h1) (C := "LogDesk$Hand") (T := F_Ha) (N := 2) hx hb htg hin_Ha hown hK hP 0 rfl rfl 0 (by decide) (htg _ k_44) (fun _ h9 => h9) rfl d_Ha_get_20 ?_
        refine lv_iload_n hx hb d_Ha_get_23 rfl (lv_at hl 1 rfl) ?_
        refine zz_bald hx hb hK hP 1 0 rfl rfl (by omega) (by omega) (by omega) d_Ha_get_24 ?_
        refine lv_sipush (v := iZ 255) hx hb d_Ha_get_25 (by decide) ?_
        refine zz_and255b hx hb d_Ha_get_28 ?_
        refine lv_goto (tgt := 33) hx hb d_Ha_get_29 (by decide) ?_
        exact W.iret (v := (iZ ((u (i).toNat) % 256))) hx hb hr (fun t ht hW => ⟨⟨_, (), rfl, (congrArg iZ (by omega)), by rw [ht]; exact hP, va_K.moved hW.alike hK, hAe ▸ hD⟩, hAe ▸ hS.F ht⟩) (hAe ▸ hS.2.2) d_Ha_get_33
set_option maxHeartbeats 4000000 in
set_option maxRecDepth 100000 in
/-- Hand.clear() -/
theorem c_Ha_clear (l : Launch) (dC : Nat → ClassId) (dI : Nat → Nat → Nat) (cB : ClassId) (cI : ClassId) (cJ : ClassId) (cZ : ClassId) (cQ : ClassId) (h0 h1 : Nat) (sz : Nat) (cnt : Int) (u : Nat → Int) : Met l y_Ha_clear ((Cond.code y_Ha_clear prog_4_method_6_code 1 none) :: gw) ({ frames := 0, cells := 0, slots := 0, locals := 0 } : Room) (zPc (dC, dI) [(cB, .byte), (cI, .int), (cJ, .long), (cZ, .boolean), (cQ, .object "LogDesk$Block")] [.ref h0] [(h0, .inr (2, [.ref h1, .int (iZ cnt)])), (h1, .inl (cB, 600, .inl (fun j => iZ (Int.bmod (u j) 256))))] sz) (va_Qv (fun (_ : Unit) => True) (zB (dC, dI) [(cB, .byte), (cI, .int), (cJ, .long), (cZ, .boolean), (cQ, .object "LogDesk$Block")] (va_A [(h0, .inr (2, [.ref h1, .int (iZ cnt)])), (h1, .inl (cB, 600, .inl (fun j => iZ (Int.bmod (u j) 256))))] sz) [(h0, .inr (2, [.ref h1, .int (iZ 0)])), (h1, .inl (cB, 600, .inl (fun j => iZ (Int.bmod (u j) 256))))]) (va_A [(h0, .inr (2, [.ref h1, .int (iZ cnt)])), (h1, .inl (cB, 600, .inl (fun j => iZ (Int.bmod (u j) 256))))] sz)) 0 0 (va_A [(h0, .inr (2, [.ref h1, .int (iZ cnt)])), (h1, .inl (cB, 600, .inl (fun j => iZ (Int.bmod (u j) 256))))] sz) := by
  refine Met.ofW (cc := prog_4_method_6_code) (maxL := 1) (ret := none) (by decide) rfl ?_
  intro p e s m args below meth c s₁ B hml hv
  obtain ⟨rfl, hsz, hP, hK, hD0, hZ⟩ := hv
  have hx := B.exec
  have hb := B.bytes
  have hr := B.returns
  have hts := atoms_spec (ws := (Cond.code y_Ha_clear prog_4_method_6_code 1 none) :: gw) B.pre
  have htg : ∀ w ∈ gw, w.before _ s = true := fun w h => hts w (List.mem_cons_of_mem _ h)
  have hown : s.vm.findClass "LogDesk$Hand" = some m.cls := findClass_of_methodNamed B.named
  have hlocks := B.notSynchronized
  subst hsz
  have hD := hD0.self (sz := s.heap.size)
  generalize hAe : va_A [(h0, .inr (2, [.ref h1, .int (iZ cnt)])), (h1, .inl (cB, 600, .inl (fun j => iZ (Int.bmod (u j) 256))))] s.heap.size = A at hD ⊢
  have hRc : (headSpec ((Cond.code y_Ha_clear prog_4_method_6_code 1 none) :: gw) ({ frames := 0, cells := 0, slots := 0, locals := 0 } : Room)).room.cells = 0 := rfl
  have hRs : (headSpec ((Cond.code y_Ha_clear prog_4_method_6_code 1 none) :: gw) ({ frames := 0, cells := 0, slots := 0, locals := 0 } : Room)).room.slots = 0 := rfl
  have hA : ∀ q : Nat, s.heap.size ≤ q → A q := fun q h => by rw [← hAe]; exact Or.inr h
  have hS : va_S A s.heap s.heap [] := va_S.rf
  have hP : va_P (dC, dI) vwCl [(h0, .inr (2, [.ref h1, .int (iZ cnt)])), (h1, .inl (cB, 600, .inl (fun j => iZ (Int.bmod (u j) 256))))] s.heap := hP
  have hl := lv_entry ([.ref h0]) (n := 1) (Nat.le_of_ble_eq_true rfl)
  rw [lg_entry_eq]
  generalize (lg_sl ([.ref h0]) ++ List.replicate (1 - (lg_sl ([.ref h0])).length) Slot.unset).toArray = ls at hl ⊢
  have hl : lv_has ls 1 [(0, .ref h0)] := hl
  refine lv_aload_n hx hb d_Ha_clear_0 rfl (lv_at hl 0 rfl) ?_
  refine lv_iconst (v := iZ 0) hx hb d_Ha_clear_1 rfl ?_
  refine va_put (D := (dC, dI)) (ci := 2) (v := .int (iZ 0)) (ty := t_Ha 1) (C := "LogDesk$Hand") (T := F_Ha) (N := 2) hx hb htg hin_Ha t_Ha t_Ha_ok n_Ha hown hK hP hD hS 0 rfl rfl 1 (by decide) (htg _ k_45) (fun _ h9 => h9) rfl (by decide +kernel) rfl rfl (Nat.le_of_ble_eq_true rfl) d_Ha_clear_2 (fun H locs hP hD hS => ?_)
  have hP : va_P (dC, dI) vwCl [(h0, .inr (2, [.ref h1, .int (iZ 0)])), (h1, .inl (cB, 600, .inl (fun j => iZ (Int.bmod (u j) 256))))] H := hP
  have hD : va_D A [(h0, .inr (2, [.ref h1, .int (iZ 0)])), (h1, .inl (cB, 600, .inl (fun j => iZ (Int.bmod (u j) 256))))] := hD
  exact W.vret hx hb hr (fun t ht hW => ⟨⟨(), rfl, trivial, by rw [ht]; exact hP, va_K.moved hW.alike hK, hAe ▸ hD⟩, hAe ▸ hS.F ht⟩) (hAe ▸ hS.2.2) d_Ha_clear_5
end
section
set_option maxHeartbeats 4000000 in
set_option maxRecDepth 100000 in
/-- Arrays.fill -/
theorem c_Ar_fillI (l : Launch) (dC : Nat → ClassId) (dI : Nat → Nat → Nat) (cB : ClassId) (cI : ClassId) (cJ : ClassId) (cZ : ClassId) (cQ : ClassId) (h0 : Nat) (sz : Nat) (N : Nat) (u : Nat → Int) (v : Int) (hN : N < 100000) : Met l y_Ar_fillI ((Cond.code y_Ar_fillI prog_18_method_103_code 4 none) :: gw) ({ frames := 0, cells := 0, slots := 0, locals := 0 } : Room) (zPc (dC, dI) [(cB, .byte), (cI, .int), (cJ, .long), (cZ, .boolean), (cQ, .object "LogDesk$Block")] [.ref h0, .int (iZ v)] [(h0, .inl (cI, N, .inl (fun j => iZ (u j))))] sz) (va_Qv (fun (_ : Unit) => True) (zB (dC, dI) [(cB, .byte), (cI, .int), (cJ, .long), (cZ, .boolean), (cQ, .object "LogDesk$Block")] (va_A [(h0, .inl (cI, N, .inl (fun j => iZ (u j))))] sz) [(h0, .inl (cI, N, .inl (fun j => iZ ((fun j => if j < N then v else u j) j))))]) (va_A [(h0, .inl (cI, N, .inl (fun j => iZ (u j))))] sz)) 0 0 (va_A [(h0, .inl (cI, N, .inl (fun j => iZ (u j))))] sz) := by
  refine Met.ofW (cc := prog_18_method_103_code) (maxL := 4) (ret := none) (by decide) rfl ?_
  intro p e s m args below meth c s₁ B hml hv
  obtain ⟨rfl, hsz, hP, hK, hD0, hZ⟩ := hv
  have hx := B.exec
  have hb := B.bytes
  have hr := B.returns
  have hts := atoms_spec (ws := (Cond.code y_Ar_fillI prog_18_method_103_code 4 none) :: gw) B.pre
  have htg : ∀ w ∈ gw, w.before _ s = true := fun w h => hts w (List.mem_cons_of_mem _ h)
  have hown : s.vm.findClass "java/util/Arrays" = some m.cls := findClass_of_methodNamed B.named
  have hlocks := B.notSynchronized
  subst hsz
  have hD := hD0.self (sz := s.heap.size)
  generalize hAe : va_A [(h0, .inl (cI, N, .inl (fun j => iZ (u j))))] s.heap.size = A at hD ⊢
  have hRc : (headSpec ((Cond.code y_Ar_fillI prog_18_method_103_code 4 none) :: gw) ({ frames := 0, cells := 0, slots := 0, locals := 0 } : Room)).room.cells = 0 := rfl
  have hRs : (headSpec ((Cond.code y_Ar_fillI prog_18_method_103_code 4 none) :: gw) ({ frames := 0, cells := 0, slots := 0, locals := 0 } : Room)).room.slots = 0 := rfl
  generalize hQ : MQ below (va_Qv (fun (_ : Unit) => True) (zB (dC, dI) [(cB, .byte), (cI, .int), (cJ, .long), (cZ, .boolean), (cQ, .object "LogDesk$Block")] A [(h0, .inl (cI, N, .inl (fun j => iZ ((fun j => if j < N then v else u j) j))))]) A) [.ref h0, .int (iZ v)].toArray s 0 0 A = QQ
  have hA : ∀ q : Nat, s.heap.size ≤ q → A q := fun q h => by rw [← hAe]; exact Or.inr h
  have hS : va_S A s.heap s.heap [] := va_S.rf
  have hP : va_P (dC, dI) vwCl [(h0, .inl (cI, N, .inl (fun j => iZ (u j))))] s.heap := hP
  have hl := lv_entry ([.ref h0, .int (iZ v)]) (n := 4) (Nat.le_of_ble_eq_true rfl)
  rw [lg_entry_eq]
  generalize (lg_sl ([.ref h0, .int (iZ v)]) ++ List.replicate (4 - (lg_sl ([.ref h0, .int (iZ v)])).length) Slot.unset).toArray = ls at hl ⊢
  have hl : lv_has ls 4 [(0, .ref h0), (1, .int (iZ v))] := hl
  refine lv_iconst (v := iZ 0) hx hb d_Ar_fillI_0 rfl ?_
  refine lv_istore_n (lv' := [(2, .int (iZ 0)), (0, .ref h0), (1, .int (iZ v))]) hx hb d_Ar_fillI_1 rfl hl (by decide) rfl (fun ls hl => ?_)
  refine lv_aload_n hx hb d_Ar_fillI_2 rfl (lv_at hl 1 rfl) ?_
  refine va_alen (v := iZ N) hx hb hK hP 0 1 rfl rfl (by first | rfl | exact (iZ_nat _).symm) d_Ar_fillI_3 ?_
  refine lv_istore_n (lv' := [(3, .int (iZ N)), (2, .int (iZ 0)), (0, .ref h0), (1, .int (iZ v))]) hx hb d_Ar_fillI_4 rfl hl (by decide) rfl (fun ls hl => ?_)
  have loop5 : ∀ (nn : Nat) (i : Int) (w : Nat → Int) (H : Heap) (locs : List Loc) (ls : Array Slot), (0 ≤ i ∧ i ≤ N) → (∀ j : Nat, w j = if (j : Int) < i then v else u j) → ((N : Int) - i < (nn : Int)) → va_P (dC, dI) vwCl [(h0, .inl (cI, N, .inl (fun j => iZ (w j))))] H → va_D A [(h0, .inl (cI, N, .inl (fun j => iZ (w j))))] → va_S A s.heap H locs → lv_has ls 4 [(0, .ref h0), (1, .int (iZ v)), (2, .int (iZ i)), (3, .int (iZ N))] → W p l e (headSpec ((Cond.code y_Ar_fillI prog_18_method_103_code 4 none) :: gw) ({ frames := 0, cells := 0, slots := 0, locals := 0 } : Room)).room s m [.ref h0, .int (iZ v)].toArray below meth c H locs 0 0 QQ (F0 m 5 ls []) := by
    intro nn
    induction nn with
    | zero => intro i w H locs ls hi hw hm hP hD hS hl; exfalso; omega
    | succ nn ih =>
      intro i w H locs ls hi hw hm hP hD hS hl
      refine lv_iload_n hx hb d_Ar_fillI_5 rfl (lv_at hl 2 rfl) ?_
      refine lv_iload_n hx hb d_Ar_fillI_6 rfl (lv_at hl 3 rfl) ?_
      refine zz_icmp_ge (tgt := 20) hx hb d_Ar_fillI_7 (by decide) ⟨by omega, by omega⟩ ⟨by omega, by omega⟩ (fun c_1 => ?_) (fun c_1 => ?_)
      · have eW : ∀ (x0 y0 : Nat → Int), x0 = y0 → ([(h0, .inl (cI, N, .inl (fun j => iZ (x0 j))))] : va_W) = [(h0, .inl (cI, N, .inl (fun j => iZ (y0 j))))] := by intros; subst_vars; rfl
        have eW := eW w (fun j => if j < N then v else u j) (up_end (by omega) hw)
        have hP : va_P (dC, dI) vwCl [(h0, .inl (cI, N, .inl (fun j => iZ ((fun j => if j < N then v else u j) j))))] H := eW ▸ hP
        have hD : va_D A [(h0, .inl (cI, N, .inl (fun j => iZ ((fun j => if j < N then v else u j) j))))] := eW ▸ hD
        subst hQ
        exact W.vret hx hb hr (fun t ht hW => ⟨⟨(), rfl, trivial, by rw [ht]; exact hP, va_K.moved hW.alike hK, hAe ▸ hD⟩, hAe ▸ hS.F ht⟩) (hAe ▸ hS.2.2) d_Ar_fillI_20
      · refine lv_aload_n hx hb d_Ar_fillI_10 rfl (lv_at hl 0 rfl) ?_
        refine lv_iload_n hx hb d_Ar_fillI_11 rfl (lv_at hl 2 rfl) ?_
        refine lv_iload_n hx hb d_Ar_fillI_12 rfl (lv_at hl 1 rfl) ?_
        refine zz_iast hx hb hK hP hD hS 0 1 rfl rfl (by omega) (by omega) (by omega) d_Ar_fillI_13 (fun H locs hP hD hS => ?_)
        have hP : va_P (dC, dI) vwCl [(h0, .inl (cI, N, .inl (fun j => iZ ((va_up w (i).toNat v) j))))] H := hP
        have hD : va_D A [(h0, .inl (cI, N, .inl (fun j => iZ ((va_up w (i).toNat v) j))))] := hD
        refine lv_iinc (v := iZ (i + 1)) (lv' := [(2, .int (iZ (i + 1))), (0, .ref h0), (1, .int (iZ v)), (3, .int (iZ N))]) hx hb d_Ar_fillI_14 hl (k := 2) rfl (iZ_add _ _) (by decide) rfl (fun ls hl => ?_)
        refine lv_goto (tgt := 5) hx hb d_Ar_fillI_17 (by decide) ?_
        exact ih (i + 1) (va_up w (i).toNat v) H _ ls (by omega) (up_lt hi.1 hw) (by omega) hP hD hS (lv_sub hl [1, 2, 0, 3] rfl)
  exact loop5 (Int.toNat ((N : Int) - 0) + 1) 0 u s.heap _ ls (by omega) (fun j => (if_neg (by omega)).symm) (by omega) hP hD hS (lv_sub hl [2, 3, 1, 0] rfl)
set_option maxHeartbeats 4000000 in
set_option maxRecDepth 100000 in
/-- Arrays.fill -/
theorem c_Ar_fillJ (l : Launch) (dC : Nat → ClassId) (dI : Nat → Nat → Nat) (cB : ClassId) (cI : ClassId) (cJ : ClassId) (cZ : ClassId) (cQ : ClassId) (h0 : Nat) (sz : Nat) (N : Nat) (u : Nat → Int64) (v : Int64) (hN : N < 100000) : Met l y_Ar_fillJ ((Cond.code y_Ar_fillJ prog_18_method_101_code 5 none) :: gw) ({ frames := 0, cells := 0, slots := 0, locals := 0 } : Room) (zPc (dC, dI) [(cB, .byte), (cI, .int), (cJ, .long), (cZ, .boolean), (cQ, .object "LogDesk$Block")] [.ref h0, .long v] [(h0, .inl (cJ, N, .inr (.inl u)))] sz) (va_Qv (fun (_ : Unit) => True) (zB (dC, dI) [(cB, .byte), (cI, .int), (cJ, .long), (cZ, .boolean), (cQ, .object "LogDesk$Block")] (va_A [(h0, .inl (cJ, N, .inr (.inl u)))] sz) [(h0, .inl (cJ, N, .inr (.inl (fun j => if j < N then v else u j))))]) (va_A [(h0, .inl (cJ, N, .inr (.inl u)))] sz)) 0 0 (va_A [(h0, .inl (cJ, N, .inr (.inl u)))] sz) := by
  refine Met.ofW (cc := prog_18_method_101_code) (maxL := 5) (ret := none) (by decide) rfl ?_
  intro p e s m args below meth c s₁ B hml hv
  obtain ⟨rfl, hsz, hP, hK, hD0, hZ⟩ := hv
  have hx := B.exec
  have hb := B.bytes
  have hr := B.returns
  have hts := atoms_spec (ws := (Cond.code y_Ar_fillJ prog_18_method_101_code 5 none) :: gw) B.pre
  have htg : ∀ w ∈ gw, w.before _ s = true := fun w h => hts w (List.mem_cons_of_mem _ h)
  have hown : s.vm.findClass "java/util/Arrays" = some m.cls := findClass_of_methodNamed B.named
  have hlocks := B.notSynchronized
  subst hsz
  have hD := hD0.self (sz := s.heap.size)
  generalize hAe : va_A [(h0, .inl (cJ, N, .inr (.inl u)))] s.heap.size = A at hD ⊢
  have hRc : (headSpec ((Cond.code y_Ar_fillJ prog_18_method_101_code 5 none) :: gw) ({ frames := 0, cells := 0, slots := 0, locals := 0 } : Room)).room.cells = 0 := rfl
  have hRs : (headSpec ((Cond.code y_Ar_fillJ prog_18_method_101_code 5 none) :: gw) ({ frames := 0, cells := 0, slots := 0, locals := 0 } : Room)).room.slots = 0 := rfl
  generalize hQ : MQ below (va_Qv (fun (_ : Unit) => True) (zB (dC, dI) [(cB, .byte), (cI, .int), (cJ, .long), (cZ, .boolean), (cQ, .object "LogDesk$Block")] A [(h0, .inl (cJ, N, .inr (.inl (fun j => if j < N then v else u j))))]) A) [.ref h0, .long v].toArray s 0 0 A = QQ
  have hA : ∀ q : Nat, s.heap.size ≤ q → A q := fun q h => by rw [← hAe]; exact Or.inr h
  have hS : va_S A s.heap s.heap [] := va_S.rf
  have hP : va_P (dC, dI) vwCl [(h0, .inl (cJ, N, .inr (.inl u)))] s.heap := hP
  have hl := lv_entry ([.ref h0, .long v]) (n := 5) (Nat.le_of_ble_eq_true rfl)
  rw [lg_entry_eq]
  generalize (lg_sl ([.ref h0, .long v]) ++ List.replicate (5 - (lg_sl ([.ref h0, .long v])).length) Slot.unset).toArray = ls at hl ⊢
  have hl : lv_has ls 5 [(0, .ref h0), (1, .long v)] := hl
  refine lv_iconst (v := iZ 0) hx hb d_Ar_fillJ_0 rfl ?_
  refine lv_istore_n (lv' := [(3, .int (iZ 0)), (0, .ref h0), (1, .long v)]) hx hb d_Ar_fillJ_1 rfl hl (by decide) rfl (fun ls hl => ?_)
  refine lv_aload_n hx hb d_Ar_fillJ_2 rfl (lv_at hl 1 rfl) ?_
  refine va_alen (v := iZ N) hx hb hK hP 0 2 rfl rfl (by first | rfl | exact (iZ_nat _).symm) d_Ar_fillJ_3 ?_
  refine lv_istore (lv' := [(4, .int (iZ N)), (3, .int (iZ 0)), (0, .ref h0), (1, .long v)]) hx hb d_Ar_fillJ_4 hl (by decide) rfl (fun ls hl => ?_)
  have loop6 : ∀ (nn : Nat) (i : Int) (w : Nat → Int64) (H : Heap) (locs : List Loc) (ls : Array Slot), (0 ≤ i ∧ i ≤ N) → (∀ j : Nat, w j = if (j : Int) < i then v else u j) → ((N : Int) - i < (nn : Int)) → va_P (dC, dI) vwCl [(h0, .inl (cJ, N, .inr (.inl w)))] H → va_D A [(h0, .inl (cJ, N, .inr (.inl w)))] → va_S A s.heap H locs → lv_has ls 5 [(0, .ref h0), (1, .long v), (3, .int (iZ i)), (4, .int (iZ N))] → W p l e (headSpec ((Cond.code y_Ar_fillJ prog_18_method_101_code 5 none) :: gw) ({ frames := 0, cells := 0, slots := 0, locals := 0 } : Room)).room s m [.ref h0, .long v].toArray below meth c H locs 0 0 QQ (F0 m 6 ls []) := by
    intro nn
    induction nn with
    | zero => intro i w H locs ls hi hw hm hP hD hS hl; exfalso; omega
    | succ nn ih =>
      intro i w H locs ls hi hw hm hP hD hS hl
      refine lv_iload_n hx hb d_Ar_fillJ_6 rfl (lv_at hl 2 rfl) ?_
      refine lv_iload hx hb d_Ar_fillJ_7 (lv_at hl 3 rfl) ?_
      refine zz_icmp_ge (tgt := 22) hx hb d_Ar_fillJ_9 (by decide) ⟨by omega, by omega⟩ ⟨by omega, by omega⟩ (fun c_1 => ?_) (fun c_1 => ?_)
      · have eW : ∀ (x0 y0 : Nat → Int64), x0 = y0 → ([(h0, .inl (cJ, N, .inr (.inl x0)))] : va_W) = [(h0, .inl (cJ, N, .inr (.inl y0)))] := by intros; subst_vars; rfl
        have eW := eW w (fun j => if j < N then v else u j) (up_end (by omega) hw)
        have hP : va_P (dC, dI) vwCl [(h0, .inl (cJ, N, .inr (.inl (fun j => if j < N then v else u j))))] H := eW ▸ hP
        have hD : va_D A [(h0, .inl (cJ, N, .inr (.inl (fun j => if j < N then v else u j))))] := eW ▸ hD
        subst hQ
        exact W.vret hx hb hr (fun t ht hW => ⟨⟨(), rfl, trivial, by rw [ht]; exact hP, va_K.moved hW.alike hK, hAe ▸ hD⟩, hAe ▸ hS.F ht⟩) (hAe ▸ hS.2.2) d_Ar_fillJ_22
      · refine lv_aload_n hx hb d_Ar_fillJ_12 rfl (lv_at hl 0 rfl) ?_
        refine lv_iload_n hx hb d_Ar_fillJ_13 rfl (lv_at hl 2 rfl) ?_
        refine lv_lload_n hx hb d_Ar_fillJ_14 rfl (lv_at hl 1 rfl) ?_
        refine zz_last hx hb hK hP hD hS 0 2 rfl rfl (by omega) (by omega) (by omega) d_Ar_fillJ_15 (fun H locs hP hD hS => ?_)
        have hP : va_P (dC, dI) vwCl [(h0, .inl (cJ, N, .inr (.inl (va_up w (i).toNat v))))] H := hP
        have hD : va_D A [(h0, .inl (cJ, N, .inr (.inl (va_up w (i).toNat v))))] := hD
        refine lv_iinc (v := iZ (i + 1)) (lv' := [(3, .int (iZ (i + 1))), (0, .ref h0), (1, .long v), (4, .int (iZ N))]) hx hb d_Ar_fillJ_16 hl (k := 2) rfl (iZ_add _ _) (by decide) rfl (fun ls hl => ?_)
        refine lv_goto (tgt := 6) hx hb d_Ar_fillJ_19 (by decide) ?_
        exact ih (i + 1) (va_up w (i).toNat v) H _ ls (by omega) (up_lt hi.1 hw) (by omega) hP hD hS (lv_sub hl [1, 2, 0, 3] rfl)
  exact loop6 (Int.toNat ((N : Int) - 0) + 1) 0 u s.heap _ ls (by omega) (fun j => (if_neg (by omega)).symm) (by omega) hP hD hS (lv_sub hl [2, 3, 1, 0] rfl)
end
section
set_option maxHeartbeats 4000000 in
set_option maxRecDepth 100000 in
/-- LogDesk.blockOf -/
theorem c_De_blockOf (l : Launch) (dC : Nat → ClassId) (dI : Nat → Nat → Nat) (cB : ClassId) (cI : ClassId) (cJ : ClassId) (cZ : ClassId) (cQ : ClassId) (sz : Nat) (x : Int) (hx0 : 0 ≤ x ∧ x < 2147483648) : Met l y_De_blockOf ((Cond.code y_De_blockOf prog_1_method_17_code 1 (some .int)) :: gw) ({ frames := 0, cells := 0, slots := 0, locals := 0 } : Room) (zPc (dC, dI) [(cB, .byte), (cI, .int), (cJ, .long), (cZ, .boolean), (cQ, .object "LogDesk$Block")] [.int (iZ x)] [] sz) (va_Qi (fun (r : Int32) (_ : Unit) => r = iZ (x / 500)) (zB (dC, dI) [(cB, .byte), (cI, .int), (cJ, .long), (cZ, .boolean), (cQ, .object "LogDesk$Block")] (va_A [] sz) []) (va_A [] sz)) 0 0 (va_A [] sz) := by
  refine Met.ofW (cc := prog_1_method_17_code) (maxL := 1) (ret := (some .int)) (by decide) rfl ?_
  intro p e s m args below meth c s₁ B hml hv
  obtain ⟨rfl, hsz, hP, hK, hD0, hZ⟩ := hv
  have hx := B.exec
  have hb := B.bytes
  have hr := B.returns
  have hts := atoms_spec (ws := (Cond.code y_De_blockOf prog_1_method_17_code 1 (some .int)) :: gw) B.pre
  have htg : ∀ w ∈ gw, w.before _ s = true := fun w h => hts w (List.mem_cons_of_mem _ h)
  have hown : s.vm.findClass "LogDesk" = some m.cls := findClass_of_methodNamed B.named
  have hlocks := B.notSynchronized
  subst hsz
  have hD := hD0.self (sz := s.heap.size)
  generalize hAe : va_A [] s.heap.size = A at hD ⊢
  have hRc : (headSpec ((Cond.code y_De_blockOf prog_1_method_17_code 1 (some .int)) :: gw) ({ frames := 0, cells := 0, slots := 0, locals := 0 } : Room)).room.cells = 0 := rfl
  have hRs : (headSpec ((Cond.code y_De_blockOf prog_1_method_17_code 1 (some .int)) :: gw) ({ frames := 0, cells := 0, slots := 0, locals := 0 } : Room)).room.slots = 0 := rfl
  have hA : ∀ q : Nat, s.heap.size ≤ q → A q := fun q h => by rw [← hAe]; exact Or.inr h
  have hS : va_S A s.heap s.heap [] := va_S.rf
  have hP : va_P (dC, dI) vwCl [] s.heap := hP
  have hl := lv_entry ([.int (iZ x)]) (n := 1) (Nat.le_of_ble_eq_true rfl)
  rw [lg_entry_eq]
  generalize (lg_sl ([.int (iZ x)]) ++ List.replicate (1 - (lg_sl ([.int (iZ x)])).length) Slot.unset).toArray = ls at hl ⊢
  have hl : lv_has ls 1 [(0, .int (iZ x))] := hl
  refine lv_iload_n hx hb d_De_blockOf_0 rfl (lv_at hl 0 rfl) ?_
  refine lv_sipush (v := iZ 500) hx hb d_De_blockOf_1 (by decide) ?_
  refine zz_idiv hx hb (by omega) (by omega) (by omega) (by omega) d_De_blockOf_4 ?_
  exact W.iret (v := (iZ (x / 500))) hx hb hr (fun t ht hW => ⟨⟨_, (), rfl, rfl, by rw [ht]; exact hP, va_K.moved hW.alike hK, hAe ▸ hD⟩, hAe ▸ hS.F ht⟩) (hAe ▸ hS.2.2) d_De_blockOf_5
set_option maxHeartbeats 4000000 in
set_option maxRecDepth 100000 in
/-- Waiting.isSession -/
theorem c_Wa_isSession (l : Launch) (dC : Nat → ClassId) (dI : Nat → Nat → Nat) (cB : ClassId) (cI : ClassId) (cJ : ClassId) (cZ : ClassId) (cQ : ClassId) (sz : Nat) (x : Int) (hx0 : iB x) : Met l y_Wa_isSession ((Cond.code y_Wa_isSession prog_7_method_2_code 1 (some .boolean)) :: gw) ({ frames := 0, cells := 0, slots := 0, locals := 0 } : Room) (zPc (dC, dI) [(cB, .byte), (cI, .int), (cJ, .long), (cZ, .boolean), (cQ, .object "LogDesk$Block")] [.int (iZ x)] [] sz) (va_Qi (fun (r : Int32) (_ : Unit) => r = iZ (if 0 ≤ x ∧ x < 6 then 1 else 0)) (zB (dC, dI) [(cB, .byte), (cI, .int), (cJ, .long), (cZ, .boolean), (cQ, .object "LogDesk$Block")] (va_A [] sz) []) (va_A [] sz)) 0 0 (va_A [] sz) := by
  refine Met.ofW (cc := prog_7_method_2_code) (maxL := 1) (ret := (some .boolean)) (by decide) rfl ?_
  intro p e s m args below meth c s₁ B hml hv
  obtain ⟨rfl, hsz, hP, hK, hD0, hZ⟩ := hv
  have hx := B.exec
  have hb := B.bytes
  have hr := B.returns
  have hts := atoms_spec (ws := (Cond.code y_Wa_isSession prog_7_method_2_code 1 (some .boolean)) :: gw) B.pre
  have htg : ∀ w ∈ gw, w.before _ s = true := fun w h => hts w (List.mem_cons_of_mem _ h)
  have hown : s.vm.findClass "LogDesk$Waiting" = some m.cls := findClass_of_methodNamed B.named
  have hlocks := B.notSynchronized
  subst hsz
  have hD := hD0.self (sz := s.heap.size)
  generalize hAe : va_A [] s.heap.size = A at hD ⊢
  have hRc : (headSpec ((Cond.code y_Wa_isSession prog_7_method_2_code 1 (some .boolean)) :: gw) ({ frames := 0, cells := 0, slots := 0, locals := 0 } : Room)).room.cells = 0 := rfl
  have hRs : (headSpec ((Cond.code y_Wa_isSession prog_7_method_2_code 1 (some .boolean)) :: gw) ({ frames := 0, cells := 0, slots := 0, locals := 0 } : Room)).room.slots = 0 := rfl
  have hA : ∀ q : Nat, s.heap.size ≤ q → A q := fun q h => by rw [← hAe]; exact Or.inr h
  have hS : va_S A s.heap s.heap [] := va_S.rf
  have hP : va_P (dC, dI) vwCl [] s.heap := hP
  have hl := lv_entry ([.int (iZ x)]) (n := 1) (Nat.le_of_ble_eq_true rfl)
  rw [lg_entry_eq]
  generalize (lg_sl ([.int (iZ x)]) ++ List.replicate (1 - (lg_sl ([.int (iZ x)])).length) Slot.unset).toArray = ls at hl ⊢
  have hl : lv_has ls 1 [(0, .int (iZ x))] := hl
  obtain ⟨hx1, hx2⟩ := hx0
  refine lv_iload_n hx hb d_Wa_isSession_0 rfl (lv_at hl 0 rfl) ?_
  refine zz_if_lt (tgt := 14) hx hb d_Wa_isSession_1 (by decide) ⟨by omega, by omega⟩ (fun c_1 => ?_) (fun c_1 => ?_)
  · refine lv_iconst (v := iZ 0) hx hb d_Wa_isSession_14 rfl ?_
    exact W.zret (v := (iZ 0)) hx hb hr rfl (fun t ht hW => ⟨⟨_, (), rfl, (congrArg iZ (by omega)), by rw [ht]; exact hP, va_K.moved hW.alike hK, hAe ▸ hD⟩, hAe ▸ hS.F ht⟩) (hAe ▸ hS.2.2) d_Wa_isSession_15
  · refine lv_iload_n hx hb d_Wa_isSession_4 rfl (lv_at hl 0 rfl) ?_
    refine lv_bipush (v := iZ 6) hx hb d_Wa_isSession_5 (by decide) ?_
    refine zz_icmp_ge (tgt := 14) hx hb d_Wa_isSession_7 (by decide) ⟨by omega, by omega⟩ ⟨by omega, by omega⟩ (fun c_2 => ?_) (fun c_2 => ?_)
    · refine lv_iconst (v := iZ 0) hx hb d_Wa_isSession_14 rfl ?_
      exact W.zret (v := (iZ 0)) hx hb hr rfl (fun t ht hW => ⟨⟨_, (), rfl, (congrArg iZ (by omega)), by rw [ht]; exact hP, va_K.moved hW.alike hK, hAe ▸ hD⟩, hAe ▸ hS.F ht⟩) (hAe ▸ hS.2.2) d_Wa_isSession_15
    · refine lv_iconst (v := iZ 1) hx hb d_Wa_isSession_10 rfl ?_
      refine lv_goto (tgt := 15) hx hb d_Wa_isSession_11 (by decide) ?_
      exact W.zret (v := (iZ 1)) hx hb hr rfl (fun t ht hW => ⟨⟨_, (), rfl, (congrArg iZ (by omega)), by rw [ht]; exact hP, va_K.moved hW.alike hK, hAe ▸ hD⟩, hAe ▸ hS.F ht⟩) (hAe ▸ hS.2.2) d_Wa_isSession_15
set_option maxHeartbeats 4000000 in
set_option maxRecDepth 100000 in
/-- Waiting.has -/
theorem c_Wa_has (l : Launch) (dC : Nat → ClassId) (dI : Nat → Nat → Nat) (cB : ClassId) (cI : ClassId) (cJ : ClassId) (cZ : ClassId) (cQ : ClassId) (h0 h1 : Nat) (sz : Nat) (g : Nat → Int) (x : Int) (hg : ∀ j : Nat, 0 ≤ g j ∧ g j < 1000000000) (hx0 : iB x) : Met l y_Wa_has ((Cond.code y_Wa_has prog_7_method_3_code 2 (some .boolean)) :: gw) ({ frames := 1, cells := 0, slots := 0, locals := 20 } : Room) (zPc (dC, dI) [(cB, .byte), (cI, .int), (cJ, .long), (cZ, .boolean), (cQ, .object "LogDesk$Block")] [.ref h0, .int (iZ x)] [(h0, .inr (5, [.ref h1])), (h1, .inl (cI, 6, .inl (fun j => iZ (g j))))] sz) (va_Qi (fun (r : Int32) (_ : Unit) => r = iZ (if (0 ≤ x ∧ x < 6) ∧ g x.toNat ≠ 0 then 1 else 0)) (zB (dC, dI) [(cB, .byte), (cI, .int), (cJ, .long), (cZ, .boolean), (cQ, .object "LogDesk$Block")] (va_A [(h0, .inr (5, [.ref h1])), (h1, .inl (cI, 6, .inl (fun j => iZ (g j))))] sz) [(h0, .inr (5, [.ref h1])), (h1, .inl (cI, 6, .inl (fun j => iZ (g j))))]) (va_A [(h0, .inr (5, [.ref h1])), (h1, .inl (cI, 6, .inl (fun j => iZ (g j))))] sz)) 0 0 (va_A [(h0, .inr (5, [.ref h1])), (h1, .inl (cI, 6, .inl (fun j => iZ (g j))))] sz) := by
  refine Met.ofW (cc := prog_7_method_3_code) (maxL := 2) (ret := (some .boolean)) (by decide) rfl ?_
  intro p e s m args below meth c s₁ B hml hv
  obtain ⟨rfl, hsz, hP, hK, hD0, hZ⟩ := hv
  have hx := B.exec
  have hb := B.bytes
  have hr := B.returns
  have hts := atoms_spec (ws := (Cond.code y_Wa_has prog_7_method_3_code 2 (some .boolean)) :: gw) B.pre
  have htg : ∀ w ∈ gw, w.before _ s = true := fun w h => hts w (List.mem_cons_of_mem _ h)
  have hown : s.vm.findClass "LogDesk$Waiting" = some m.cls := findClass_of_methodNamed B.named
  have hlocks := B.notSynchronized
  subst hsz
  have hD := hD0.self (sz := s.heap.size)
  generalize hAe : va_A [(h0, .inr (5, [.ref h1])), (h1, .inl (cI, 6, .inl (fun j => iZ (g j))))] s.heap.size = A at hD ⊢
  have hRc : (headSpec ((Cond.code y_Wa_has prog_7_method_3_code 2 (some .boolean)) :: gw) ({ frames := 1, cells := 0, slots := 0, locals := 20 } : Room)).room.cells = 0 := rfl
  have hRs : (headSpec ((Cond.code y_Wa_has prog_7_method_3_code 2 (some .boolean)) :: gw) ({ frames := 1, cells := 0, slots := 0, locals := 20 } : Room)).room.slots = 0 := rfl
  have hA : ∀ q : Nat, s.heap.size ≤ q → A q := fun q h => by rw [← hAe]; exact Or.inr h
  have hS : va_S A s.heap s.heap [] := va_S.rf
  have hP : va_P (dC, dI) vwCl [(h0, .inr (5, [.ref h1])), (h1, .inl (cI, 6, .inl (fun j => iZ (g j))))] s.heap := hP
  have hl := lv_entry ([.ref h0, .int (iZ x)]) (n := 2) (Nat.le_of_ble_eq_true rfl)
  rw [lg_entry_eq]
  generalize (lg_sl ([.ref h0, .int (iZ x)]) ++ List.replicate (2 - (lg_sl ([.ref h0, .int (iZ x)])).length) Slot.unset).toArray = ls at hl ⊢
  have hl : lv_has ls 2 [(0, .ref h0), (1, .int (iZ x))] := hl
  obtain ⟨hx1, hx2⟩ := id hx0
  have hg1 := hg x.toNat
  refine lv_iload_n hx hb d_Wa_has_0 rfl (lv_at hl 1 rfl) ?_
  refine z_i (wr := [(h0, .inr (5, [.ref h1])), (h1, .inl (cI, 6, .inl (fun j => iZ (g j))))]) (va_runS (As := [.int (iZ x)]) (rest := []) ⟨hx, hb, hml, hown, htg⟩ (c_Wa_isSession l dC dI cB cI cJ cZ cQ s.heap.size x hx0) (va_cwS 1 htg (gw_S k_149 k_150 k_4 k_151) rfl rfl rfl (by decide +kernel) ⟨Nat.le_of_ble_eq_true rfl, Nat.le_of_ble_eq_true rfl⟩) (zPreS hK hP hD hZ [] rfl (by decide)) rfl rfl hl.1 rfl (lv_room (Nat.le_of_ble_eq_true rfl)) d_Wa_has_1 ⟨by omega, by omega⟩) hP hD hS hA [] [0, 1] rfl rfl (by decide) (by decide) (fun H locs hP hD hS => ?_)
  have hP : va_P (dC, dI) vwCl [(h0, .inr (5, [.ref h1])), (h1, .inl (cI, 6, .inl (fun j => iZ (g j))))] H := hP
  have hD : va_D A [(h0, .inr (5, [.ref h1])), (h1, .inl (cI, 6, .inl (fun j => iZ (g j))))] := hD
  rcases Classical.em (0 ≤ x ∧ x < 6) with b_1 | b_1
  · rw [if_pos b_1]
    refine zz_if_eq (tgt := 20) hx hb d_Wa_has_4 (by decide) ⟨by omega, by omega⟩ (fun c_2 => ?_) (fun c_2 => ?_)
    · exfalso; omega
    · refine lv_aload_n hx hb d_Wa_has_7 rfl (lv_at hl 0 rfl) ?_
      refine va_get (D := (dC, dI)) (ci := 5) (v := .ref h1) (C := "LogDesk$Waiting") (T := F_Wa) (N := 1) hx hb htg hin_Wa hown hK hP 0 rfl rfl 0 (by decide) (htg _ k_58) (fun _ h9 => h9) rfl d_Wa_has_8 ?_
      refine lv_iload_n hx hb d_Wa_has_11 rfl (lv_at hl 1 rfl) ?_
      refine zz_iald hx hb hK hP 1 1 rfl rfl (by omega) (by omega) (by omega) d_Wa_has_12 ?_
      refine zz_if_eq (tgt := 20) hx hb d_Wa_has_13 (by decide) ⟨by omega, by omega⟩ (fun c_3 => ?_) (fun c_3 => ?_)
      · refine lv_iconst (v := iZ 0) hx hb d_Wa_has_20 rfl ?_
        exact W.zret (v := (iZ 0)) hx hb hr rfl (fun t ht hW => ⟨⟨_, (), rfl, (congrArg iZ (by omega)), by rw [ht]; exact hP, va_K.moved hW.alike hK, hAe ▸ hD⟩, hAe ▸ hS.F ht⟩) (hAe ▸ hS.2.2) d_Wa_has_21
      · refine lv_iconst (v := iZ 1) hx hb d_Wa_has_16 rfl ?_
        refine lv_goto (tgt := 21) hx hb d_Wa_has_17 (by decide) ?_
        exact W.zret (v := (iZ 1)) hx hb hr rfl (fun t ht hW => ⟨⟨_, (), rfl, (congrArg iZ (by omega)), by rw [ht]; exact hP, va_K.moved hW.alike hK, hAe ▸ hD⟩, hAe ▸ hS.F ht⟩) (hAe ▸ hS.2.2) d_Wa_has_21
  · rw [if_neg b_1]
    refine zz_if_eq (tgt := 20) hx hb d_Wa_has_4 (by decide) ⟨by omega, by omega⟩ (fun c_4 => ?_) (fun c_4 => ?_)
    · refine lv_iconst (v := iZ 0) hx hb d_Wa_has_20 rfl ?_
      exact W.zret (v := (iZ 0)) hx hb hr rfl (fun t ht hW => ⟨⟨_, (), rfl, (congrArg iZ (by omega)), by rw [ht]; exact hP, va_K.moved hW.alike hK, hAe ▸ hD⟩, hAe ▸ hS.F ht⟩) (hAe ▸ hS.2.2) d_Wa_has_21
    · exfalso; omega
set_option maxHeartbeats 4000000 in
set_option maxRecDepth 100000 in
/-- Waiting.endOf -/
theorem c_Wa_endOf (l : Launch) (dC : Nat → ClassId) (dI : Nat → Nat → Nat) (cB : ClassId) (cI : ClassId) (cJ : ClassId) (cZ : ClassId) (cQ : ClassId) (h0 h1 : Nat) (sz : Nat) (g : Nat → Int) (x : Int) (hg : ∀ j : Nat, 0 ≤ g j ∧ g j < 1000000000) (hx0 : iB x) : Met l y_Wa_endOf ((Cond.code y_Wa_endOf prog_7_method_4_code 2 (some .int)) :: gw) ({ frames := 1, cells := 0, slots := 0, locals := 20 } : Room) (zPc (dC, dI) [(cB, .byte), (cI, .int), (cJ, .long), (cZ, .boolean), (cQ, .object "LogDesk$Block")] [.ref h0, .int (iZ x)] [(h0, .inr (5, [.ref h1])), (h1, .inl (cI, 6, .inl (fun j => iZ (g j))))] sz) (va_Qi (fun (r : Int32) (_ : Unit) => r = iZ (if 0 ≤ x ∧ x < 6 then g x.toNat else 0)) (zB (dC, dI) [(cB, .byte), (cI, .int), (cJ, .long), (cZ, .boolean), (cQ, .object "LogDesk$Block")] (va_A [(h0, .inr (5, [.ref h1])), (h1, .inl (cI, 6, .inl (fun j => iZ (g j))))] sz) [(h0, .inr (5, [.ref h1])), (h1, .inl (cI, 6, .inl (fun j => iZ (g j))))]) (va_A [(h0, .inr (5, [.ref h1])), (h1, .inl (cI, 6, .inl (fun j => iZ (g j))))] sz)) 0 0 (va_A [(h0, .inr (5, [.ref h1])), (h1, .inl (cI, 6, .inl (fun j => iZ (g j))))] sz) := by
  refine Met.ofW (cc := prog_7_method_4_code) (maxL := 2) (ret := (some .int)) (by decide) rfl ?_
  intro p e s m args below meth c s₁ B hml hv
  obtain ⟨rfl, hsz, hP, hK, hD0, hZ⟩ := hv
  have hx := B.exec
  have hb := B.bytes
  have hr := B.returns
  have hts := atoms_spec (ws := (Cond.code y_Wa_endOf prog_7_method_4_code 2 (some .int)) :: gw) B.pre
  have htg : ∀ w ∈ gw, w.before _ s = true := fun w h => hts w (List.mem_cons_of_mem _ h)
  have hown : s.vm.findClass "LogDesk$Waiting" = some m.cls := findClass_of_methodNamed B.named
  have hlocks := B.notSynchronized
  subst hsz
  have hD := hD0.self (sz := s.heap.size)
  generalize hAe : va_A [(h0, .inr (5, [.ref h1])), (h1, .inl (cI, 6, .inl (fun j => iZ (g j))))] s.heap.size = A at hD ⊢
  have hRc : (headSpec ((Cond.code y_Wa_endOf prog_7_method_4_code 2 (some .int)) :: gw) ({ frames := 1, cells := 0, slots := 0, locals := 20 } : Room)).room.cells = 0 := rfl
  have hRs : (headSpec ((Cond.code y_Wa_endOf prog_7_method_4_code 2 (some .int)) :: gw) ({ frames := 1, cells := 0, slots := 0, locals := 20 } : Room)).room.slots = 0 := rfl
  have hA : ∀ q : Nat, s.heap.size ≤ q → A q := fun q h => by rw [← hAe]; exact Or.inr h
  have hS : va_S A s.heap s.heap [] := va_S.rf
  have hP : va_P (dC, dI) vwCl [(h0, .inr (5, [.ref h1])), (h1, .inl (cI, 6, .inl (fun j => iZ (g j))))] s.heap := hP
  have hl := lv_entry ([.ref h0, .int (iZ x)]) (n := 2) (Nat.le_of_ble_eq_true rfl)
  rw [lg_entry_eq]
  generalize (lg_sl ([.ref h0, .int (iZ x)]) ++ List.replicate (2 - (lg_sl ([.ref h0, .int (iZ x)])).length) Slot.unset).toArray = ls at hl ⊢
  have hl : lv_has ls 2 [(0, .ref h0), (1, .int (iZ x))] := hl
  obtain ⟨hx1, hx2⟩ := id hx0
  have hg1 := hg x.toNat
  refine lv_iload_n hx hb d_Wa_endOf_0 rfl (lv_at hl 1 rfl) ?_
  refine z_i (wr := [(h0, .inr (5, [.ref h1])), (h1, .inl (cI, 6, .inl (fun j => iZ (g j))))]) (va_runS (As := [.int (iZ x)]) (rest := []) ⟨hx, hb, hml, hown, htg⟩ (c_Wa_isSession l dC dI cB cI cJ cZ cQ s.heap.size x hx0) (va_cwS 1 htg (gw_S k_149 k_150 k_4 k_151) rfl rfl rfl (by decide +kernel) ⟨Nat.le_of_ble_eq_true rfl, Nat.le_of_ble_eq_true rfl⟩) (zPreS hK hP hD hZ [] rfl (by decide)) rfl rfl hl.1 rfl (lv_room (Nat.le_of_ble_eq_true rfl)) d_Wa_endOf_1 ⟨by omega, by omega⟩) hP hD hS hA [] [0, 1] rfl rfl (by decide) (by decide) (fun H locs hP hD hS => ?_)
  have hP : va_P (dC, dI) vwCl [(h0, .inr (5, [.ref h1])), (h1, .inl (cI, 6, .inl (fun j => iZ (g j))))] H := hP
  have hD : va_D A [(h0, .inr (5, [.ref h1])), (h1, .inl (cI, 6, .inl (fun j => iZ (g j))))] := hD
  rcases Classical.em (0 ≤ x ∧ x < 6) with b_1 | b_1
  · rw [if_pos b_1]
    refine zz_if_eq (tgt := 16) hx hb d_Wa_endOf_4 (by decide) ⟨by omega, by omega⟩ (fun c_2 => ?_) (fun c_2 => ?_)
    · exfalso; omega
    · refine lv_aload_n hx hb d_Wa_endOf_7 rfl (lv_at hl 0 rfl) ?_
      refine va_get (D := (dC, dI)) (ci := 5) (v := .ref h1) (C := "LogDesk$Waiting") (T := F_Wa) (N := 1) hx hb htg hin_Wa hown hK hP 0 rfl rfl 0 (by decide) (htg _ k_58) (fun _ h9 => h9) rfl d_Wa_endOf_8 ?_
      refine lv_iload_n hx hb d_Wa_endOf_11 rfl (lv_at hl 1 rfl) ?_
      refine zz_iald hx hb hK hP 1 1 rfl rfl (by omega) (by omega) (by omega) d_Wa_endOf_12 ?_
      refine lv_goto (tgt := 17) hx hb d_Wa_endOf_13 (by decide) ?_
      exact W.iret (v := (iZ (g (x).toNat))) hx hb hr (fun t ht hW => ⟨⟨_, (), rfl, (congrArg iZ (by omega)), by rw [ht]; exact hP, va_K.moved hW.alike hK, hAe ▸ hD⟩, hAe ▸ hS.F ht⟩) (hAe ▸ hS.2.2) d_Wa_endOf_17
  · rw [if_neg b_1]
    refine zz_if_eq (tgt := 16) hx hb d_Wa_endOf_4 (by decide) ⟨by omega, by omega⟩ (fun c_3 => ?_) (fun c_3 => ?_)
    · refine lv_iconst (v := iZ 0) hx hb d_Wa_endOf_16 rfl ?_
      exact W.iret (v := (iZ 0)) hx hb hr (fun t ht hW => ⟨⟨_, (), rfl, (congrArg iZ (by omega)), by rw [ht]; exact hP, va_K.moved hW.alike hK, hAe ▸ hD⟩, hAe ▸ hS.F ht⟩) (hAe ▸ hS.2.2) d_Wa_endOf_17
    · exfalso; omega
set_option maxHeartbeats 4000000 in
set_option maxRecDepth 100000 in
/-- Waiting.add -/
theorem c_Wa_add (l : Launch) (dC : Nat → ClassId) (dI : Nat → Nat → Nat) (cB : ClassId) (cI : ClassId) (cJ : ClassId) (cZ : ClassId) (cQ : ClassId) (h0 h1 : Nat) (sz : Nat) (g : Nat → Int) (x : Int) (v : Int) (hx0 : 0 ≤ x ∧ x < 6) : Met l y_Wa_add ((Cond.code y_Wa_add prog_7_method_5_code 3 none) :: gw) ({ frames := 1, cells := 0, slots := 0, locals := 20 } : Room) (zPc (dC, dI) [(cB, .byte), (cI, .int), (cJ, .long), (cZ, .boolean), (cQ, .object "LogDesk$Block")] [.ref h0, .int (iZ x), .int (iZ v)] [(h0, .inr (5, [.ref h1])), (h1, .inl (cI, 6, .inl (fun j => iZ (g j))))] sz) (va_Qv (fun (_ : Unit) => True) (zB (dC, dI) [(cB, .byte), (cI, .int), (cJ, .long), (cZ, .boolean), (cQ, .object "LogDesk$Block")] (va_A [(h0, .inr (5, [.ref h1])), (h1, .inl (cI, 6, .inl (fun j => iZ (g j))))] sz) [(h0, .inr (5, [.ref h1])), (h1, .inl (cI, 6, .inl (fun j => iZ ((va_up g x.toNat v) j))))]) (va_A [(h0, .inr (5, [.ref h1])), (h1, .inl (cI, 6, .inl (fun j => iZ (g j))))] sz)) 0 0 (va_A [(h0, .inr (5, [.ref h1])), (h1, .inl (cI, 6, .inl (fun j => iZ (g j))))] sz) := by
  refine Met.ofW (cc := prog_7_method_5_code) (maxL := 3) (ret := none) (by decide) rfl ?_
  intro p e s m args below meth c s₁ B hml hv
  obtain ⟨rfl, hsz, hP, hK, hD0, hZ⟩ := hv
  have hx := B.exec
  have hb := B.bytes
  have hr := B.returns
  have hts := atoms_spec (ws := (Cond.code y_Wa_add prog_7_method_5_code 3 none) :: gw) B.pre
  have htg : ∀ w ∈ gw, w.before _ s = true := fun w h => hts w (List.mem_cons_of_mem _ h)
  have hown : s.vm.findClass "LogDesk$Waiting" = some m.cls := findClass_of_methodNamed B.named
  have hlocks := B.notSynchronized
  subst hsz
  have hD := hD0.self (sz := s.heap.size)
  generalize hAe : va_A [(h0, .inr (5, [.ref h1])), (h1, .inl (cI, 6, .inl (fun j => iZ (g j))))] s.heap.size = A at hD ⊢
  have hRc : (headSpec ((Cond.code y_Wa_add prog_7_method_5_code 3 none) :: gw) ({ frames := 1, cells := 0, slots := 0, locals := 20 } : Room)).room.cells = 0 := rfl
  have hRs : (headSpec ((Cond.code y_Wa_add prog_7_method_5_code 3 none) :: gw) ({ frames := 1, cells := 0, slots := 0, locals := 20 } : Room)).room.slots = 0 := rfl
  have hA : ∀ q : Nat, s.heap.size ≤ q → A q := fun q h => by rw [← hAe]; exact Or.inr h
  have hS : va_S A s.heap s.heap [] := va_S.rf
  have hP : va_P (dC, dI) vwCl [(h0, .inr (5, [.ref h1])), (h1, .inl (cI, 6, .inl (fun j => iZ (g j))))] s.heap := hP
  have hl := lv_entry ([.ref h0, .int (iZ x), .int (iZ v)]) (n := 3) (Nat.le_of_ble_eq_true rfl)
  rw [lg_entry_eq]
  generalize (lg_sl ([.ref h0, .int (iZ x), .int (iZ v)]) ++ List.replicate (3 - (lg_sl ([.ref h0, .int (iZ x), .int (iZ v)])).length) Slot.unset).toArray = ls at hl ⊢
  have hl : lv_has ls 3 [(0, .ref h0), (1, .int (iZ x)), (2, .int (iZ v))] := hl
  refine lv_iload_n hx hb d_Wa_add_0 rfl (lv_at hl 1 rfl) ?_
  refine z_i (wr := [(h0, .inr (5, [.ref h1])), (h1, .inl (cI, 6, .inl (fun j => iZ (g j))))]) (va_runS (As := [.int (iZ x)]) (rest := []) ⟨hx, hb, hml, hown, htg⟩ (c_Wa_isSession l dC dI cB cI cJ cZ cQ s.heap.size x (⟨by omega, by omega⟩)) (va_cwS 1 htg (gw_S k_149 k_150 k_4 k_151) rfl rfl rfl (by decide +kernel) ⟨Nat.le_of_ble_eq_true rfl, Nat.le_of_ble_eq_true rfl⟩) (zPreS hK hP hD hZ [] rfl (by decide)) rfl rfl hl.1 rfl (lv_room (Nat.le_of_ble_eq_true rfl)) d_Wa_add_1 ⟨by omega, by omega⟩) hP hD hS hA [] [0, 1] rfl rfl (by decide) (by decide) (fun H locs hP hD hS => ?_)
  have hP : va_P (dC, dI) vwCl [(h0, .inr (5, [.ref h1])), (h1, .inl (cI, 6, .inl (fun j => iZ (g j))))] H := hP
  have hD : va_D A [(h0, .inr (5, [.ref h1])), (h1, .inl (cI, 6, .inl (fun j => iZ (g j))))] := hD
  rcases Classical.em (0 ≤ x ∧ x < 6) with b_1 | b_1
  · rw [if_pos b_1]
    refine zz_if_eq (tgt := 14) hx hb d_Wa_add_4 (by decide) ⟨by omega, by omega⟩ (fun c_2 => ?_) (fun c_2 => ?_)
    · exfalso; omega
    · refine lv_aload_n hx hb d_Wa_add_7 rfl (lv_at hl 0 rfl) ?_
      refine va_get (D := (dC, dI)) (ci := 5) (v := .ref h1) (C := "LogDesk$Waiting") (T := F_Wa) (N := 1) hx hb htg hin_Wa hown hK hP 0 rfl rfl 0 (by decide) (htg _ k_58) (fun _ h9 => h9) rfl d_Wa_add_8 ?_
      refine lv_iload_n hx hb d_Wa_add_11 rfl (lv_at hl 1 rfl) ?_
      refine lv_iload_n hx hb d_Wa_add_12 rfl (lv_at hl 2 rfl) ?_
      refine zz_iast hx hb hK hP hD hS 1 1 rfl rfl (by omega) (by omega) (by omega) d_Wa_add_13 (fun H locs hP hD hS => ?_)
      have hP : va_P (dC, dI) vwCl [(h0, .inr (5, [.ref h1])), (h1, .inl (cI, 6, .inl (fun j => iZ ((va_up g (x).toNat v) j))))] H := hP
      have hD : va_D A [(h0, .inr (5, [.ref h1])), (h1, .inl (cI, 6, .inl (fun j => iZ ((va_up g (x).toNat v) j))))] := hD
      have eW : ∀ (x0 y0 : Nat → Int), x0 = y0 → ([(h0, .inr (5, [.ref h1])), (h1, .inl (cI, 6, .inl (fun j => iZ (x0 j))))] : va_W) = [(h0, .inr (5, [.ref h1])), (h1, .inl (cI, 6, .inl (fun j => iZ (y0 j))))] := by intros; subst_vars; rfl
      have eW := eW (va_up g (x).toNat v) (va_up g x.toNat v) rfl
      have hP : va_P (dC, dI) vwCl [(h0, .inr (5, [.ref h1])), (h1, .inl (cI, 6, .inl (fun j => iZ ((va_up g x.toNat v) j))))] H := eW ▸ hP
      have hD : va_D A [(h0, .inr (5, [.ref h1])), (h1, .inl (cI, 6, .inl (fun j => iZ ((va_up g x.toNat v) j))))] := eW ▸ hD
      exact W.vret hx hb hr (fun t ht hW => ⟨⟨(), rfl, trivial, by rw [ht]; exact hP, va_K.moved hW.alike hK, hAe ▸ hD⟩, hAe ▸ hS.F ht⟩) (hAe ▸ hS.2.2) d_Wa_add_14
  · rw [if_neg b_1]
    refine zz_if_eq (tgt := 14) hx hb d_Wa_add_4 (by decide) ⟨by omega, by omega⟩ (fun c_3 => ?_) (fun c_3 => ?_)
    · exfalso; omega
    · exfalso; omega
set_option maxHeartbeats 4000000 in
set_option maxRecDepth 100000 in
/-- Waiting.remove -/
theorem c_Wa_remove (l : Launch) (dC : Nat → ClassId) (dI : Nat → Nat → Nat) (cB : ClassId) (cI : ClassId) (cJ : ClassId) (cZ : ClassId) (cQ : ClassId) (h0 h1 : Nat) (sz : Nat) (g : Nat → Int) (x : Int) (hx0 : 0 ≤ x ∧ x < 6) : Met l y_Wa_remove ((Cond.code y_Wa_remove prog_7_method_6_code 2 none) :: gw) ({ frames := 1, cells := 0, slots := 0, locals := 20 } : Room) (zPc (dC, dI) [(cB, .byte), (cI, .int), (cJ, .long), (cZ, .boolean), (cQ, .object "LogDesk$Block")] [.ref h0, .int (iZ x)] [(h0, .inr (5, [.ref h1])), (h1, .inl (cI, 6, .inl (fun j => iZ (g j))))] sz) (va_Qv (fun (_ : Unit) => True) (zB (dC, dI) [(cB, .byte), (cI, .int), (cJ, .long), (cZ, .boolean), (cQ, .object "LogDesk$Block")] (va_A [(h0, .inr (5, [.ref h1])), (h1, .inl (cI, 6, .inl (fun j => iZ (g j))))] sz) [(h0, .inr (5, [.ref h1])), (h1, .inl (cI, 6, .inl (fun j => iZ ((va_up g x.toNat 0) j))))]) (va_A [(h0, .inr (5, [.ref h1])), (h1, .inl (cI, 6, .inl (fun j => iZ (g j))))] sz)) 0 0 (va_A [(h0, .inr (5, [.ref h1])), (h1, .inl (cI, 6, .inl (fun j => iZ (g j))))] sz) := by
  refine Met.ofW (cc := prog_7_method_6_code) (maxL := 2) (ret := none) (by decide) rfl ?_
  intro p e s m args below meth c s₁ B hml hv
  obtain ⟨rfl, hsz, hP, hK, hD0, hZ⟩ := hv
  have hx := B.exec
  have hb := B.bytes
  have hr := B.returns
  have hts := atoms_spec (ws := (Cond.code y_Wa_remove prog_7_method_6_code 2 none) :: gw) B.pre
  have htg : ∀ w ∈ gw, w.before _ s = true := fun w h => hts w (List.mem_cons_of_mem _ h)
  have hown : s.vm.findClass "LogDesk$Waiting" = some m.cls := findClass_of_methodNamed B.named
  have hlocks := B.notSynchronized
  subst hsz
  have hD := hD0.self (sz := s.heap.size)
  generalize hAe : va_A [(h0, .inr (5, [.ref h1])), (h1, .inl (cI, 6, .inl (fun j => iZ (g j))))] s.heap.size = A at hD ⊢
  have hRc : (headSpec ((Cond.code y_Wa_remove prog_7_method_6_code 2 none) :: gw) ({ frames := 1, cells := 0, slots := 0, locals := 20 } : Room)).room.cells = 0 := rfl
  have hRs : (headSpec ((Cond.code y_Wa_remove prog_7_method_6_code 2 none) :: gw) ({ frames := 1, cells := 0, slots := 0, locals := 20 } : Room)).room.slots = 0 := rfl
  have hA : ∀ q : Nat, s.heap.size ≤ q → A q := fun q h => by rw [← hAe]; exact Or.inr h
  have hS : va_S A s.heap s.heap [] := va_S.rf
  have hP : va_P (dC, dI) vwCl [(h0, .inr (5, [.ref h1])), (h1, .inl (cI, 6, .inl (fun j => iZ (g j))))] s.heap := hP
  have hl := lv_entry ([.ref h0, .int (iZ x)]) (n := 2) (Nat.le_of_ble_eq_true rfl)
  rw [lg_entry_eq]
  generalize (lg_sl ([.ref h0, .int (iZ x)]) ++ List.replicate (2 - (lg_sl ([.ref h0, .int (iZ x)])).length) Slot.unset).toArray = ls at hl ⊢
  have hl : lv_has ls 2 [(0, .ref h0), (1, .int (iZ x))] := hl
  refine lv_iload_n hx hb d_Wa_remove_0 rfl (lv_at hl 1 rfl) ?_
  refine z_i (wr := [(h0, .inr (5, [.ref h1])), (h1, .inl (cI, 6, .inl (fun j => iZ (g j))))]) (va_runS (As := [.int (iZ x)]) (rest := []) ⟨hx, hb, hml, hown, htg⟩ (c_Wa_isSession l dC dI cB cI cJ cZ cQ s.heap.size x (⟨by omega, by omega⟩)) (va_cwS 1 htg (gw_S k_149 k_150 k_4 k_151) rfl rfl rfl (by decide +kernel) ⟨Nat.le_of_ble_eq_true rfl, Nat.le_of_ble_eq_true rfl⟩) (zPreS hK hP hD hZ [] rfl (by decide)) rfl rfl hl.1 rfl (lv_room (Nat.le_of_ble_eq_true rfl)) d_Wa_remove_1 ⟨by omega, by omega⟩) hP hD hS hA [] [0, 1] rfl rfl (by decide) (by decide) (fun H locs hP hD hS => ?_)
  have hP : va_P (dC, dI) vwCl [(h0, .inr (5, [.ref h1])), (h1, .inl (cI, 6, .inl (fun j => iZ (g j))))] H := hP
  have hD : va_D A [(h0, .inr (5, [.ref h1])), (h1, .inl (cI, 6, .inl (fun j => iZ (g j))))] := hD
  rcases Classical.em (0 ≤ x ∧ x < 6) with b_1 | b_1
  · rw [if_pos b_1]
    refine zz_if_eq (tgt := 14) hx hb d_Wa_remove_4 (by decide) ⟨by omega, by omega⟩ (fun c_2 => ?_) (fun c_2 => ?_)
    · exfalso; omega
    · refine lv_aload_n hx hb d_Wa_remove_7 rfl (lv_at hl 0 rfl) ?_
      refine va_get (D := (dC, dI)) (ci := 5) (v := .ref h1) (C := "LogDesk$Waiting") (T := F_Wa) (N := 1) hx hb htg hin_Wa hown hK hP 0 rfl rfl 0 (by decide) (htg _ k_58) (fun _ h9 => h9) rfl d_Wa_remove_8 ?_
      refine lv_iload_n hx hb d_Wa_remove_11 rfl (lv_at hl 1 rfl) ?_
      refine lv_iconst (v := iZ 0) hx hb d_Wa_remove_12 rfl ?_
      refine zz_iast hx hb hK hP hD hS 1 1 rfl rfl (by omega) (by omega) (by omega) d_Wa_remove_13 (fun H locs hP hD hS => ?_)
      have hP : va_P (dC, dI) vwCl [(h0, .inr (5, [.ref h1])), (h1, .inl (cI, 6, .inl (fun j => iZ ((va_up g (x).toNat 0) j))))] H := hP
      have hD : va_D A [(h0, .inr (5, [.ref h1])), (h1, .inl (cI, 6, .inl (fun j => iZ ((va_up g (x).toNat 0) j))))] := hD
      have eW : ∀ (x0 y0 : Nat → Int), x0 = y0 → ([(h0, .inr (5, [.ref h1])), (h1, .inl (cI, 6, .inl (fun j => iZ (x0 j))))] : va_W) = [(h0, .inr (5, [.ref h1])), (h1, .inl (cI, 6, .inl (fun j => iZ (y0 j))))] := by intros; subst_vars; rfl
      have eW := eW (va_up g (x).toNat 0) (va_up g x.toNat 0) rfl
      have hP : va_P (dC, dI) vwCl [(h0, .inr (5, [.ref h1])), (h1, .inl (cI, 6, .inl (fun j => iZ ((va_up g x.toNat 0) j))))] H := eW ▸ hP
      have hD : va_D A [(h0, .inr (5, [.ref h1])), (h1, .inl (cI, 6, .inl (fun j => iZ ((va_up g x.toNat 0) j))))] := eW ▸ hD
      exact W.vret hx hb hr (fun t ht hW => ⟨⟨(), rfl, trivial, by rw [ht]; exact hP, va_K.moved hW.alike hK, hAe ▸ hD⟩, hAe ▸ hS.F ht⟩) (hAe ▸ hS.2.2) d_Wa_remove_14
  · rw [if_neg b_1]
    refine zz_if_eq (tgt := 14) hx hb d_Wa_remove_4 (by decide) ⟨by omega, by omega⟩ (fun c_3 => ?_) (fun c_3 => ?_)
    · exfalso; omega
    · exfalso; omega
set_option maxHeartbeats 4000000 in
set_option maxRecDepth 100000 in
/-- Waiting.first -/
theorem c_Wa_first (l : Launch) (dC : Nat → ClassId) (dI : Nat → Nat → Nat) (cB : ClassId) (cI : ClassId) (cJ : ClassId) (cZ : ClassId) (cQ : ClassId) (h0 h1 : Nat) (sz : Nat) (g : Nat → Int) (hg : ∀ j : Nat, 0 ≤ g j ∧ g j < 1000000000) : Met l y_Wa_first ((Cond.code y_Wa_first prog_7_method_7_code 3 (some .int)) :: gw) ({ frames := 2, cells := 0, slots := 0, locals := 45 } : Room) (zPc (dC, dI) [(cB, .byte), (cI, .int), (cJ, .long), (cZ, .boolean), (cQ, .object "LogDesk$Block")] [.ref h0] [(h0, .inr (5, [.ref h1])), (h1, .inl (cI, 6, .inl (fun j => iZ (g j))))] sz) (va_Qi (fun (r : Int32) (_ : Unit) => r = iZ (wfst g 6)) (zB (dC, dI) [(cB, .byte), (cI, .int), (cJ, .long), (cZ, .boolean), (cQ, .object "LogDesk$Block")] (va_A [(h0, .inr (5, [.ref h1])), (h1, .inl (cI, 6, .inl (fun j => iZ (g j))))] sz) [(h0, .inr (5, [.ref h1])), (h1, .inl (cI, 6, .inl (fun j => iZ (g j))))]) (va_A [(h0, .inr (5, [.ref h1])), (h1, .inl (cI, 6, .inl (fun j => iZ (g j))))] sz)) 0 0 (va_A [(h0, .inr (5, [.ref h1])), (h1, .inl (cI, 6, .inl (fun j => iZ (g j))))] sz) := by
  refine Met.ofW (cc := prog_7_method_7_code) (maxL := 3) (ret := (some .int)) (by decide) rfl ?_
  intro p e s m args below meth c s₁ B hml hv
  obtain ⟨rfl, hsz, hP, hK, hD0, hZ⟩ := hv
  have hx := B.exec
  have hb := B.bytes
  have hr := B.returns
  have hts := atoms_spec (ws := (Cond.code y_Wa_first prog_7_method_7_code 3 (some .int)) :: gw) B.pre
  have htg : ∀ w ∈ gw, w.before _ s = true := fun w h => hts w (List.mem_cons_of_mem _ h)
  have hown : s.vm.findClass "LogDesk$Waiting" = some m.cls := findClass_of_methodNamed B.named
  have hlocks := B.notSynchronized
  subst hsz
  have hD := hD0.self (sz := s.heap.size)
  generalize hAe : va_A [(h0, .inr (5, [.ref h1])), (h1, .inl (cI, 6, .inl (fun j => iZ (g j))))] s.heap.size = A at hD ⊢
  have hRc : (headSpec ((Cond.code y_Wa_first prog_7_method_7_code 3 (some .int)) :: gw) ({ frames := 2, cells := 0, slots := 0, locals := 45 } : Room)).room.cells = 0 := rfl
  have hRs : (headSpec ((Cond.code y_Wa_first prog_7_method_7_code 3 (some .int)) :: gw) ({ frames := 2, cells := 0, slots := 0, locals := 45 } : Room)).room.slots = 0 := rfl
  generalize hQ : MQ below (va_Qi (fun (r : Int32) (_ : Unit) => r = iZ (wfst g 6)) (zB (dC, dI) [(cB, .byte), (cI, .int), (cJ, .long), (cZ, .boolean), (cQ, .object "LogDesk$Block")] A [(h0, .inr (5, [.ref h1])), (h1, .inl (cI, 6, .inl (fun j => iZ (g j))))]) A) [.ref h0].toArray s 0 0 A = QQ
  have hA : ∀ q : Nat, s.heap.size ≤ q → A q := fun q h => by rw [← hAe]; exact Or.inr h
  have hS : va_S A s.heap s.heap [] := va_S.rf
  have hP : va_P (dC, dI) vwCl [(h0, .inr (5, [.ref h1])), (h1, .inl (cI, 6, .inl (fun j => iZ (g j))))] s.heap := hP
  have hl := lv_entry ([.ref h0]) (n := 3) (Nat.le_of_ble_eq_true rfl)
  rw [lg_entry_eq]
  generalize (lg_sl ([.ref h0]) ++ List.replicate (3 - (lg_sl ([.ref h0])).length) Slot.unset).toArray = ls at hl ⊢
  have hl : lv_has ls 3 [(0, .ref h0)] := hl
  refine lv_iconst (v := iZ (-1)) hx hb d_Wa_first_0 rfl ?_
  refine lv_istore_n (lv' := [(1, .int (iZ (-1))), (0, .ref h0)]) hx hb d_Wa_first_1 rfl hl (by decide) rfl (fun ls hl => ?_)
  refine lv_iconst (v := iZ 0) hx hb d_Wa_first_2 rfl ?_
  refine lv_istore_n (lv' := [(2, .int (iZ 0)), (1, .int (iZ (-1))), (0, .ref h0)]) hx hb d_Wa_first_3 rfl hl (by decide) rfl (fun ls hl => ?_)
  have loop4 : ∀ (nn : Nat) (i : Int) (f : Int) (H : Heap) (locs : List Loc) (ls : Array Slot), (0 ≤ i ∧ i ≤ 6) → (f = wfst g i.toNat) → (-1 ≤ f ∧ f < i) → (6 - i < (nn : Int)) → va_P (dC, dI) vwCl [(h0, .inr (5, [.ref h1])), (h1, .inl (cI, 6, .inl (fun j => iZ (g j))))] H → va_D A [(h0, .inr (5, [.ref h1])), (h1, .inl (cI, 6, .inl (fun j => iZ (g j))))] → va_S A s.heap H locs → lv_has ls 3 [(0, .ref h0), (1, .int (iZ f)), (2, .int (iZ i))] → W p l e (headSpec ((Cond.code y_Wa_first prog_7_method_7_code 3 (some .int)) :: gw) ({ frames := 2, cells := 0, slots := 0, locals := 45 } : Room)).room s m [.ref h0].toArray below meth c H locs 0 0 QQ (F0 m 4 ls []) := by
    intro nn
    induction nn with
    | zero => intro i f H locs ls hi hf hf2 hm hP hD hS hl; exfalso; omega
    | succ nn ih =>
      intro i f H locs ls hi hf hf2 hm hP hD hS hl
      have hg1 := hg i.toNat
      have hg2 := hg f.toNat
      refine lv_iload_n hx hb d_Wa_first_4 rfl (lv_at hl 2 rfl) ?_
      refine lv_bipush (v := iZ 6) hx hb d_Wa_first_5 (by decide) ?_
      refine zz_icmp_ge (tgt := 45) hx hb d_Wa_first_7 (by decide) ⟨by omega, by omega⟩ ⟨by omega, by omega⟩ (fun c_1 => ?_) (fun c_1 => ?_)
      · refine lv_iload_n hx hb d_Wa_first_45 rfl (lv_at hl 1 rfl) ?_
        subst hQ
        exact W.iret (v := (iZ f)) hx hb hr (fun t ht hW => ⟨⟨_, (), rfl, (congrArg iZ (by rw [hf]; congr 1; omega)), by rw [ht]; exact hP, va_K.moved hW.alike hK, hAe ▸ hD⟩, hAe ▸ hS.F ht⟩) (hAe ▸ hS.2.2) d_Wa_first_46
      · refine lv_aload_n hx hb d_Wa_first_10 rfl (lv_at hl 0 rfl) ?_
        refine lv_iload_n hx hb d_Wa_first_11 rfl (lv_at hl 2 rfl) ?_
        refine z_i (wr := []) (va_runV (As := [.int (iZ i)]) (rest := []) ⟨hx, hb, hml, hown, htg⟩ (c_Wa_has l dC dI cB cI cJ cZ cQ h0 h1 H.size g i hg (⟨by omega, by omega⟩)) (cwV 1 htg (gw_V k_145 k_146 k_147 k_4 k_148) rfl rfl rfl (by decide +kernel) ⟨Nat.le_of_ble_eq_true rfl, Nat.le_of_ble_eq_true rfl⟩) (zPreV hK hP hD hZ [0, 1] rfl (by decide) 0 (ci := 5) rfl rfl) rfl rfl hl.1 rfl (lv_room (Nat.le_of_ble_eq_true rfl)) d_Wa_first_12 ⟨by omega, by omega⟩) hP hD hS hA [0, 1] [] rfl rfl (by decide) (by decide) (fun H locs hP hD hS => ?_)
        have hP : va_P (dC, dI) vwCl [(h0, .inr (5, [.ref h1])), (h1, .inl (cI, 6, .inl (fun j => iZ (g j))))] H := hP
        have hD : va_D A [(h0, .inr (5, [.ref h1])), (h1, .inl (cI, 6, .inl (fun j => iZ (g j))))] := hD
        rcases Classical.em ((0 ≤ i ∧ i < 6) ∧ g i.toNat ≠ 0) with b_2 | b_2
        · rw [if_pos b_2]
          refine zz_if_eq (tgt := 39) hx hb d_Wa_first_15 (by decide) ⟨by omega, by omega⟩ (fun c_3 => ?_) (fun c_3 => ?_)
          · exfalso; omega
          · refine lv_iload_n hx hb d_Wa_first_18 rfl (lv_at hl 1 rfl) ?_
            refine lv_iconst (v := iZ (-1)) hx hb d_Wa_first_19 rfl ?_
            refine zz_icmp_eq (tgt := 37) hx hb d_Wa_first_20 (by decide) ⟨by omega, by omega⟩ ⟨by omega, by omega⟩ (fun c_4 => ?_) (fun c_4 => ?_)
            · refine lv_iload_n hx hb d_Wa_first_37 rfl (lv_at hl 2 rfl) ?_
              refine lv_istore_n (lv' := [(1, .int (iZ i)), (0, .ref h0), (2, .int (iZ i))]) hx hb d_Wa_first_38 rfl hl (by decide) rfl (fun ls hl => ?_)
              refine lv_iinc (v := iZ (i + 1)) (lv' := [(2, .int (iZ (i + 1))), (1, .int (iZ i)), (0, .ref h0)]) hx hb d_Wa_first_39 hl (k := 2) rfl (iZ_add _ _) (by decide) rfl (fun ls hl => ?_)
              refine lv_goto (tgt := 4) hx hb d_Wa_first_42 (by decide) ?_
              exact ih (i + 1) i H _ ls (by omega) (by rw [wfst_step hi.1 hf]; omega) (by omega) (by omega) hP hD hS (lv_sub hl [2, 1, 0] rfl)
            · refine lv_aload_n hx hb d_Wa_first_23 rfl (lv_at hl 0 rfl) ?_
              refine va_get (D := (dC, dI)) (ci := 5) (v := .ref h1) (C := "LogDesk$Waiting") (T := F_Wa) (N := 1) hx hb htg hin_Wa hown hK hP 0 rfl rfl 0 (by decide) (htg _ k_58) (fun _ h9 => h9) rfl d_Wa_first_24 ?_
              refine lv_iload_n hx hb d_Wa_first_27 rfl (lv_at hl 2 rfl) ?_
              refine zz_iald hx hb hK hP 1 1 rfl rfl (by omega) (by omega) (by omega) d_Wa_first_28 ?_
              refine lv_aload_n hx hb d_Wa_first_29 rfl (lv_at hl 0 rfl) ?_
              refine lv_iload_n hx hb d_Wa_first_30 rfl (lv_at hl 1 rfl) ?_
              refine z_i (wr := []) (va_runV (As := [.int (iZ f)]) (rest := [.int (iZ (g (i).toNat))]) ⟨hx, hb, hml, hown, htg⟩ (c_Wa_endOf l dC dI cB cI cJ cZ cQ h0 h1 H.size g f hg (⟨by omega, by omega⟩)) (cwV 1 htg (gw_V k_152 k_153 k_154 k_4 k_155) rfl rfl rfl (by decide +kernel) ⟨Nat.le_of_ble_eq_true rfl, Nat.le_of_ble_eq_true rfl⟩) (zPreV hK hP hD hZ [0, 1] rfl (by decide) 0 (ci := 5) rfl rfl) rfl rfl hl.1 rfl (lv_room (Nat.le_of_ble_eq_true rfl)) d_Wa_first_31 ⟨by omega, by omega⟩) hP hD hS hA [0, 1] [] rfl rfl (by decide) (by decide) (fun H locs hP hD hS => ?_)
              have hP : va_P (dC, dI) vwCl [(h0, .inr (5, [.ref h1])), (h1, .inl (cI, 6, .inl (fun j => iZ (g j))))] H := hP
              have hD : va_D A [(h0, .inr (5, [.ref h1])), (h1, .inl (cI, 6, .inl (fun j => iZ (g j))))] := hD
              refine zz_icmp_ge (tgt := 39) hx hb d_Wa_first_34 (by decide) ⟨by omega, by omega⟩ ⟨by omega, by omega⟩ (fun c_5 => ?_) (fun c_5 => ?_)
              · refine lv_iinc (v := iZ (i + 1)) (lv' := [(2, .int (iZ (i + 1))), (0, .ref h0), (1, .int (iZ f))]) hx hb d_Wa_first_39 hl (k := 2) rfl (iZ_add _ _) (by decide) rfl (fun ls hl => ?_)
                refine lv_goto (tgt := 4) hx hb d_Wa_first_42 (by decide) ?_
                exact ih (i + 1) f H _ ls (by omega) (by rw [wfst_step hi.1 hf]; omega) (by omega) (by omega) hP hD hS (lv_sub hl [1, 2, 0] rfl)
              · refine lv_iload_n hx hb d_Wa_first_37 rfl (lv_at hl 2 rfl) ?_
                refine lv_istore_n (lv' := [(1, .int (iZ i)), (0, .ref h0), (2, .int (iZ i))]) hx hb d_Wa_first_38 rfl hl (by decide) rfl (fun ls hl => ?_)
                refine lv_iinc (v := iZ (i + 1)) (lv' := [(2, .int (iZ (i + 1))), (1, .int (iZ i)), (0, .ref h0)]) hx hb d_Wa_first_39 hl (k := 2) rfl (iZ_add _ _) (by decide) rfl (fun ls hl => ?_)
                refine lv_goto (tgt := 4) hx hb d_Wa_first_42 (by decide) ?_
                exact ih (i + 1) i H _ ls (by omega) (by rw [wfst_step hi.1 hf]; omega) (by omega) (by omega) hP hD hS (lv_sub hl [2, 1, 0] rfl)
        · rw [if_neg b_2]
          refine zz_if_eq (tgt := 39) hx hb d_Wa_first_15 (by decide) ⟨by omega, by omega⟩ (fun c_6 => ?_) (fun c_6 => ?_)
          · refine lv_iinc (v := iZ (i + 1)) (lv' := [(2, .int (iZ (i + 1))), (0, .ref h0), (1, .int (iZ f))]) hx hb d_Wa_first_39 hl (k := 2) rfl (iZ_add _ _) (by decide) rfl (fun ls hl => ?_)
            refine lv_goto (tgt := 4) hx hb d_Wa_first_42 (by decide) ?_
            exact ih (i + 1) f H _ ls (by omega) (by rw [wfst_step hi.1 hf]; omega) (by omega) (by omega) hP hD hS (lv_sub hl [1, 2, 0] rfl)
          · exfalso; omega
  exact loop4 (Int.toNat (6 - 0) + 1) 0 (-1) s.heap _ ls (by omega) rfl (by omega) (by omega) hP hD hS (lv_sub hl [2, 1, 0] rfl)
set_option maxHeartbeats 4000000 in
set_option maxRecDepth 100000 in
/-- Waiting.count -/
theorem c_Wa_count (l : Launch) (dC : Nat → ClassId) (dI : Nat → Nat → Nat) (cB : ClassId) (cI : ClassId) (cJ : ClassId) (cZ : ClassId) (cQ : ClassId) (h0 h1 : Nat) (sz : Nat) (g : Nat → Int) (hg : ∀ j : Nat, 0 ≤ g j ∧ g j < 1000000000) : Met l y_Wa_count ((Cond.code y_Wa_count prog_7_method_8_code 3 (some .int)) :: gw) ({ frames := 2, cells := 0, slots := 0, locals := 45 } : Room) (zPc (dC, dI) [(cB, .byte), (cI, .int), (cJ, .long), (cZ, .boolean), (cQ, .object "LogDesk$Block")] [.ref h0] [(h0, .inr (5, [.ref h1])), (h1, .inl (cI, 6, .inl (fun j => iZ (g j))))] sz) (va_Qi (fun (r : Int32) (_ : Unit) => r = iZ (wcnt g 6)) (zB (dC, dI) [(cB, .byte), (cI, .int), (cJ, .long), (cZ, .boolean), (cQ, .object "LogDesk$Block")] (va_A [(h0, .inr (5, [.ref h1])), (h1, .inl (cI, 6, .inl (fun j => iZ (g j))))] sz) [(h0, .inr (5, [.ref h1])), (h1, .inl (cI, 6, .inl (fun j => iZ (g j))))]) (va_A [(h0, .inr (5, [.ref h1])), (h1, .inl (cI, 6, .inl (fun j => iZ (g j))))] sz)) 0 0 (va_A [(h0, .inr (5, [.ref h1])), (h1, .inl (cI, 6, .inl (fun j => iZ (g j))))] sz) := by
  refine Met.ofW (cc := prog_7_method_8_code) (maxL := 3) (ret := (some .int)) (by decide) rfl ?_
  intro p e s m args below meth c s₁ B hml hv
  obtain ⟨rfl, hsz, hP, hK, hD0, hZ⟩ := hv
  have hx := B.exec
  have hb := B.bytes
  have hr := B.returns
  have hts := atoms_spec (ws := (Cond.code y_Wa_count prog_7_method_8_code 3 (some .int)) :: gw) B.pre
  have htg : ∀ w ∈ gw, w.before _ s = true := fun w h => hts w (List.mem_cons_of_mem _ h)
  have hown : s.vm.findClass "LogDesk$Waiting" = some m.cls := findClass_of_methodNamed B.named
  have hlocks := B.notSynchronized
  subst hsz
  have hD := hD0.self (sz := s.heap.size)
  generalize hAe : va_A [(h0, .inr (5, [.ref h1])), (h1, .inl (cI, 6, .inl (fun j => iZ (g j))))] s.heap.size = A at hD ⊢
  have hRc : (headSpec ((Cond.code y_Wa_count prog_7_method_8_code 3 (some .int)) :: gw) ({ frames := 2, cells := 0, slots := 0, locals := 45 } : Room)).room.cells = 0 := rfl
  have hRs : (headSpec ((Cond.code y_Wa_count prog_7_method_8_code 3 (some .int)) :: gw) ({ frames := 2, cells := 0, slots := 0, locals := 45 } : Room)).room.slots = 0 := rfl
  generalize hQ : MQ below (va_Qi (fun (r : Int32) (_ : Unit) => r = iZ (wcnt g 6)) (zB (dC, dI) [(cB, .byte), (cI, .int), (cJ, .long), (cZ, .boolean), (cQ, .object "LogDesk$Block")] A [(h0, .inr (5, [.ref h1])), (h1, .inl (cI, 6, .inl (fun j => iZ (g j))))]) A) [.ref h0].toArray s 0 0 A = QQ
  have hA : ∀ q : Nat, s.heap.size ≤ q → A q := fun q h => by rw [← hAe]; exact Or.inr h
  have hS : va_S A s.heap s.heap [] := va_S.rf
  have hP : va_P (dC, dI) vwCl [(h0, .inr (5, [.ref h1])), (h1, .inl (cI, 6, .inl (fun j => iZ (g j))))] s.heap := hP
  have hl := lv_entry ([.ref h0]) (n := 3) (Nat.le_of_ble_eq_true rfl)
  rw [lg_entry_eq]
  generalize (lg_sl ([.ref h0]) ++ List.replicate (3 - (lg_sl ([.ref h0])).length) Slot.unset).toArray = ls at hl ⊢
  have hl : lv_has ls 3 [(0, .ref h0)] := hl
  refine lv_iconst (v := iZ 0) hx hb d_Wa_count_0 rfl ?_
  refine lv_istore_n (lv' := [(1, .int (iZ 0)), (0, .ref h0)]) hx hb d_Wa_count_1 rfl hl (by decide) rfl (fun ls hl => ?_)
  refine lv_iconst (v := iZ 0) hx hb d_Wa_count_2 rfl ?_
  refine lv_istore_n (lv' := [(2, .int (iZ 0)), (1, .int (iZ 0)), (0, .ref h0)]) hx hb d_Wa_count_3 rfl hl (by decide) rfl (fun ls hl => ?_)
  have loop4 : ∀ (nn : Nat) (i : Int) (f : Int) (H : Heap) (locs : List Loc) (ls : Array Slot), (0 ≤ i ∧ i ≤ 6) → (f = wcnt g i.toNat) → (0 ≤ f ∧ f ≤ i) → (6 - i < (nn : Int)) → va_P (dC, dI) vwCl [(h0, .inr (5, [.ref h1])), (h1, .inl (cI, 6, .inl (fun j => iZ (g j))))] H → va_D A [(h0, .inr (5, [.ref h1])), (h1, .inl (cI, 6, .inl (fun j => iZ (g j))))] → va_S A s.heap H locs → lv_has ls 3 [(0, .ref h0), (1, .int (iZ f)), (2, .int (iZ i))] → W p l e (headSpec ((Cond.code y_Wa_count prog_7_method_8_code 3 (some .int)) :: gw) ({ frames := 2, cells := 0, slots := 0, locals := 45 } : Room)).room s m [.ref h0].toArray below meth c H locs 0 0 QQ (F0 m 4 ls []) := by
    intro nn
    induction nn with
    | zero => intro i f H locs ls hi hf hf2 hm hP hD hS hl; exfalso; omega
    | succ nn ih =>
      intro i f H locs ls hi hf hf2 hm hP hD hS hl
      have hg1 := hg i.toNat
      refine lv_iload_n hx hb d_Wa_count_4 rfl (lv_at hl 2 rfl) ?_
      refine lv_bipush (v := iZ 6) hx hb d_Wa_count_5 (by decide) ?_
      refine zz_icmp_ge (tgt := 27) hx hb d_Wa_count_7 (by decide) ⟨by omega, by omega⟩ ⟨by omega, by omega⟩ (fun c_1 => ?_) (fun c_1 => ?_)
      · refine lv_iload_n hx hb d_Wa_count_27 rfl (lv_at hl 1 rfl) ?_
        subst hQ
        exact W.iret (v := (iZ f)) hx hb hr (fun t ht hW => ⟨⟨_, (), rfl, (congrArg iZ (by rw [hf]; congr 1; omega)), by rw [ht]; exact hP, va_K.moved hW.alike hK, hAe ▸ hD⟩, hAe ▸ hS.F ht⟩) (hAe ▸ hS.2.2) d_Wa_count_28
      · refine lv_aload_n hx hb d_Wa_count_10 rfl (lv_at hl 0 rfl) ?_
        refine lv_iload_n hx hb d_Wa_count_11 rfl (lv_at hl 2 rfl) ?_
        refine z_i (wr := []) (va_runV (As := [.int (iZ i)]) (rest := []) ⟨hx, hb, hml, hown, htg⟩ (c_Wa_has l dC dI cB cI cJ cZ cQ h0 h1 H.size g i hg (⟨by omega, by omega⟩)) (cwV 1 htg (gw_V k_145 k_146 k_147 k_4 k_148) rfl rfl rfl (by decide +kernel) ⟨Nat.le_of_ble_eq_true rfl, Nat.le_of_ble_eq_true rfl⟩) (zPreV hK hP hD hZ [0, 1] rfl (by decide) 0 (ci := 5) rfl rfl) rfl rfl hl.1 rfl (lv_room (Nat.le_of_ble_eq_true rfl)) d_Wa_count_12 ⟨by omega, by omega⟩) hP hD hS hA [0, 1] [] rfl rfl (by decide) (by decide) (fun H locs hP hD hS => ?_)
        have hP : va_P (dC, dI) vwCl [(h0, .inr (5, [.ref h1])), (h1, .inl (cI, 6, .inl (fun j => iZ (g j))))] H := hP
        have hD : va_D A [(h0, .inr (5, [.ref h1])), (h1, .inl (cI, 6, .inl (fun j => iZ (g j))))] := hD
        rcases Classical.em ((0 ≤ i ∧ i < 6) ∧ g i.toNat ≠ 0) with b_2 | b_2
        · rw [if_pos b_2]
          refine zz_if_eq (tgt := 21) hx hb d_Wa_count_15 (by decide) ⟨by omega, by omega⟩ (fun c_3 => ?_) (fun c_3 => ?_)
          · exfalso; omega
          · refine lv_iinc (v := iZ (f + 1)) (lv' := [(1, .int (iZ (f + 1))), (0, .ref h0), (2, .int (iZ i))]) hx hb d_Wa_count_18 hl (k := 1) rfl (iZ_add _ _) (by decide) rfl (fun ls hl => ?_)
            refine lv_iinc (v := iZ (i + 1)) (lv' := [(2, .int (iZ (i + 1))), (1, .int (iZ (f + 1))), (0, .ref h0)]) hx hb d_Wa_count_21 hl (k := 2) rfl (iZ_add _ _) (by decide) rfl (fun ls hl => ?_)
            refine lv_goto (tgt := 4) hx hb d_Wa_count_24 (by decide) ?_
            exact ih (i + 1) (f + 1) H _ ls (by omega) (by rw [wcnt_step hi.1, ← hf]; omega) (by omega) (by omega) hP hD hS (lv_sub hl [2, 1, 0] rfl)
        · rw [if_neg b_2]
          refine zz_if_eq (tgt := 21) hx hb d_Wa_count_15 (by decide) ⟨by omega, by omega⟩ (fun c_4 => ?_) (fun c_4 => ?_)
          · refine lv_iinc (v := iZ (i + 1)) (lv' := [(2, .int (iZ (i + 1))), (0, .ref h0), (1, .int (iZ f))]) hx hb d_Wa_count_21 hl (k := 2) rfl (iZ_add _ _) (by decide) rfl (fun ls hl => ?_)
            refine lv_goto (tgt := 4) hx hb d_Wa_count_24 (by decide) ?_
            exact ih (i + 1) f H _ ls (by omega) (by rw [wcnt_step hi.1, ← hf]; omega) (by omega) (by omega) hP hD hS (lv_sub hl [1, 2, 0] rfl)
          · exfalso; omega
  exact loop4 (Int.toNat (6 - 0) + 1) 0 0 s.heap _ ls (by omega) rfl (by omega) (by omega) hP hD hS (lv_sub hl [2, 1, 0] rfl)
set_option maxHeartbeats 4000000 in
set_option maxRecDepth 100000 in
/-- Waiting.clear -/
theorem c_Wa_clear (l : Launch) (dC : Nat → ClassId) (dI : Nat → Nat → Nat) (cB : ClassId) (cI : ClassId) (cJ : ClassId) (cZ : ClassId) (cQ : ClassId) (h0 h1 : Nat) (sz : Nat) (g : Nat → Int) : Met l y_Wa_clear ((Cond.code y_Wa_clear prog_7_method_9_code 1 none) :: gw) ({ frames := 1, cells := 0, slots := 0, locals := 23 } : Room) (zPc (dC, dI) [(cB, .byte), (cI, .int), (cJ, .long), (cZ, .boolean), (cQ, .object "LogDesk$Block")] [.ref h0] [(h0, .inr (5, [.ref h1])), (h1, .inl (cI, 6, .inl (fun j => iZ (g j))))] sz) (va_Qv (fun (_ : Unit) => True) (zB (dC, dI) [(cB, .byte), (cI, .int), (cJ, .long), (cZ, .boolean), (cQ, .object "LogDesk$Block")] (va_A [(h0, .inr (5, [.ref h1])), (h1, .inl (cI, 6, .inl (fun j => iZ (g j))))] sz) [(h0, .inr (5, [.ref h1])), (h1, .inl (cI, 6, .inl (fun j => iZ ((fun j => if j < 6 then 0 else g j) j))))]) (va_A [(h0, .inr (5, [.ref h1])), (h1, .inl (cI, 6, .inl (fun j => iZ (g j))))] sz)) 0 0 (va_A [(h0, .inr (5, [.ref h1])), (h1, .inl (cI, 6, .inl (fun j => iZ (g j))))] sz) := by
  refine Met.ofW (cc := prog_7_method_9_code) (maxL := 1) (ret := none) (by decide) rfl ?_
  intro p e s m args below meth c s₁ B hml hv
  obtain ⟨rfl, hsz, hP, hK, hD0, hZ⟩ := hv
  have hx := B.exec
  have hb := B.bytes
  have hr := B.returns
  have hts := atoms_spec (ws := (Cond.code y_Wa_clear prog_7_method_9_code 1 none) :: gw) B.pre
  have htg : ∀ w ∈ gw, w.before _ s = true := fun w h => hts w (List.mem_cons_of_mem _ h)
  have hown : s.vm.findClass "LogDesk$Waiting" = some m.cls := findClass_of_methodNamed B.named
  have hlocks := B.notSynchronized
  subst hsz
  have hD := hD0.self (sz := s.heap.size)
  generalize hAe : va_A [(h0, .inr (5, [.ref h1])), (h1, .inl (cI, 6, .inl (fun j => iZ (g j))))] s.heap.size = A at hD ⊢
  have hRc : (headSpec ((Cond.code y_Wa_clear prog_7_method_9_code 1 none) :: gw) ({ frames := 1, cells := 0, slots := 0, locals := 23 } : Room)).room.cells = 0 := rfl
  have hRs : (headSpec ((Cond.code y_Wa_clear prog_7_method_9_code 1 none) :: gw) ({ frames := 1, cells := 0, slots := 0, locals := 23 } : Room)).room.slots = 0 := rfl
  have hA : ∀ q : Nat, s.heap.size ≤ q → A q := fun q h => by rw [← hAe]; exact Or.inr h
  have hS : va_S A s.heap s.heap [] := va_S.rf
  have hP : va_P (dC, dI) vwCl [(h0, .inr (5, [.ref h1])), (h1, .inl (cI, 6, .inl (fun j => iZ (g j))))] s.heap := hP
  have hl := lv_entry ([.ref h0]) (n := 1) (Nat.le_of_ble_eq_true rfl)
  rw [lg_entry_eq]
  generalize (lg_sl ([.ref h0]) ++ List.replicate (1 - (lg_sl ([.ref h0])).length) Slot.unset).toArray = ls at hl ⊢
  have hl : lv_has ls 1 [(0, .ref h0)] := hl
  refine lv_aload_n hx hb d_Wa_clear_0 rfl (lv_at hl 0 rfl) ?_
  refine va_get (D := (dC, dI)) (ci := 5) (v := .ref h1) (C := "LogDesk$Waiting") (T := F_Wa) (N := 1) hx hb htg hin_Wa hown hK hP 0 rfl rfl 0 (by decide) (htg _ k_58) (fun _ h9 => h9) rfl d_Wa_clear_1 ?_
  refine lv_iconst (v := iZ 0) hx hb d_Wa_clear_4 rfl ?_
  refine z_v (wr := [(h0, .inr (5, [.ref h1]))]) (va_runS (As := [.ref h1, .int (iZ 0)]) (rest := []) ⟨hx, hb, hml, hown, htg⟩ (c_Ar_fillI l dC dI cB cI cJ cZ cQ h1 s.heap.size 6 g 0 (by omega)) (va_cwS 2 htg (gw_S k_211 k_212 k_14 k_213) rfl rfl rfl (by decide +kernel) ⟨Nat.le_of_ble_eq_true rfl, Nat.le_of_ble_eq_true rfl⟩) (zPreS hK hP hD hZ [1] rfl (by decide)) rfl rfl hl.1 rfl (lv_room (Nat.le_of_ble_eq_true rfl)) d_Wa_clear_5 ⟨by omega, by omega⟩) hP hD hS hA [1] [0] rfl rfl (by decide) (by decide) (fun H locs hP hD hS => ?_)
  have hP : va_P (dC, dI) vwCl [(h0, .inr (5, [.ref h1])), (h1, .inl (cI, 6, .inl (fun j => iZ ((fun j => if j < 6 then 0 else g j) j))))] H := hP
  have hD : va_D A [(h0, .inr (5, [.ref h1])), (h1, .inl (cI, 6, .inl (fun j => iZ ((fun j => if j < 6 then 0 else g j) j))))] := hD
  exact W.vret hx hb hr (fun t ht hW => ⟨⟨(), rfl, trivial, by rw [ht]; exact hP, va_K.moved hW.alike hK, hAe ▸ hD⟩, hAe ▸ hS.F ht⟩) (hAe ▸ hS.2.2) d_Wa_clear_8
set_option maxHeartbeats 4000000 in
set_option maxRecDepth 100000 in
/-- Pages.count -/
theorem c_Pa_count (l : Launch) (dC : Nat → ClassId) (dI : Nat → Nat → Nat) (cB : ClassId) (cI : ClassId) (cJ : ClassId) (cZ : ClassId) (cQ : ClassId) (h0 h1 : Nat) (sz : Nat) (f : Nat → Int64) (pn : Int) : Met l y_Pa_count ((Cond.code y_Pa_count prog_5_method_2_code 1 (some .int)) :: gw) ({ frames := 0, cells := 0, slots := 0, locals := 0 } : Room) (zPc (dC, dI) [(cB, .byte), (cI, .int), (cJ, .long), (cZ, .boolean), (cQ, .object "LogDesk$Block")] [.ref h0] [(h0, .inr (3, [.ref h1, .int (iZ pn)])), (h1, .inl (cJ, 32, .inr (.inl f)))] sz) (va_Qi (fun (r : Int32) (_ : Unit) => r = iZ pn) (zB (dC, dI) [(cB, .byte), (cI, .int), (cJ, .long), (cZ, .boolean), (cQ, .object "LogDesk$Block")] (va_A [(h0, .inr (3, [.ref h1, .int (iZ pn)])), (h1, .inl (cJ, 32, .inr (.inl f)))] sz) [(h0, .inr (3, [.ref h1, .int (iZ pn)])), (h1, .inl (cJ, 32, .inr (.inl f)))]) (va_A [(h0, .inr (3, [.ref h1, .int (iZ pn)])), (h1, .inl (cJ, 32, .inr (.inl f)))] sz)) 0 0 (va_A [(h0, .inr (3, [.ref h1, .int (iZ pn)])), (h1, .inl (cJ, 32, .inr (.inl f)))] sz) := by
  refine Met.ofW (cc := prog_5_method_2_code) (maxL := 1) (ret := (some .int)) (by decide) rfl ?_
  intro p e s m args below meth c s₁ B hml hv
  obtain ⟨rfl, hsz, hP, hK, hD0, hZ⟩ := hv
  have hx := B.exec
  have hb := B.bytes
  have hr := B.returns
  have hts := atoms_spec (ws := (Cond.code y_Pa_count prog_5_method_2_code 1 (some .int)) :: gw) B.pre
  have htg : ∀ w ∈ gw, w.before _ s = true := fun w h => hts w (List.mem_cons_of_mem _ h)
  have hown : s.vm.findClass "LogDesk$Pages" = some m.cls := findClass_of_methodNamed B.named
  have hlocks := B.notSynchronized
  subst hsz
  have hD := hD0.self (sz := s.heap.size)
  generalize hAe : va_A [(h0, .inr (3, [.ref h1, .int (iZ pn)])), (h1, .inl (cJ, 32, .inr (.inl f)))] s.heap.size = A at hD ⊢
  have hRc : (headSpec ((Cond.code y_Pa_count prog_5_method_2_code 1 (some .int)) :: gw) ({ frames := 0, cells := 0, slots := 0, locals := 0 } : Room)).room.cells = 0 := rfl
  have hRs : (headSpec ((Cond.code y_Pa_count prog_5_method_2_code 1 (some .int)) :: gw) ({ frames := 0, cells := 0, slots := 0, locals := 0 } : Room)).room.slots = 0 := rfl
  have hA : ∀ q : Nat, s.heap.size ≤ q → A q := fun q h => by rw [← hAe]; exact Or.inr h
  have hS : va_S A s.heap s.heap [] := va_S.rf
  have hP : va_P (dC, dI) vwCl [(h0, .inr (3, [.ref h1, .int (iZ pn)])), (h1, .inl (cJ, 32, .inr (.inl f)))] s.heap := hP
  have hl := lv_entry ([.ref h0]) (n := 1) (Nat.le_of_ble_eq_true rfl)
  rw [lg_entry_eq]
  generalize (lg_sl ([.ref h0]) ++ List.replicate (1 - (lg_sl ([.ref h0])).length) Slot.unset).toArray = ls at hl ⊢
  have hl : lv_has ls 1 [(0, .ref h0)] := hl
  refine lv_aload_n hx hb d_Pa_count_0 rfl (lv_at hl 0 rfl) ?_
  refine va_get (D := (dC, dI)) (ci := 3) (v := .int (iZ pn)) (C := "LogDesk$Pages") (T := F_Pa) (N := 2) hx hb htg hin_Pa hown hK hP 0 rfl rfl 1 (by decide) (htg _ k_70) (fun _ h9 => h9) rfl d_Pa_count_1 ?_
  exact W.iret (v := (iZ pn)) hx hb hr (fun t ht hW => ⟨⟨_, (), rfl, rfl, by rw [ht]; exact hP, va_K.moved hW.alike hK, hAe ▸ hD⟩, hAe ▸ hS.F ht⟩) (hAe ▸ hS.2.2) d_Pa_count_4
set_option maxHeartbeats 4000000 in
set_option maxRecDepth 100000 in
/-- Pages.clear -/
theorem c_Pa_clear (l : Launch) (dC : Nat → ClassId) (dI : Nat → Nat → Nat) (cB : ClassId) (cI : ClassId) (cJ : ClassId) (cZ : ClassId) (cQ : ClassId) (h0 h1 : Nat) (sz : Nat) (f : Nat → Int64) (pn : Int) : Met l y_Pa_clear ((Cond.code y_Pa_clear prog_5_method_4_code 1 none) :: gw) ({ frames := 1, cells := 0, slots := 0, locals := 24 } : Room) (zPc (dC, dI) [(cB, .byte), (cI, .int), (cJ, .long), (cZ, .boolean), (cQ, .object "LogDesk$Block")] [.ref h0] [(h0, .inr (3, [.ref h1, .int (iZ pn)])), (h1, .inl (cJ, 32, .inr (.inl f)))] sz) (va_Qv (fun (_ : Unit) => True) (zB (dC, dI) [(cB, .byte), (cI, .int), (cJ, .long), (cZ, .boolean), (cQ, .object "LogDesk$Block")] (va_A [(h0, .inr (3, [.ref h1, .int (iZ pn)])), (h1, .inl (cJ, 32, .inr (.inl f)))] sz) [(h0, .inr (3, [.ref h1, .int (iZ 0)])), (h1, .inl (cJ, 32, .inr (.inl (fun j => if j < 32 then 0 else f j))))]) (va_A [(h0, .inr (3, [.ref h1, .int (iZ pn)])), (h1, .inl (cJ, 32, .inr (.inl f)))] sz)) 0 0 (va_A [(h0, .inr (3, [.ref h1, .int (iZ pn)])), (h1, .inl (cJ, 32, .inr (.inl f)))] sz) := by
  refine Met.ofW (cc := prog_5_method_4_code) (maxL := 1) (ret := none) (by decide) rfl ?_
  intro p e s m args below meth c s₁ B hml hv
  obtain ⟨rfl, hsz, hP, hK, hD0, hZ⟩ := hv
  have hx := B.exec
  have hb := B.bytes
  have hr := B.returns
  have hts := atoms_spec (ws := (Cond.code y_Pa_clear prog_5_method_4_code 1 none) :: gw) B.pre
  have htg : ∀ w ∈ gw, w.before _ s = true := fun w h => hts w (List.mem_cons_of_mem _ h)
  have hown : s.vm.findClass "LogDesk$Pages" = some m.cls := findClass_of_methodNamed B.named
  have hlocks := B.notSynchronized
  subst hsz
  have hD := hD0.self (sz := s.heap.size)
  generalize hAe : va_A [(h0, .inr (3, [.ref h1, .int (iZ pn)])), (h1, .inl (cJ, 32, .inr (.inl f)))] s.heap.size = A at hD ⊢
  have hRc : (headSpec ((Cond.code y_Pa_clear prog_5_method_4_code 1 none) :: gw) ({ frames := 1, cells := 0, slots := 0, locals := 24 } : Room)).room.cells = 0 := rfl
  have hRs : (headSpec ((Cond.code y_Pa_clear prog_5_method_4_code 1 none) :: gw) ({ frames := 1, cells := 0, slots := 0, locals := 24 } : Room)).room.slots = 0 := rfl
  have hA : ∀ q : Nat, s.heap.size ≤ q → A q := fun q h => by rw [← hAe]; exact Or.inr h
  have hS : va_S A s.heap s.heap [] := va_S.rf
  have hP : va_P (dC, dI) vwCl [(h0, .inr (3, [.ref h1, .int (iZ pn)])), (h1, .inl (cJ, 32, .inr (.inl f)))] s.heap := hP
  have hl := lv_entry ([.ref h0]) (n := 1) (Nat.le_of_ble_eq_true rfl)
  rw [lg_entry_eq]
  generalize (lg_sl ([.ref h0]) ++ List.replicate (1 - (lg_sl ([.ref h0])).length) Slot.unset).toArray = ls at hl ⊢
  have hl : lv_has ls 1 [(0, .ref h0)] := hl
  refine lv_aload_n hx hb d_Pa_clear_0 rfl (lv_at hl 0 rfl) ?_
  refine va_get (D := (dC, dI)) (ci := 3) (v := .ref h1) (C := "LogDesk$Pages") (T := F_Pa) (N := 2) hx hb htg hin_Pa hown hK hP 0 rfl rfl 0 (by decide) (htg _ k_69) (fun _ h9 => h9) rfl d_Pa_clear_1 ?_
  refine lv_lconst (v := 0) hx hb d_Pa_clear_4 (by decide) ?_
  refine z_v (wr := [(h0, .inr (3, [.ref h1, .int (iZ pn)]))]) (va_runS (As := [.ref h1, .long 0]) (rest := []) ⟨hx, hb, hml, hown, htg⟩ (c_Ar_fillJ l dC dI cB cI cJ cZ cQ h1 s.heap.size 32 f 0 (by omega)) (va_cwS 2 htg (gw_S k_177 k_178 k_14 k_179) rfl rfl rfl (by decide +kernel) ⟨Nat.le_of_ble_eq_true rfl, Nat.le_of_ble_eq_true rfl⟩) (zPreS hK hP hD hZ [1] rfl (by decide)) rfl rfl hl.1 rfl (lv_room (Nat.le_of_ble_eq_true rfl)) d_Pa_clear_5 ⟨by omega, by omega⟩) hP hD hS hA [1] [0] rfl rfl (by decide) (by decide) (fun H locs hP hD hS => ?_)
  have hP : va_P (dC, dI) vwCl [(h0, .inr (3, [.ref h1, .int (iZ pn)])), (h1, .inl (cJ, 32, .inr (.inl (fun j => if j < 32 then 0 else f j))))] H := hP
  have hD : va_D A [(h0, .inr (3, [.ref h1, .int (iZ pn)])), (h1, .inl (cJ, 32, .inr (.inl (fun j => if j < 32 then 0 else f j))))] := hD
  refine lv_aload_n hx hb d_Pa_clear_8 rfl (lv_at hl 0 rfl) ?_
  refine lv_iconst (v := iZ 0) hx hb d_Pa_clear_9 rfl ?_
  refine va_put (D := (dC, dI)) (ci := 3) (v := .int (iZ 0)) (ty := t_Pa 1) (C := "LogDesk$Pages") (T := F_Pa) (N := 2) hx hb htg hin_Pa t_Pa t_Pa_ok n_Pa hown hK hP hD hS 0 rfl rfl 1 (by decide) (htg _ k_70) (fun _ h9 => h9) rfl (by decide +kernel) rfl rfl (Nat.le_of_ble_eq_true rfl) d_Pa_clear_10 (fun H locs hP hD hS => ?_)
  have hP : va_P (dC, dI) vwCl [(h0, .inr (3, [.ref h1, .int (iZ 0)])), (h1, .inl (cJ, 32, .inr (.inl (fun j => if j < 32 then 0 else f j))))] H := hP
  have hD : va_D A [(h0, .inr (3, [.ref h1, .int (iZ 0)])), (h1, .inl (cJ, 32, .inr (.inl (fun j => if j < 32 then 0 else f j))))] := hD
  exact W.vret hx hb hr (fun t ht hW => ⟨⟨(), rfl, trivial, by rw [ht]; exact hP, va_K.moved hW.alike hK, hAe ▸ hD⟩, hAe ▸ hS.F ht⟩) (hAe ▸ hS.2.2) d_Pa_clear_13
set_option maxHeartbeats 4000000 in
set_option maxRecDepth 100000 in
/-- Pages.add -/
theorem c_Pa_add (l : Launch) (dC : Nat → ClassId) (dI : Nat → Nat → Nat) (cB : ClassId) (cI : ClassId) (cJ : ClassId) (cZ : ClassId) (cQ : ClassId) (h0 h1 : Nat) (sz : Nat) (f : Nat → Int64) (pn : Int) (x : Int) (hx0 : iB x) (hb0 : 0 ≤ pn ∧ pn < 1000000000) : Met l y_Pa_add ((Cond.code y_Pa_add prog_5_method_3_code 5 (some .boolean)) :: gw) ({ frames := 0, cells := 0, slots := 0, locals := 0 } : Room) (zPc (dC, dI) [(cB, .byte), (cI, .int), (cJ, .long), (cZ, .boolean), (cQ, .object "LogDesk$Block")] [.ref h0, .int (iZ x)] [(h0, .inr (3, [.ref h1, .int (iZ pn)])), (h1, .inl (cJ, 32, .inr (.inl f)))] sz) (va_Qi (fun (r : Int32) (_ : Unit) => r = iZ (if (0 ≤ x ∧ x < 2048) ∧ (f (x / 64).toNat &&& (1 <<< ((iZ (x % 64)).toInt64 &&& 63))) = 0 then 1 else 0)) (zB (dC, dI) [(cB, .byte), (cI, .int), (cJ, .long), (cZ, .boolean), (cQ, .object "LogDesk$Block")] (va_A [(h0, .inr (3, [.ref h1, .int (iZ pn)])), (h1, .inl (cJ, 32, .inr (.inl f)))] sz) [(h0, .inr (3, [.ref h1, .int (iZ (if (0 ≤ x ∧ x < 2048) ∧ (f (x / 64).toNat &&& (1 <<< ((iZ (x % 64)).toInt64 &&& 63))) = 0 then pn + 1 else pn))])), (h1, .inl (cJ, 32, .inr (.inl (if (0 ≤ x ∧ x < 2048) ∧ (f (x / 64).toNat &&& (1 <<< ((iZ (x % 64)).toInt64 &&& 63))) = 0 then va_up f (x / 64).toNat (f (x / 64).toNat ||| (1 <<< ((iZ (x % 64)).toInt64 &&& 63))) else f))))]) (va_A [(h0, .inr (3, [.ref h1, .int (iZ pn)])), (h1, .inl (cJ, 32, .inr (.inl f)))] sz)) 0 0 (va_A [(h0, .inr (3, [.ref h1, .int (iZ pn)])), (h1, .inl (cJ, 32, .inr (.inl f)))] sz) := by
  refine Met.ofW (cc := prog_5_method_3_code) (maxL := 5) (ret := (some .boolean)) (by decide) rfl ?_
  intro p e s m args below meth c s₁ B hml hv
  obtain ⟨rfl, hsz, hP, hK, hD0, hZ⟩ := hv
  have hx := B.exec
  have hb := B.bytes
  have hr := B.returns
  have hts := atoms_spec (ws := (Cond.code y_Pa_add prog_5_method_3_code 5 (some .boolean)) :: gw) B.pre
  have htg : ∀ w ∈ gw, w.before _ s = true := fun w h => hts w (List.mem_cons_of_mem _ h)
  have hown : s.vm.findClass "LogDesk$Pages" = some m.cls := findClass_of_methodNamed B.named
  have hlocks := B.notSynchronized
  subst hsz
  have hD := hD0.self (sz := s.heap.size)
  generalize hAe : va_A [(h0, .inr (3, [.ref h1, .int (iZ pn)])), (h1, .inl (cJ, 32, .inr (.inl f)))] s.heap.size = A at hD ⊢
  have hRc : (headSpec ((Cond.code y_Pa_add prog_5_method_3_code 5 (some .boolean)) :: gw) ({ frames := 0, cells := 0, slots := 0, locals := 0 } : Room)).room.cells = 0 := rfl
  have hRs : (headSpec ((Cond.code y_Pa_add prog_5_method_3_code 5 (some .boolean)) :: gw) ({ frames := 0, cells := 0, slots := 0, locals := 0 } : Room)).room.slots = 0 := rfl
  have hA : ∀ q : Nat, s.heap.size ≤ q → A q := fun q h => by rw [← hAe]; exact Or.inr h
  have hS : va_S A s.heap s.heap [] := va_S.rf
  have hP : va_P (dC, dI) vwCl [(h0, .inr (3, [.ref h1, .int (iZ pn)])), (h1, .inl (cJ, 32, .inr (.inl f)))] s.heap := hP
  have hl := lv_entry ([.ref h0, .int (iZ x)]) (n := 5) (Nat.le_of_ble_eq_true rfl)
  rw [lg_entry_eq]
  generalize (lg_sl ([.ref h0, .int (iZ x)]) ++ List.replicate (5 - (lg_sl ([.ref h0, .int (iZ x)])).length) Slot.unset).toArray = ls at hl ⊢
  have hl : lv_has ls 5 [(0, .ref h0), (1, .int (iZ x))] := hl
  obtain ⟨hx1, hx2⟩ := hx0
  refine lv_iload_n hx hb d_Pa_add_0 rfl (lv_at hl 1 rfl) ?_
  refine zz_if_lt (tgt := 11) hx hb d_Pa_add_1 (by decide) ⟨by omega, by omega⟩ (fun c_1 => ?_) (fun c_1 => ?_)
  · refine lv_iconst (v := iZ 0) hx hb d_Pa_add_11 rfl ?_
    have eW : ∀ (x0 y0 : Int) (x1 y1 : Nat → Int64), x0 = y0 → x1 = y1 → ([(h0, .inr (3, [.ref h1, .int (iZ x0)])), (h1, .inl (cJ, 32, .inr (.inl x1)))] : va_W) = [(h0, .inr (3, [.ref h1, .int (iZ y0)])), (h1, .inl (cJ, 32, .inr (.inl y1)))] := by intros; subst_vars; rfl
    have eW := eW pn (if (0 ≤ x ∧ x < 2048) ∧ (f (x / 64).toNat &&& (1 <<< ((iZ (x % 64)).toInt64 &&& 63))) = 0 then pn + 1 else pn) f (if (0 ≤ x ∧ x < 2048) ∧ (f (x / 64).toNat &&& (1 <<< ((iZ (x % 64)).toInt64 &&& 63))) = 0 then va_up f (x / 64).toNat (f (x / 64).toNat ||| (1 <<< ((iZ (x % 64)).toInt64 &&& 63))) else f) ((if_neg (fun h => absurd h.1 (by omega))).symm) ((if_neg (fun h => absurd h.1 (by omega))).symm)
    have hP : va_P (dC, dI) vwCl [(h0, .inr (3, [.ref h1, .int (iZ (if (0 ≤ x ∧ x < 2048) ∧ (f (x / 64).toNat &&& (1 <<< ((iZ (x % 64)).toInt64 &&& 63))) = 0 then pn + 1 else pn))])), (h1, .inl (cJ, 32, .inr (.inl (if (0 ≤ x ∧ x < 2048) ∧ (f (x / 64).toNat &&& (1 <<< ((iZ (x % 64)).toInt64 &&& 63))) = 0 then va_up f (x / 64).toNat (f (x / 64).toNat ||| (1 <<< ((iZ (x % 64)).toInt64 &&& 63))) else f))))] s.heap := eW ▸ hP
    have hD : va_D A [(h0, .inr (3, [.ref h1, .int (iZ (if (0 ≤ x ∧ x < 2048) ∧ (f (x / 64).toNat &&& (1 <<< ((iZ (x % 64)).toInt64 &&& 63))) = 0 then pn + 1 else pn))])), (h1, .inl (cJ, 32, .inr (.inl (if (0 ≤ x ∧ x < 2048) ∧ (f (x / 64).toNat &&& (1 <<< ((iZ (x % 64)).toInt64 &&& 63))) = 0 then va_up f (x / 64).toNat (f (x / 64).toNat ||| (1 <<< ((iZ (x % 64)).toInt64 &&& 63))) else f))))] := eW ▸ hD
    exact W.zret (v := (iZ 0)) hx hb hr rfl (fun t ht hW => ⟨⟨_, (), rfl, (congrArg iZ (if_neg (fun h => absurd h.1 (by omega))).symm), by rw [ht]; exact hP, va_K.moved hW.alike hK, hAe ▸ hD⟩, hAe ▸ hS.F ht⟩) (hAe ▸ hS.2.2) d_Pa_add_12
  · refine lv_iload_n hx hb d_Pa_add_4 rfl (lv_at hl 1 rfl) ?_
    refine lv_sipush (v := iZ 2048) hx hb d_Pa_add_5 (by decide) ?_
    refine zz_icmp_lt (tgt := 13) hx hb d_Pa_add_8 (by decide) ⟨by omega, by omega⟩ ⟨by omega, by omega⟩ (fun c_2 => ?_) (fun c_2 => ?_)
    · refine lv_iload_n hx hb d_Pa_add_13 rfl (lv_at hl 1 rfl) ?_
      refine lv_bipush (v := iZ 64) hx hb d_Pa_add_14 (by decide) ?_
      refine zz_idiv hx hb (by omega) (by omega) (by omega) (by omega) d_Pa_add_16 ?_
      refine lv_istore_n (lv' := [(2, .int (iZ (x / 64))), (0, .ref h0), (1, .int (iZ x))]) hx hb d_Pa_add_17 rfl hl (by decide) rfl (fun ls hl => ?_)
      refine lv_lconst (v := 1) hx hb d_Pa_add_18 (by decide) ?_
      refine lv_iload_n hx hb d_Pa_add_19 rfl (lv_at hl 2 rfl) ?_
      refine lv_bipush (v := iZ 64) hx hb d_Pa_add_20 (by decide) ?_
      refine zz_irem hx hb (by omega) (by omega) (by omega) (by omega) d_Pa_add_22 ?_
      refine lv_lshl hx hb d_Pa_add_23 rfl ?_
      refine lv_lstore_n (lv' := [(3, .long (1 <<< (((iZ (x % 64))).toInt64 &&& 63))), (2, .int (iZ (x / 64))), (0, .ref h0), (1, .int (iZ x))]) hx hb d_Pa_add_24 rfl hl (by decide) rfl (fun ls hl => ?_)
      refine lv_aload_n hx hb d_Pa_add_25 rfl (lv_at hl 2 rfl) ?_
      refine va_get (D := (dC, dI)) (ci := 3) (v := .ref h1) (C := "LogDesk$Pages") (T := F_Pa) (N := 2) hx hb htg hin_Pa hown hK hP 0 rfl rfl 0 (by decide) (htg _ k_69) (fun _ h9 => h9) rfl d_Pa_add_26 ?_
      refine lv_iload_n hx hb d_Pa_add_29 rfl (lv_at hl 1 rfl) ?_
      refine zz_lald hx hb hK hP 1 2 rfl rfl (by omega) (by omega) (by omega) d_Pa_add_30 ?_
      refine lv_lload_n hx hb d_Pa_add_31 rfl (lv_at hl 0 rfl) ?_
      refine lv_land hx hb d_Pa_add_32 ?_
      refine lv_lconst (v := 0) hx hb d_Pa_add_33 (by decide) ?_
      refine W.lcmp hx hb d_Pa_add_34 ?_
      refine zc_if_eq (tgt := 40) hx hb d_Pa_add_35 (by decide) (fun c_3 => ?_) (fun c_3 => ?_)
      · have hq := c_3
        refine lv_aload_n hx hb d_Pa_add_40 rfl (lv_at hl 2 rfl) ?_
        refine va_get (D := (dC, dI)) (ci := 3) (v := .ref h1) (C := "LogDesk$Pages") (T := F_Pa) (N := 2) hx hb htg hin_Pa hown hK hP 0 rfl rfl 0 (by decide) (htg _ k_69) (fun _ h9 => h9) rfl d_Pa_add_41 ?_
        refine lv_iload_n hx hb d_Pa_add_44 rfl (lv_at hl 1 rfl) ?_
        refine lv_dup2_11 hx hb d_Pa_add_45 rfl rfl ?_
        refine zz_lald hx hb hK hP 1 2 rfl rfl (by omega) (by omega) (by omega) d_Pa_add_46 ?_
        refine lv_lload_n hx hb d_Pa_add_47 rfl (lv_at hl 0 rfl) ?_
        refine lv_lor hx hb d_Pa_add_48 ?_
        refine zz_last hx hb hK hP hD hS 1 2 rfl rfl (by omega) (by omega) (by omega) d_Pa_add_49 (fun H locs hP hD hS => ?_)
        have hP : va_P (dC, dI) vwCl [(h0, .inr (3, [.ref h1, .int (iZ pn)])), (h1, .inl (cJ, 32, .inr (.inl (va_up f ((x / 64)).toNat (f ((x / 64)).toNat ||| (1 <<< (((iZ (x % 64))).toInt64 &&& 63)))))))] H := hP
        have hD : va_D A [(h0, .inr (3, [.ref h1, .int (iZ pn)])), (h1, .inl (cJ, 32, .inr (.inl (va_up f ((x / 64)).toNat (f ((x / 64)).toNat ||| (1 <<< (((iZ (x % 64))).toInt64 &&& 63)))))))] := hD
        refine lv_aload_n hx hb d_Pa_add_50 rfl (lv_at hl 2 rfl) ?_
        refine lv_dup hx hb d_Pa_add_51 rfl ?_
        refine va_get (D := (dC, dI)) (ci := 3) (v := .int (iZ pn)) (C := "LogDesk$Pages") (T := F_Pa) (N := 2) hx hb htg hin_Pa hown hK hP 0 rfl rfl 1 (by decide) (htg _ k_70) (fun _ h9 => h9) rfl d_Pa_add_52 ?_
        refine lv_iconst (v := iZ 1) hx hb d_Pa_add_55 rfl ?_
        refine zz_iadd hx hb d_Pa_add_56 ?_
        refine va_put (D := (dC, dI)) (ci := 3) (v := .int (iZ (pn + 1))) (ty := t_Pa 1) (C := "LogDesk$Pages") (T := F_Pa) (N := 2) hx hb htg hin_Pa t_Pa t_Pa_ok n_Pa hown hK hP hD hS 0 rfl rfl 1 (by decide) (htg _ k_70) (fun _ h9 => h9) rfl (by decide +kernel) rfl rfl (Nat.le_of_ble_eq_true rfl) d_Pa_add_57 (fun H locs hP hD hS => ?_)
        have hP : va_P (dC, dI) vwCl [(h0, .inr (3, [.ref h1, .int (iZ (pn + 1))])), (h1, .inl (cJ, 32, .inr (.inl (va_up f ((x / 64)).toNat (f ((x / 64)).toNat ||| (1 <<< (((iZ (x % 64))).toInt64 &&& 63)))))))] H := hP
        have hD : va_D A [(h0, .inr (3, [.ref h1, .int (iZ (pn + 1))])), (h1, .inl (cJ, 32, .inr (.inl (va_up f ((x / 64)).toNat (f ((x / 64)).toNat ||| (1 <<< (((iZ (x % 64))).toInt64 &&& 63)))))))] := hD
        refine lv_iconst (v := iZ 1) hx hb d_Pa_add_60 rfl ?_
        have eW : ∀ (x0 y0 : Int) (x1 y1 : Nat → Int64), x0 = y0 → x1 = y1 → ([(h0, .inr (3, [.ref h1, .int (iZ x0)])), (h1, .inl (cJ, 32, .inr (.inl x1)))] : va_W) = [(h0, .inr (3, [.ref h1, .int (iZ y0)])), (h1, .inl (cJ, 32, .inr (.inl y1)))] := by intros; subst_vars; rfl
        have eW := eW (pn + 1) (if (0 ≤ x ∧ x < 2048) ∧ (f (x / 64).toNat &&& (1 <<< ((iZ (x % 64)).toInt64 &&& 63))) = 0 then pn + 1 else pn) (va_up f ((x / 64)).toNat (f ((x / 64)).toNat ||| (1 <<< (((iZ (x % 64))).toInt64 &&& 63)))) (if (0 ≤ x ∧ x < 2048) ∧ (f (x / 64).toNat &&& (1 <<< ((iZ (x % 64)).toInt64 &&& 63))) = 0 then va_up f (x / 64).toNat (f (x / 64).toNat ||| (1 <<< ((iZ (x % 64)).toInt64 &&& 63))) else f) ((if_pos ⟨⟨by omega, by omega⟩, hq⟩).symm) ((if_pos ⟨⟨by omega, by omega⟩, hq⟩).symm)
        have hP : va_P (dC, dI) vwCl [(h0, .inr (3, [.ref h1, .int (iZ (if (0 ≤ x ∧ x < 2048) ∧ (f (x / 64).toNat &&& (1 <<< ((iZ (x % 64)).toInt64 &&& 63))) = 0 then pn + 1 else pn))])), (h1, .inl (cJ, 32, .inr (.inl (if (0 ≤ x ∧ x < 2048) ∧ (f (x / 64).toNat &&& (1 <<< ((iZ (x % 64)).toInt64 &&& 63))) = 0 then va_up f (x / 64).toNat (f (x / 64).toNat ||| (1 <<< ((iZ (x % 64)).toInt64 &&& 63))) else f))))] H := eW ▸ hP
        have hD : va_D A [(h0, .inr (3, [.ref h1, .int (iZ (if (0 ≤ x ∧ x < 2048) ∧ (f (x / 64).toNat &&& (1 <<< ((iZ (x % 64)).toInt64 &&& 63))) = 0 then pn + 1 else pn))])), (h1, .inl (cJ, 32, .inr (.inl (if (0 ≤ x ∧ x < 2048) ∧ (f (x / 64).toNat &&& (1 <<< ((iZ (x % 64)).toInt64 &&& 63))) = 0 then va_up f (x / 64).toNat (f (x / 64).toNat ||| (1 <<< ((iZ (x % 64)).toInt64 &&& 63))) else f))))] := eW ▸ hD
        exact W.zret (v := (iZ 1)) hx hb hr rfl (fun t ht hW => ⟨⟨_, (), rfl, (congrArg iZ (if_pos ⟨⟨by omega, by omega⟩, hq⟩).symm), by rw [ht]; exact hP, va_K.moved hW.alike hK, hAe ▸ hD⟩, hAe ▸ hS.F ht⟩) (hAe ▸ hS.2.2) d_Pa_add_61
      · have hq := c_3
        refine lv_iconst (v := iZ 0) hx hb d_Pa_add_38 rfl ?_
        have eW : ∀ (x0 y0 : Int) (x1 y1 : Nat → Int64), x0 = y0 → x1 = y1 → ([(h0, .inr (3, [.ref h1, .int (iZ x0)])), (h1, .inl (cJ, 32, .inr (.inl x1)))] : va_W) = [(h0, .inr (3, [.ref h1, .int (iZ y0)])), (h1, .inl (cJ, 32, .inr (.inl y1)))] := by intros; subst_vars; rfl
        have eW := eW pn (if (0 ≤ x ∧ x < 2048) ∧ (f (x / 64).toNat &&& (1 <<< ((iZ (x % 64)).toInt64 &&& 63))) = 0 then pn + 1 else pn) f (if (0 ≤ x ∧ x < 2048) ∧ (f (x / 64).toNat &&& (1 <<< ((iZ (x % 64)).toInt64 &&& 63))) = 0 then va_up f (x / 64).toNat (f (x / 64).toNat ||| (1 <<< ((iZ (x % 64)).toInt64 &&& 63))) else f) ((if_neg (fun h => hq h.2)).symm) ((if_neg (fun h => hq h.2)).symm)
        have hP : va_P (dC, dI) vwCl [(h0, .inr (3, [.ref h1, .int (iZ (if (0 ≤ x ∧ x < 2048) ∧ (f (x / 64).toNat &&& (1 <<< ((iZ (x % 64)).toInt64 &&& 63))) = 0 then pn + 1 else pn))])), (h1, .inl (cJ, 32, .inr (.inl (if (0 ≤ x ∧ x < 2048) ∧ (f (x / 64).toNat &&& (1 <<< ((iZ (x % 64)).toInt64 &&& 63))) = 0 then va_up f (x / 64).toNat (f (x / 64).toNat ||| (1 <<< ((iZ (x % 64)).toInt64 &&& 63))) else f))))] s.heap := eW ▸ hP
        have hD : va_D A [(h0, .inr (3, [.ref h1, .int (iZ (if (0 ≤ x ∧ x < 2048) ∧ (f (x / 64).toNat &&& (1 <<< ((iZ (x % 64)).toInt64 &&& 63))) = 0 then pn + 1 else pn))])), (h1, .inl (cJ, 32, .inr (.inl (if (0 ≤ x ∧ x < 2048) ∧ (f (x / 64).toNat &&& (1 <<< ((iZ (x % 64)).toInt64 &&& 63))) = 0 then va_up f (x / 64).toNat (f (x / 64).toNat ||| (1 <<< ((iZ (x % 64)).toInt64 &&& 63))) else f))))] := eW ▸ hD
        exact W.zret (v := (iZ 0)) hx hb hr rfl (fun t ht hW => ⟨⟨_, (), rfl, (congrArg iZ (if_neg (fun h => hq h.2)).symm), by rw [ht]; exact hP, va_K.moved hW.alike hK, hAe ▸ hD⟩, hAe ▸ hS.F ht⟩) (hAe ▸ hS.2.2) d_Pa_add_39
    · refine lv_iconst (v := iZ 0) hx hb d_Pa_add_11 rfl ?_
      have eW : ∀ (x0 y0 : Int) (x1 y1 : Nat → Int64), x0 = y0 → x1 = y1 → ([(h0, .inr (3, [.ref h1, .int (iZ x0)])), (h1, .inl (cJ, 32, .inr (.inl x1)))] : va_W) = [(h0, .inr (3, [.ref h1, .int (iZ y0)])), (h1, .inl (cJ, 32, .inr (.inl y1)))] := by intros; subst_vars; rfl
      have eW := eW pn (if (0 ≤ x ∧ x < 2048) ∧ (f (x / 64).toNat &&& (1 <<< ((iZ (x % 64)).toInt64 &&& 63))) = 0 then pn + 1 else pn) f (if (0 ≤ x ∧ x < 2048) ∧ (f (x / 64).toNat &&& (1 <<< ((iZ (x % 64)).toInt64 &&& 63))) = 0 then va_up f (x / 64).toNat (f (x / 64).toNat ||| (1 <<< ((iZ (x % 64)).toInt64 &&& 63))) else f) ((if_neg (fun h => absurd h.1 (by omega))).symm) ((if_neg (fun h => absurd h.1 (by omega))).symm)
      have hP : va_P (dC, dI) vwCl [(h0, .inr (3, [.ref h1, .int (iZ (if (0 ≤ x ∧ x < 2048) ∧ (f (x / 64).toNat &&& (1 <<< ((iZ (x % 64)).toInt64 &&& 63))) = 0 then pn + 1 else pn))])), (h1, .inl (cJ, 32, .inr (.inl (if (0 ≤ x ∧ x < 2048) ∧ (f (x / 64).toNat &&& (1 <<< ((iZ (x % 64)).toInt64 &&& 63))) = 0 then va_up f (x / 64).toNat (f (x / 64).toNat ||| (1 <<< ((iZ (x % 64)).toInt64 &&& 63))) else f))))] s.heap := eW ▸ hP
      have hD : va_D A [(h0, .inr (3, [.ref h1, .int (iZ (if (0 ≤ x ∧ x < 2048) ∧ (f (x / 64).toNat &&& (1 <<< ((iZ (x % 64)).toInt64 &&& 63))) = 0 then pn + 1 else pn))])), (h1, .inl (cJ, 32, .inr (.inl (if (0 ≤ x ∧ x < 2048) ∧ (f (x / 64).toNat &&& (1 <<< ((iZ (x % 64)).toInt64 &&& 63))) = 0 then va_up f (x / 64).toNat (f (x / 64).toNat ||| (1 <<< ((iZ (x % 64)).toInt64 &&& 63))) else f))))] := eW ▸ hD
      exact W.zret (v := (iZ 0)) hx hb hr rfl (fun t ht hW => ⟨⟨_, (), rfl, (congrArg iZ (if_neg (fun h => absurd h.1 (by omega))).symm), by rw [ht]; exact hP, va_K.moved hW.alike hK, hAe ▸ hD⟩, hAe ▸ hS.F ht⟩) (hAe ▸ hS.2.2) d_Pa_add_12
end
section
/-! the ring's blocks: a pool of cells, and what its bytes are -/
def rpool (cB : ClassId) (L : List Nat) (B C : Nat → Nat) (f : Nat → Nat → Int) : va_W := L.flatMap (fun k => [(B k, .inr (0, [.ref (C k)])), (C k, .inl (cB, 500, .inl (fun j => iZ (Int.bmod (f k j) 256))))])
def RK (cB : ClassId) (pl : va_W) (g : Nat → Option Nat) (al : Nat → Bool) (u : Nat → Int) : Prop :=
  ∃ (L : List Nat) (B C : Nat → Nat) (f : Nat → Nat → Int), pl = rpool cB L B C f ∧ (∀ k, al k = true ↔ k ∈ L) ∧ (∀ k, g k = if k ∈ L then some (B k) else none) ∧ L.Nodup ∧ ∀ k j : Nat, k < 32 → j < 500 → u (k * 500 + j) = if k ∈ L then f k j else 0
theorem vaP_mem {D : va_G} {cl : List vw_C} {ws : va_W} {H : Heap} : va_P D cl ws H ↔ ∀ q ∈ ws, va_at D cl q H := by
  constructor
  · intro h q hq
    obtain ⟨k, hk⟩ := List.getElem?_of_mem hq
    exact h k q hk
  · intro h k q hk
    exact h q (List.mem_of_getElem? hk)
theorem vaD_iff {A : Nat → Prop} {ws : va_W} : va_D A ws ↔ (ws.map (·.1)).Nodup ∧ ∀ q ∈ ws, A q.1 := by
  constructor
  · intro h
    refine ⟨?_, fun q hq => ?_⟩
    · rw [List.nodup_iff_pairwise_ne] at *
      rw [List.pairwise_iff_getElem]
      intro i j hi hj hij e
      simp only [List.length_map] at hi hj
      have := h.1 i j ws[i] ws[j] (List.getElem?_eq_getElem hi) (List.getElem?_eq_getElem hj) (by simpa using e)
      omega
    · obtain ⟨k, hk⟩ := List.getElem?_of_mem hq
      exact h.2 k q hk
  · intro h
    refine ⟨fun i j p q hi hj e => ?_, fun k q hk => h.2 q (List.mem_of_getElem? hk)⟩
    have h1 : (ws.map (·.1))[i]? = some p.1 := by rw [List.getElem?_map, hi]; rfl
    have h2 : (ws.map (·.1))[j]? = some p.1 := by rw [List.getElem?_map, hj, e]; rfl
    obtain ⟨hi', e1⟩ := List.getElem?_eq_some_iff.mp h1
    obtain ⟨hj', e2⟩ := List.getElem?_eq_some_iff.mp h2
    have h3 := h.1
    rw [List.nodup_iff_pairwise_ne, List.pairwise_iff_getElem] at h3
    rcases Nat.lt_trichotomy i j with h4 | h4 | h4
    · exact absurd (e1.trans e2.symm) (h3 i j hi' hj' h4)
    · exact h4
    · exact absurd (e2.trans e1.symm) (h3 j i hj' hi' h4)
theorem vaP_set {D : va_G} {cl : List vw_C} {ws ws' : va_W} {H : Heap} {q0 a : Nat} {e e0 : va_E} (h : va_P D cl (ws.set q0 (a, e)) H) (h0 : ws[q0]? = some (a, e0)) (hw : ∀ q ∈ ws', q = (a, e) ∨ (q ∈ ws ∧ q.1 ≠ a)) : va_P D cl ws' H := by
  rw [vaP_mem] at h ⊢
  intro q hq
  have hlt : q0 < ws.length := (List.getElem?_eq_some_iff.mp h0).1
  rcases hw q hq with rfl | ⟨h1, h2⟩
  · exact h _ (List.mem_set hlt _)
  · obtain ⟨k, hk⟩ := List.getElem?_of_mem h1
    refine h q (List.mem_of_getElem? (i := k) ?_)
    have hne : q0 ≠ k := fun e => by
      subst e
      rw [h0] at hk
      exact h2 (Option.some.inj hk ▸ rfl)
    rw [List.getElem?_set_ne hne]
    exact hk
theorem rp_mem {cB : ClassId} {L : List Nat} {B C : Nat → Nat} {f : Nat → Nat → Int} {q : Nat × va_E} : q ∈ rpool cB L B C f ↔ ∃ k ∈ L, q = (B k, .inr (0, [.ref (C k)])) ∨ q = (C k, .inl (cB, 500, .inl (fun j => iZ (Int.bmod (f k j) 256)))) := by
  simp [rpool]
theorem rp_fst {cB : ClassId} {L : List Nat} {B C : Nat → Nat} {f f' : Nat → Nat → Int} : (rpool cB L B C f).map (·.1) = (rpool cB L B C f').map (·.1) := by
  simp [rpool, List.map_flatMap]
theorem rk_get {cB : ClassId} {pl : va_W} {g : Nat → Option Nat} {al : Nat → Bool} {u : Nat → Int} (h : RK cB pl g al u) (X : va_W) {k : Nat} (hk : al k = true) (hk2 : k < 32) :
    ∃ (bk ck : Nat) (fk : Nat → Int) (i1 i2 : Nat), g k = some bk ∧ (X ++ pl)[i1]? = some (bk, .inr (0, [.ref ck])) ∧ (X ++ pl)[i2]? = some (ck, .inl (cB, 500, .inl (fun j => iZ (Int.bmod (fk j) 256)))) ∧ ∀ j, j < 500 → u (k * 500 + j) = fk j := by
  obtain ⟨L, B, C, f, rfl, h1, h2, h3, h4⟩ := h
  have hL := (h1 k).mp hk
  obtain ⟨i1, e1⟩ := List.getElem?_of_mem (List.mem_append_right X (rp_mem (cB := cB) (L := L) (B := B) (C := C) (f := f).mpr ⟨k, hL, Or.inl rfl⟩))
  obtain ⟨i2, e2⟩ := List.getElem?_of_mem (List.mem_append_right X (rp_mem (cB := cB) (L := L) (B := B) (C := C) (f := f).mpr ⟨k, hL, Or.inr rfl⟩))
  exact ⟨B k, C k, f k, i1, i2, by rw [h2, if_pos hL], e1, e2, fun j hj => by rw [h4 k j hk2 hj, if_pos hL]⟩
theorem rk_no {cB : ClassId} {pl : va_W} {g : Nat → Option Nat} {al : Nat → Bool} {u : Nat → Int} (h : RK cB pl g al u) {k : Nat} (hk : al k = false) (hk2 : k < 32) : g k = none ∧ ∀ j, j < 500 → u (k * 500 + j) = 0 := by
  obtain ⟨L, B, C, f, rfl, h1, h2, h3, h4⟩ := h
  have hL : k ∉ L := fun q => by rw [(h1 k).mpr q] at hk; cases hk
  exact ⟨by rw [h2, if_neg hL], fun j hj => by rw [h4 k j hk2 hj, if_neg hL]⟩
/-- a byte is stored in a block that is there -/
theorem rk_put {D : va_G} {cl : List vw_C} {A : Nat → Prop} {cB : ClassId} {pl X : va_W} {g : Nat → Option Nat} {al : Nat → Bool} {u : Nat → Int} (h : RK cB pl g al u) {k j bk ck i1 i2 : Nat} {fk : Nat → Int} {v : Int} {H : Heap} (hk : al k = true) (hk2 : k < 32) (hj : j < 500) (hg : g k = some bk) (e1 : (X ++ pl)[i1]? = some (bk, .inr (0, [.ref ck]))) (e2 : (X ++ pl)[i2]? = some (ck, .inl (cB, 500, .inl (fun j => iZ (Int.bmod (fk j) 256)))))
    (hD : va_D A (X ++ pl)) (hP : va_P D cl ((X ++ pl).set i2 (ck, .inl (cB, 500, .inl (fun i => iZ (Int.bmod (va_up fk j v i) 256))))) H) :
    ∃ pl2, RK cB pl2 g al (va_up u (k * 500 + j) v) ∧ va_P D cl (X ++ pl2) H ∧ va_D A (X ++ pl2) := by
  obtain ⟨L, B, C, f, rfl, h1, h2, h3, h4⟩ := h
  have hL := (h1 k).mp hk
  have hbk : bk = B k := by rw [h2, if_pos hL] at hg; exact (Option.some.inj hg).symm
  subst hbk
  have hDn := (vaD_iff.mp hD).1
  -- the cell of block k
  have m1 := List.mem_of_getElem? e1
  have m2 := List.mem_of_getElem? e2
  have huniq : ∀ p q : Nat × va_E, p ∈ X ++ rpool cB L B C f → q ∈ X ++ rpool cB L B C f → p.1 = q.1 → p = q := by
    intro p q hp hq e
    obtain ⟨a, ha⟩ := List.getElem?_of_mem hp
    obtain ⟨b, hb⟩ := List.getElem?_of_mem hq
    have := hD.1 a b p q ha hb e
    subst this
    exact Option.some.inj (ha.symm.trans hb)
  have mB : ((B k, .inr (0, [.ref (C k)])) : Nat × va_E) ∈ X ++ rpool cB L B C f := List.mem_append_right _ (rp_mem.mpr ⟨k, hL, Or.inl rfl⟩)
  have mC : ∀ k' ∈ L, ((C k', .inl (cB, 500, .inl (fun j => iZ (Int.bmod (f k' j) 256)))) : Nat × va_E) ∈ X ++ rpool cB L B C f := fun k' h => List.mem_append_right _ (rp_mem.mpr ⟨k', h, Or.inr rfl⟩)
  have mBx : ∀ k' ∈ L, ((B k', .inr (0, [.ref (C k')])) : Nat × va_E) ∈ X ++ rpool cB L B C f := fun k' h => List.mem_append_right _ (rp_mem.mpr ⟨k', h, Or.inl rfl⟩)
  have hck : ck = C k := by
    have := huniq _ _ m1 mB rfl
    have h5 := congrArg Prod.snd this
    simpa using h5
  subst hck
  have hfk : (fun j => iZ (Int.bmod (fk j) 256)) = (fun j => iZ (Int.bmod (f k j) 256)) := by
    have := huniq _ _ m2 (mC k hL) rfl
    have h5 := congrArg Prod.snd this
    simpa using h5
  have hCinj : ∀ k' ∈ L, C k' = C k → k' = k := by
    intro k' hk' e
    have h6 : ((rpool cB L B C f).map (·.1)).Nodup := by
      rw [List.map_append] at hDn
      exact (List.nodup_append.mp hDn).2.1
    by_cases hkk : k' = k
    · exact hkk
    · exfalso
      have h7 : (L.flatMap fun k => [B k, C k]).Nodup := by simpa [rpool, List.map_flatMap] using h6
      clear h6
      clear hDn hD hP e1 e2 m1 m2 huniq mB mC mBx hfk hg h1 h2 h4
      induction L with
      | nil => cases hL
      | cons x L ih =>
        simp only [List.flatMap_cons, List.cons_append, List.nil_append, List.nodup_cons, List.mem_cons, List.mem_flatMap, List.not_mem_nil, or_false, not_or, not_exists, not_and] at h7 h3
        rcases List.mem_cons.mp hL with rfl | hL'
        · rcases List.mem_cons.mp hk' with rfl | hk''
          · exact hkk rfl
          · exact (h7.2.1 k' hk'').2 e.symm
        · rcases List.mem_cons.mp hk' with rfl | hk''
          · exact (h7.2.1 k hL').2 e
          · exact ih h3.2 hL' hk'' h7.2.2
  refine ⟨rpool cB L B C (va_up f k (va_up (f k) j v)), ⟨L, B, C, va_up f k (va_up (f k) j v), rfl, h1, h2, h3, ?_⟩, ?_, ?_⟩
  · intro k' j' hk' hj'
    by_cases hkk : k' = k
    · subst hkk
      rw [va_up_self]
      by_cases hjj : j' = j
      · subst hjj
        rw [va_up_self, va_up_self, if_pos hL]
      · rw [va_up_ne _ _ hjj, va_up_ne _ _ (by omega), h4 k' j' hk' hj']
    · rw [va_up_ne _ _ hkk, va_up_ne _ _ (by omega), h4 k' j' hk' hj']
  · refine vaP_set hP e2 (fun q hq => ?_)
    rcases List.mem_append.mp hq with hq | hq
    · refine Or.inr ⟨List.mem_append_left _ hq, fun e => ?_⟩
      have hne := (List.nodup_append.mp (by rw [List.map_append] at hDn; exact hDn)).2.2
      exact hne q.1 (List.mem_map_of_mem hq) (C k) (List.mem_map.mpr ⟨_, rp_mem.mpr ⟨k, hL, Or.inr rfl⟩, rfl⟩) e
    · obtain ⟨k', hk', hq⟩ := rp_mem.mp hq
      rcases hq with rfl | rfl
      · refine Or.inr ⟨mBx k' hk', fun e => ?_⟩
        have := huniq _ _ (mBx k' hk') (mC k hL) e
        exact absurd (congrArg Prod.snd this) (by intro h; cases h)
      · by_cases hkk : k' = k
        · subst hkk
          refine Or.inl ?_
          rw [va_up_self]
          congr 5
          funext i
          by_cases hi : i = j
          · subst hi; rw [va_up_self, va_up_self]
          · rw [va_up_ne _ _ hi, va_up_ne _ _ hi]
            exact (congrFun hfk i).symm
        · refine Or.inr ⟨?_, fun e => hkk (hCinj k' hk' e)⟩
          rw [va_up_ne _ _ hkk]
          exact mC k' hk'
  · rw [vaD_iff] at hD ⊢
    have e3 : (X ++ rpool cB L B C (va_up f k (va_up (f k) j v))).map (·.1) = (X ++ rpool cB L B C f).map (·.1) := by
      rw [List.map_append, List.map_append, rp_fst]
    refine ⟨by rw [e3]; exact hD.1, fun q hq => ?_⟩
    have h8 : q.1 ∈ (X ++ rpool cB L B C f).map (·.1) := by rw [← e3]; exact List.mem_map_of_mem hq
    obtain ⟨q', hq', e4⟩ := List.mem_map.mp h8
    rw [← e4]
    exact hD.2 q' hq'
theorem rk_new {cB : ClassId} {pl : va_W} {g : Nat → Option Nat} {al : Nat → Bool} {u : Nat → Int} (h : RK cB pl g al u) {k : Nat} (b c : Nat) (hk : al k = false) (hk2 : k < 32) :
    RK cB (pl ++ [(b, .inr (0, [.ref c])), (c, .inl (cB, 500, .inl (fun j => iZ (Int.bmod ((fun _ => 0 : Nat → Int) j) 256))))]) (va_up g k (some b)) (va_up al k true) u := by
  obtain ⟨L, B, C, f, rfl, h1, h2, h3, h4⟩ := h
  have hL : k ∉ L := fun q => by rw [(h1 k).mpr q] at hk; cases hk
  have hne : ∀ k' ∈ L, k' ≠ k := fun k' h e => hL (e ▸ h)
  refine ⟨L ++ [k], va_up B k b, va_up C k c, va_up f k (fun _ => 0), ?_, ?_, ?_, ?_, ?_⟩
  · unfold rpool
    rw [List.flatMap_append]
    congr 1
    · rw [List.flatMap_def, List.flatMap_def]
      congr 1
      apply List.map_congr_left
      intro k' hk'
      rw [va_up_ne _ _ (hne k' hk'), va_up_ne _ _ (hne k' hk'), va_up_ne _ _ (hne k' hk')]
    · simp [va_up_self]
  · intro k'
    by_cases e : k' = k
    · subst e; simp [va_up_self]
    · rw [va_up_ne _ _ e, h1]; simp [e]
  · intro k'
    by_cases e : k' = k
    · subst e; simp [va_up_self]
    · rw [va_up_ne _ _ e, va_up_ne _ _ e, h2]; simp [e]
  · rw [List.nodup_append]
    exact ⟨h3, by simp, fun a ha b hb => by simp at hb; subst hb; exact hne a ha⟩
  · intro k' j hk' hj
    by_cases e : k' = k
    · subst e; rw [h4 k' j hk' hj, if_neg hL]; simp [va_up_self]
    · rw [h4 k' j hk' hj, va_up_ne _ _ e]; simp [e]
theorem rk_0 (cB : ClassId) : RK cB [] (fun _ => none) (fun _ => false) (fun _ => 0) := ⟨[], fun _ => 0, fun _ => 0, fun _ _ => 0, rfl, by simp, by simp, List.nodup_nil, by simp⟩
/-- how many blocks are there -/
def cal (al : Nat → Bool) : Nat → Nat
  | 0 => 0
  | n + 1 => cal al n + if al n then 1 else 0
theorem cal_le (al : Nat → Bool) : ∀ n, cal al n ≤ n
  | 0 => Nat.le_refl 0
  | n + 1 => by have := cal_le al n; show cal al n + _ ≤ _; split <;> omega
theorem cal_same {al : Nat → Bool} {k : Nat} (hk : al k = true) : va_up al k true = al := by
  funext j
  by_cases e : j = k
  · subst e; rw [va_up_self, hk]
  · rw [va_up_ne _ _ e]
theorem cal_up {al : Nat → Bool} {k : Nat} (hk : al k = false) : ∀ n, cal (va_up al k true) n = cal al n + if k < n then 1 else 0
  | 0 => by simp [cal]
  | n + 1 => by
    have ih := cal_up hk n
    show cal (va_up al k true) n + (if va_up al k true n then 1 else 0) = cal al n + (if al n then 1 else 0) + _
    by_cases e : n = k
    · subst e
      rw [ih, va_up_self, hk]
      simp
    · rw [ih, va_up_ne _ _ e]
      by_cases h : k < n
      · rw [if_pos h, if_pos (show k < n + 1 by omega)]; omega
      · rw [if_neg h, if_neg (show ¬ k < n + 1 by omega)]; omega
theorem cal_mono (al : Nat → Bool) (k n : Nat) : cal al n ≤ cal (va_up al k true) n := by
  cases h : al k with
  | true => rw [cal_same h]; exact Nat.le_refl _
  | false => rw [cal_up h]; omega
/-- a store at a place: the block that is there then, the byte -/
def aP (al : Nat → Bool) (x : Int) : Nat → Bool := va_up al (x / 500 % 32).toNat true
def uP (u : Nat → Int) (x v : Int) : Nat → Int := va_up u (x % 16000).toNat (Int.bmod v 256)
theorem aP_mono (al : Nat → Bool) (x : Int) : cal al 32 ≤ cal (aP al x) 32 := cal_mono al _ 32
def aW (al : Nat → Bool) (x : Int) : Nat → (Nat → Bool)
  | 0 => al
  | n + 1 => aP (aW al x n) (x + n)
def uW (u : Nat → Int) (x : Int) (f : Nat → Int) : Nat → (Nat → Int)
  | 0 => u
  | n + 1 => uP (uW u x f n) (x + n) (f n)
theorem aW_mono (al : Nat → Bool) (x : Int) : ∀ n, cal al 32 ≤ cal (aW al x n) 32
  | 0 => Nat.le_refl _
  | n + 1 => Nat.le_trans (aW_mono al x n) (aP_mono _ _)
section ZR
variable {p : Program} {l : Launch} {e : Env} {R : Room} {s : State} {m : MethodId} {args : Array Value} {below : List Frame} {meth : Method} {c : Code} {H : Heap} {locs : List Loc} {cells slots : Nat} {Q : State → Prop} {pc : Nat} {ls : Array Slot} {rest : List Value}
theorem zz_rfN {x : Option Nat} (h : x = none) (k : W p l e R s m args below meth c H locs cells slots Q (F0 m pc ls (.null :: rest))) : W p l e R s m args below meth c H locs cells slots Q (F0 m pc ls (va_rf x :: rest)) := by subst h; exact k
theorem zz_rfS {x : Option Nat} {a : Nat} (h : x = some a) (k : W p l e R s m args below meth c H locs cells slots Q (F0 m pc ls (.ref a :: rest))) : W p l e R s m args below meth c H locs cells slots Q (F0 m pc ls (va_rf x :: rest)) := by subst h; exact k
end ZR
end
section
section ZX
variable {p : Program} {l : Launch} {e : Env} {R : Room} {s : State} {m : MethodId} {args : Array Value} {below : List Frame} {meth : Method} {c : Code} {H : Heap} {locs : List Loc} {cells slots : Nat} {Q : State → Prop}
variable {pc : Nat} {ls : Array Slot} {rest st0 : List Value} {D : va_G} {A : Nat → Prop} {tys : List (ClassId × FieldType)} {ws wc wr X cx pl : va_W} {H0 : Heap} {mc ms : Nat} {z : Int} {a : Array Value} {S : Type} {Φ : S → Prop} {w1 rx pl1 : S → va_W}
theorem zx_v (hr : va_Run p l e R s m args below meth c H locs cells slots mc ms (F0 m pc ls st0) rest (va_Qv Φ (zBx D tys (va_A wc H.size) w1) (va_A wc H.size) a) (va_A wc H.size)) (hP : va_P D vwCl ws H) (hD : va_D A ws) (hS : va_S A H0 H locs) (hA : ∀ q, H0.size ≤ q → A q) (isC isR : List Nat) (hC : isC.map (fun i => ws[i]?) = wc.map some) (hR : isR.map (fun i => ws[i]?) = wr.map some) (hn : va_nd isR = true) (hdis : ∀ i ∈ isR, i ∉ isC)
    (kk : ∀ (u : S), Φ u → ∀ (H1 : Heap) (locs1 : List Loc), va_P D vwCl (wr ++ w1 u) H1 → va_D A (wr ++ w1 u) → va_S A H0 H1 locs1 → W p l e R s m args below meth c H1 locs1 (cells + mc) (slots + ms) Q (F0 m (pc + 3) ls rest)) : W p l e R s m args below meth c H locs cells slots Q (F0 m pc ls st0) := by
  have hFc := va_free (wc := wc) hD hS hA isC hC
  refine va_callv hr hS (fun q _ h => hFc q h) hFc (fun u t H1 locs1 ht hvm hw hB hz1 hk1 hS1 => ?_)
  obtain ⟨hP1, hK1, hD1⟩ := hB
  rw [ht] at hP1
  obtain ⟨hP2, hD2⟩ := va_join hP hD isC isR hC hR hn hdis hk1 hFc hP1 hD1
  exact kk u hw H1 locs1 hP2 hD2 hS1
theorem zxq_v (hr : va_Run p l e R s m args below meth c H locs cells slots mc ms (F0 m pc ls st0) rest (va_Qv Φ (zBx D tys (va_A cx H.size) w1) (va_A cx H.size) a) (va_A cx H.size)) (hP : va_P D vwCl (X ++ pl) H) (hD : va_D A (X ++ pl)) (hS : va_S A H0 H locs) (hA : ∀ q, H0.size ≤ q → A q) (isC isR : List Nat) (hC : isC.map (fun i => X[i]?) = cx.map some) (hR : isR.map (fun i => X[i]?) = wr.map some) (hn : va_nd isR = true) (hdis : ∀ i ∈ isR, i ∉ isC) (hC2 : isC.map (fun i => (X ++ pl)[i]?) = cx.map some)
    (kk : ∀ (u : S), Φ u → ∀ (H1 : Heap) (locs1 : List Loc), va_P D vwCl ((wr ++ w1 u) ++ pl) H1 → va_D A ((wr ++ w1 u) ++ pl) → va_S A H0 H1 locs1 → W p l e R s m args below meth c H1 locs1 (cells + mc) (slots + ms) Q (F0 m (pc + 3) ls rest)) : W p l e R s m args below meth c H locs cells slots Q (F0 m pc ls st0) := by
  have hFc := va_free (wc := cx) hD hS hA isC hC2
  refine va_callv hr hS (fun q _ h => hFc q h) hFc (fun u t H1 locs1 ht hvm hw hB hz1 hk1 hS1 => ?_)
  obtain ⟨hP1, hK1, hD1⟩ := hB
  rw [ht] at hP1
  obtain ⟨hP2, hD2⟩ := va_joinQ hP hD isC isR hC hR hn hdis hk1 hFc hP1 hD1
  exact kk u hw H1 locs1 hP2 hD2 hS1
theorem zxp_v (hr : va_Run p l e R s m args below meth c H locs cells slots mc ms (F0 m pc ls st0) rest (va_Qv Φ (zBx D tys (va_A (cx ++ pl) H.size) (fun u => rx u ++ pl1 u)) (va_A (cx ++ pl) H.size) a) (va_A (cx ++ pl) H.size)) (hP : va_P D vwCl (X ++ pl) H) (hD : va_D A (X ++ pl)) (hS : va_S A H0 H locs) (hA : ∀ q, H0.size ≤ q → A q) (isC isR : List Nat) (hC : isC.map (fun i => X[i]?) = cx.map some) (hR : isR.map (fun i => X[i]?) = wr.map some) (hn : va_nd isR = true) (hdis : ∀ i ∈ isR, i ∉ isC)
    (kk : ∀ (u : S), Φ u → ∀ (H1 : Heap) (locs1 : List Loc), va_P D vwCl ((wr ++ rx u) ++ pl1 u) H1 → va_D A ((wr ++ rx u) ++ pl1 u) → va_S A H0 H1 locs1 → W p l e R s m args below meth c H1 locs1 (cells + mc) (slots + ms) Q (F0 m (pc + 3) ls rest)) : W p l e R s m args below meth c H locs cells slots Q (F0 m pc ls st0) := by
  have hFc := va_freeP (cx := cx) hD hS hA isC hC
  refine va_callv hr hS (fun q _ h => hFc q h) hFc (fun u t H1 locs1 ht hvm hw hB hz1 hk1 hS1 => ?_)
  obtain ⟨hP1, hK1, hD1⟩ := hB
  rw [ht] at hP1
  obtain ⟨hP2, hD2⟩ := va_joinP hP hD isC isR hC hR hn hdis hk1 hFc hP1 hD1
  exact kk u hw H1 locs1 hP2 hD2 hS1
theorem zxp_i (hr : va_Run p l e R s m args below meth c H locs cells slots mc ms (F0 m pc ls st0) rest (va_Qi (fun (r : Int32) (u : S) => r = iZ z ∧ Φ u) (zBx D tys (va_A (cx ++ pl) H.size) (fun u => rx u ++ pl1 u)) (va_A (cx ++ pl) H.size) a) (va_A (cx ++ pl) H.size)) (hP : va_P D vwCl (X ++ pl) H) (hD : va_D A (X ++ pl)) (hS : va_S A H0 H locs) (hA : ∀ q, H0.size ≤ q → A q) (isC isR : List Nat) (hC : isC.map (fun i => X[i]?) = cx.map some) (hR : isR.map (fun i => X[i]?) = wr.map some) (hn : va_nd isR = true) (hdis : ∀ i ∈ isR, i ∉ isC)
    (kk : ∀ (u : S), Φ u → ∀ (H1 : Heap) (locs1 : List Loc), va_P D vwCl ((wr ++ rx u) ++ pl1 u) H1 → va_D A ((wr ++ rx u) ++ pl1 u) → va_S A H0 H1 locs1 → W p l e R s m args below meth c H1 locs1 (cells + mc) (slots + ms) Q (F0 m (pc + 3) ls (.int (iZ z) :: rest))) : W p l e R s m args below meth c H locs cells slots Q (F0 m pc ls st0) := by
  have hFc := va_freeP (cx := cx) hD hS hA isC hC
  refine va_calli hr hS (fun q _ h => hFc q h) hFc (fun r u t H1 locs1 ht hvm hw hB hz1 hk1 hS1 => ?_)
  obtain ⟨hP1, hK1, hD1⟩ := hB
  rw [ht] at hP1
  obtain ⟨hP2, hD2⟩ := va_joinP hP hD isC isR hC hR hn hdis hk1 hFc hP1 hD1
  rw [hw.1]
  exact kk u hw.2 H1 locs1 hP2 hD2 hS1
end ZX
theorem iZ_shr8 {a : Int} (h0 : 0 ≤ a) (h1 : a < 2147483648) : iZ a >>> (iZ 8 &&& 31) = iZ (a / 256) := by
  obtain ⟨n, rfl⟩ := Int.eq_ofNat_of_zero_le h0
  rw [iZ_nat, pk_shrN (by omega) (iZ 8 &&& 31) 8 (by decide), ← iZ_nat]
  rfl
theorem iZ_shl8 {a : Int} (h0 : 0 ≤ a) (h1 : a < 8388608) : iZ a <<< (iZ 8 &&& 31) = iZ (a * 256) := by
  obtain ⟨n, rfl⟩ := Int.eq_ofNat_of_zero_le h0
  rw [iZ_nat, pk_shlN (iZ 8 &&& 31) 8 (by decide) (by omega), ← iZ_nat]
  rfl
theorem iZ_or8 {a b : Int} (h0 : 0 ≤ a) (h1 : a < 8388608) (hb : 0 ≤ b) (hb1 : b < 256) : iZ (a * 256) ||| iZ b = iZ (a * 256 + b) := by
  obtain ⟨n, rfl⟩ := Int.eq_ofNat_of_zero_le h0
  obtain ⟨k, rfl⟩ := Int.eq_ofNat_of_zero_le hb
  have e1 : ((n : Int) * 256) = ((n * 256 : Nat) : Int) := by omega
  have e2 : ((n : Int) * 256 + (k : Int)) = ((n * 256 + k : Nat) : Int) := by omega
  rw [e2, e1, iZ_nat, iZ_nat, iZ_nat]
  have hk : k < 2 ^ 8 := by omega
  have e3 : n * 256 + k = n * 256 ||| k := by
    have := Nat.two_pow_add_eq_or_of_lt hk n
    rw [Nat.mul_comm] at this
    exact this
  rw [e3]
  apply Int32.toBitVec_inj.mp
  show (nI (n * 256)).toBitVec ||| (nI k).toBitVec = (nI (n * 256 ||| k)).toBitVec
  apply BitVec.eq_of_toNat_eq
  rw [BitVec.toNat_or, pk_tn (by omega), pk_tn (by omega), pk_tn (by rw [← e3]; omega)]
section ZS
variable {p : Program} {l : Launch} {e : Env} {R : Room} {s : State} {m : MethodId} {args : Array Value} {below : List Frame} {meth : Method} {c : Code} {H : Heap} {locs : List Loc} {cells slots : Nat} {Q : State → Prop} {cc : ByteArray} {pc : Nat} {ls : Array Slot} {rest : List Value}
theorem zz_shr8 (hexec : p.tables.exec = Jvm.exec) (hb : c.code = cc) {x : Int} (h0 : 0 ≤ x) (h1 : x < 2147483648) (hdg : decode cc pc = .ok (.ishr, 1)) (k : W p l e R s m args below meth c H locs cells slots Q (F0 m (pc + 1) ls (.int (iZ (x / 256)) :: rest))) : W p l e R s m args below meth c H locs cells slots Q (F0 m pc ls (.int (iZ 8) :: .int (iZ x) :: rest)) := by
  refine lv_ishr hexec hb hdg ?_
  rw [iZ_shr8 h0 h1]
  exact k
theorem zz_shl8 (hexec : p.tables.exec = Jvm.exec) (hb : c.code = cc) {x : Int} (h0 : 0 ≤ x) (h1 : x < 8388608) (hdg : decode cc pc = .ok (.ishl, 1)) (k : W p l e R s m args below meth c H locs cells slots Q (F0 m (pc + 1) ls (.int (iZ (x * 256)) :: rest))) : W p l e R s m args below meth c H locs cells slots Q (F0 m pc ls (.int (iZ 8) :: .int (iZ x) :: rest)) := by
  refine lv_ishl hexec hb hdg ?_
  rw [iZ_shl8 h0 h1]
  exact k
theorem zz_or8 (hexec : p.tables.exec = Jvm.exec) (hb : c.code = cc) {x y : Int} (h0 : 0 ≤ x) (h1 : x < 8388608) (hy0 : 0 ≤ y) (hy1 : y < 256) (hdg : decode cc pc = .ok (.ior, 1)) (k : W p l e R s m args below meth c H locs cells slots Q (F0 m (pc + 1) ls (.int (iZ (x * 256 + y)) :: rest))) : W p l e R s m args below meth c H locs cells slots Q (F0 m pc ls (.int (iZ y) :: .int (iZ (x * 256)) :: rest)) := by
  refine lv_ior hexec hb hdg ?_
  rw [iZ_or8 h0 h1 hy0 hy1]
  exact k
end ZS
/-! what the log's bytes say -/
def rb (u : Nat → Int) (x : Int) : Int := u (x % 16000).toNat % 256
def bl (u : Nat → Int) (x : Int) : Int := rb u (x + 1) * 256 + rb u (x + 2)
def er (u : Nat → Int) (x : Int) : Int := x + 3 + bl u x
theorem rb_in (u : Nat → Int) (x : Int) : 0 ≤ rb u x ∧ rb u x < 256 := by unfold rb; omega
theorem bl_in (u : Nat → Int) (x : Int) : 0 ≤ bl u x ∧ bl u x < 65536 := by
  have := rb_in u (x + 1)
  have := rb_in u (x + 2)
  unfold bl; omega
/-- the edge that a walk from p comes to, at most n records on -/
def eg (u : Nat → Int) (en x : Int) : Nat → Int → Int
  | 0, q => q
  | n + 1, q => if q < x ∧ q < en then eg u en x n (er u q) else q
def rcE (u : Nat → Int) (en fl : Int) : Nat → Int → Int
  | 0, q => q
  | n + 1, q => if q < en ∧ er u q ≤ fl then rcE u en fl n (er u q) else q
def rcN (u : Nat → Int) (en fl : Int) : Nat → Int → Int
  | 0, _ => 0
  | n + 1, q => if q < en ∧ er u q ≤ fl then rcN u en fl n (er u q) + 1 else 0
/-- byte r of a long, as an int -/
def lb (v : Int64) (r : Int) : Int := (((v).toUInt64 >>> ((iZ (8 * r)).toInt64.toUInt64 &&& Int64.toUInt64 63)).toInt64).toInt32.toInt
def pU (v : Int64) : Nat → Int → (Nat → Int) → (Nat → Int)
  | 0, _, u => u
  | r + 1, c, u => pU v r (c + 1) (va_up u c.toNat (Int.bmod (lb v r) 256))
theorem fU_step {w uh : Nat → Int} {cnt k v : Int} (h0 : 0 ≤ cnt) (h1 : cnt ≤ k) (hw : ∀ j : Nat, w j = if cnt ≤ (j : Int) ∧ (j : Int) < k then Int.bmod v 256 else uh j) : ∀ j : Nat, va_up w k.toNat (Int.bmod v 256) j = if cnt ≤ (j : Int) ∧ (j : Int) < k + 1 then Int.bmod v 256 else uh j := by
  intro j
  by_cases hj : j = k.toNat
  · subst hj
    rw [va_up_self, if_pos (by omega)]
  · rw [va_up_ne _ _ hj, hw]
    by_cases h : cnt ≤ (j : Int) ∧ (j : Int) < k
    · rw [if_pos h, if_pos (by omega)]
    · rw [if_neg h, if_neg (by omega)]
theorem wfst_in (g : Nat → Int) : ∀ n : Nat, -1 ≤ wfst g n ∧ wfst g n < n
  | 0 => by simp [wfst]
  | n + 1 => by
    have := wfst_in g n
    unfold wfst
    split <;> omega
theorem pU_succ {v : Int64} {i k : Int} {w : Nat → Int} (h : 0 ≤ i) : pU v (i + 1).toNat k w = pU v i.toNat (k + 1) (va_up w k.toNat (Int.bmod (lb v i) 256)) := by
  have e : (i + 1).toNat = i.toNat + 1 := by omega
  have e2 : ((i.toNat : Nat) : Int) = i := Int.toNat_of_nonneg h
  rw [e]
  show pU v i.toNat (k + 1) (va_up w k.toNat (Int.bmod (lb v ((i.toNat : Nat) : Int)) 256)) = _
  rw [e2]
theorem eg_stop {u : Nat → Int} {en x q : Int} {n : Nat} (h : n = 0 ∨ ¬ (q < x ∧ q < en)) : eg u en x n q = q := by
  cases n with
  | zero => rfl
  | succ n => rcases h with h | h
              · cases h
              · unfold eg; rw [if_neg h]
theorem eg_step {u : Nat → Int} {en x q m : Int} (hm : 0 < m) (h : q < x ∧ q < en) : eg u en x m.toNat q = eg u en x (m - 1).toNat (er u q) := by
  rw [show m.toNat = (m - 1).toNat + 1 by omega]
  show (if _ then _ else _) = _
  rw [if_pos h]
theorem rcE_stop {u : Nat → Int} {en fl q : Int} {n : Nat} (h : n = 0 ∨ ¬ (q < en ∧ er u q ≤ fl)) : rcE u en fl n q = q ∧ rcN u en fl n q = 0 := by
  cases n with
  | zero => exact ⟨rfl, rfl⟩
  | succ n => rcases h with h | h
              · cases h
              · unfold rcE rcN; rw [if_neg h, if_neg h]; exact ⟨rfl, rfl⟩
theorem rcE_step {u : Nat → Int} {en fl q m : Int} (hm : 0 < m) (h : q < en ∧ er u q ≤ fl) : rcE u en fl m.toNat q = rcE u en fl (m - 1).toNat (er u q) ∧ rcN u en fl m.toNat q = rcN u en fl (m - 1).toNat (er u q) + 1 := by
  rw [show m.toNat = (m - 1).toNat + 1 by omega]
  constructor
  · show (if _ then _ else _) = _
    rw [if_pos h]
  · show (if _ then _ else _) = _
    rw [if_pos h]
end
section
set_option maxHeartbeats 4000000 in
set_option maxRecDepth 100000 in
/-- Ring.get -/
theorem c_Ri_get (l : Launch) (dC : Nat → ClassId) (dI : Nat → Nat → Nat) (cB : ClassId) (cI : ClassId) (cJ : ClassId) (cZ : ClassId) (cQ : ClassId) (h0 h1 : Nat) (sz : Nat) (pl : va_W) (g : Nat → Option Nat) (al : Nat → Bool) (u : Nat → Int) (x : Int) (hR : RK cB pl g al u) (hx0 : 0 ≤ x ∧ x < 2147483648) : Met l y_Ri_get ((Cond.code y_Ri_get prog_6_method_2_code 3 (some .int)) :: gw) ({ frames := 1, cells := 0, slots := 0, locals := 20 } : Room) (zPc (dC, dI) [(cB, .byte), (cI, .int), (cJ, .long), (cZ, .boolean), (cQ, .object "LogDesk$Block")] [.ref h0, .int (iZ x)] ([(h0, .inr (4, [.ref h1])), (h1, .inl (cQ, 32, .inr (.inr (.inr (.inr g)))))] ++ pl) sz) (va_Qi (fun (r : Int32) (_ : Unit) => r = iZ (u (x % 16000).toNat % 256)) (zB (dC, dI) [(cB, .byte), (cI, .int), (cJ, .long), (cZ, .boolean), (cQ, .object "LogDesk$Block")] (va_A ([(h0, .inr (4, [.ref h1])), (h1, .inl (cQ, 32, .inr (.inr (.inr (.inr g)))))] ++ pl) sz) ([(h0, .inr (4, [.ref h1])), (h1, .inl (cQ, 32, .inr (.inr (.inr (.inr g)))))] ++ pl)) (va_A ([(h0, .inr (4, [.ref h1])), (h1, .inl (cQ, 32, .inr (.inr (.inr (.inr g)))))] ++ pl) sz)) 0 0 (va_A ([(h0, .inr (4, [.ref h1])), (h1, .inl (cQ, 32, .inr (.inr (.inr (.inr g)))))] ++ pl) sz) := by
  refine Met.ofW (cc := prog_6_method_2_code) (maxL := 3) (ret := (some .int)) (by decide) rfl ?_
  intro p e s m args below meth c s₁ B hml hv
  obtain ⟨rfl, hsz, hP, hK, hD0, hZ⟩ := hv
  have hx := B.exec
  have hb := B.bytes
  have hr := B.returns
  have hts := atoms_spec (ws := (Cond.code y_Ri_get prog_6_method_2_code 3 (some .int)) :: gw) B.pre
  have htg : ∀ w ∈ gw, w.before _ s = true := fun w h => hts w (List.mem_cons_of_mem _ h)
  have hown : s.vm.findClass "LogDesk$Ring" = some m.cls := findClass_of_methodNamed B.named
  have hlocks := B.notSynchronized
  subst hsz
  have hD := hD0.self (sz := s.heap.size)
  generalize hAe : va_A ([(h0, .inr (4, [.ref h1])), (h1, .inl (cQ, 32, .inr (.inr (.inr (.inr g)))))] ++ pl) s.heap.size = A at hD ⊢
  have hRc : (headSpec ((Cond.code y_Ri_get prog_6_method_2_code 3 (some .int)) :: gw) ({ frames := 1, cells := 0, slots := 0, locals := 20 } : Room)).room.cells = 0 := rfl
  have hRs : (headSpec ((Cond.code y_Ri_get prog_6_method_2_code 3 (some .int)) :: gw) ({ frames := 1, cells := 0, slots := 0, locals := 20 } : Room)).room.slots = 0 := rfl
  have hA : ∀ q : Nat, s.heap.size ≤ q → A q := fun q h => by rw [← hAe]; exact Or.inr h
  have hS : va_S A s.heap s.heap [] := va_S.rf
  have hP : va_P (dC, dI) vwCl ([(h0, .inr (4, [.ref h1])), (h1, .inl (cQ, 32, .inr (.inr (.inr (.inr g)))))] ++ pl) s.heap := hP
  have hl := lv_entry ([.ref h0, .int (iZ x)]) (n := 3) (Nat.le_of_ble_eq_true rfl)
  rw [lg_entry_eq]
  generalize (lg_sl ([.ref h0, .int (iZ x)]) ++ List.replicate (3 - (lg_sl ([.ref h0, .int (iZ x)])).length) Slot.unset).toArray = ls at hl ⊢
  have hl : lv_has ls 3 [(0, .ref h0), (1, .int (iZ x))] := hl
  refine lv_iload_n hx hb d_Ri_get_0 rfl (lv_at hl 1 rfl) ?_
  refine zz_if_ge (tgt := 6) hx hb d_Ri_get_1 (by decide) ⟨by omega, by omega⟩ (fun c_1 => ?_) (fun c_1 => ?_)
  · refine lv_aload_n hx hb d_Ri_get_6 rfl (lv_at hl 0 rfl) ?_
    refine va_get (D := (dC, dI)) (ci := 4) (v := .ref h1) (C := "LogDesk$Ring") (T := F_Ri) (N := 1) hx hb htg hin_Ri hown hK hP 0 rfl rfl 0 (by decide) (htg _ k_34) (fun _ h9 => h9) rfl d_Ri_get_7 ?_
    refine lv_iload_n hx hb d_Ri_get_10 rfl (lv_at hl 1 rfl) ?_
    refine zq_i (wr := [(h0, .inr (4, [.ref h1])), (h1, .inl (cQ, 32, .inr (.inr (.inr (.inr g)))))]) (va_runSN (As := [.int (iZ x)]) (rest := [.ref h1]) ⟨hx, hb, hml, hown, htg⟩ (c_De_blockOf l dC dI cB cI cJ cZ cQ s.heap.size x (by omega)) ⟨va_cnB 1 htg (gw_I k_202) rfl rfl rfl (hZ.1 (.methodLinkNest "LogDesk$Ring" 17 y_De_blockOf "LogDesk") (by simp [nzW])) (htg _ k_1) (by decide +kernel) ⟨Nat.le_of_ble_eq_true rfl, Nat.le_of_ble_eq_true rfl⟩, htg _ k_201, trivial⟩ (zPreS hK hP hD hZ [] rfl (by decide)) rfl rfl hl.1 rfl (lv_room (Nat.le_of_ble_eq_true rfl)) d_Ri_get_11 ⟨by omega, by omega⟩) hP hD hS hA [] [0, 1] rfl rfl (by decide) (by decide) rfl (fun H locs hP hD hS => ?_)
    have hP : va_P (dC, dI) vwCl ([(h0, .inr (4, [.ref h1])), (h1, .inl (cQ, 32, .inr (.inr (.inr (.inr g)))))] ++ pl) H := hP
    have hD : va_D A ([(h0, .inr (4, [.ref h1])), (h1, .inl (cQ, 32, .inr (.inr (.inr (.inr g)))))] ++ pl) := hD
    refine lv_bipush (v := iZ 32) hx hb d_Ri_get_14 (by decide) ?_
    refine zz_irem hx hb (by omega) (by omega) (by omega) (by omega) d_Ri_get_16 ?_
    refine va_aldq hx hb hK hP 1 4 rfl rfl (iZ_in (by omega) (by omega) (by omega)) d_Ri_get_17 ?_
    rw [iZ_cl (by omega) (by omega)]
    rcases Bool.eq_false_or_eq_true (al (x / 500 % 32).toNat) with hk | hk
    · obtain ⟨bk, ck, fk, i1, i2, hgk, hi1, hi2, huk⟩ := rk_get hR [(h0, .inr (4, [.ref h1])), (h1, .inl (cQ, 32, .inr (.inr (.inr (.inr g)))))] hk (by omega)
      refine zz_rfS hgk ?_
      refine lv_astore_n (lv' := [(2, .ref bk), (0, .ref h0), (1, .int (iZ x))]) hx hb d_Ri_get_18 rfl hl (by decide) rfl (fun ls hl => ?_)
      refine lv_aload_n hx hb d_Ri_get_19 rfl (lv_at hl 0 rfl) ?_
      refine lv_ifnonnull (tgt := 27) hx hb d_Ri_get_20 (by decide) ?_
      refine lv_aload_n hx hb d_Ri_get_27 rfl (lv_at hl 0 rfl) ?_
      refine va_getN (D := (dC, dI)) (ci := 0) (v := .ref ck) (C := "LogDesk$Block") (T := F_Bl) (N := 1) hx hb htg hin_Bl hown hK hP i1 hi1 rfl 0 (by decide) (va_Nw.use rfl (hZ.2.1 (.fieldLinkNest "LogDesk$Ring" 21 "LogDesk$Block" "cells" "[B" "LogDesk") (by simp [nzF]))) (fun _ h9 => h9) rfl d_Ri_get_28 ?_
      refine lv_iload_n hx hb d_Ri_get_31 rfl (lv_at hl 2 rfl) ?_
      refine lv_sipush (v := iZ 500) hx hb d_Ri_get_32 (by decide) ?_
      refine zz_irem hx hb (by omega) (by omega) (by omega) (by omega) d_Ri_get_35 ?_
      refine zz_bald hx hb hK hP i2 0 hi2 rfl (by omega) (by omega) (by omega) d_Ri_get_36 ?_
      refine lv_sipush (v := iZ 255) hx hb d_Ri_get_37 (by decide) ?_
      refine zz_and255b hx hb d_Ri_get_40 ?_
      have hix : (x % 16000).toNat = (x / 500 % 32).toNat * 500 + (x % 500).toNat := by omega
      exact W.iret (v := (iZ ((fk ((x % 500)).toNat) % 256))) hx hb hr (fun t ht hW => ⟨⟨_, (), rfl, (congrArg iZ (by rw [hix, huk _ (by omega)])), by rw [ht]; exact hP, va_K.moved hW.alike hK, hAe ▸ hD⟩, hAe ▸ hS.F ht⟩) (hAe ▸ hS.2.2) d_Ri_get_41
    · obtain ⟨hgk, huk⟩ := rk_no hR hk (by omega)
      refine zz_rfN hgk ?_
      refine lv_astore_nN (lv' := [(2, .null), (0, .ref h0), (1, .int (iZ x))]) hx hb d_Ri_get_18 rfl hl (by decide) rfl (fun ls hl => ?_)
      refine lv_aload_nN hx hb d_Ri_get_19 rfl (lv_at hl 0 rfl) ?_
      refine lv_ifnonnullN hx hb d_Ri_get_20 ?_
      refine lv_iconst (v := iZ 0) hx hb d_Ri_get_23 rfl ?_
      refine lv_goto (tgt := 41) hx hb d_Ri_get_24 (by decide) ?_
      have hix : (x % 16000).toNat = (x / 500 % 32).toNat * 500 + (x % 500).toNat := by omega
      exact W.iret (v := (iZ 0)) hx hb hr (fun t ht hW => ⟨⟨_, (), rfl, (congrArg iZ (by rw [hix, huk _ (by omega)]; rfl)), by rw [ht]; exact hP, va_K.moved hW.alike hK, hAe ▸ hD⟩, hAe ▸ hS.F ht⟩) (hAe ▸ hS.2.2) d_Ri_get_41
  · exfalso; omega
set_option maxHeartbeats 4000000 in
set_option maxRecDepth 100000 in
/-- Block() -/
theorem c_Bl_init (l : Launch) (dC : Nat → ClassId) (dI : Nat → Nat → Nat) (cB : ClassId) (cI : ClassId) (cJ : ClassId) (cZ : ClassId) (cQ : ClassId) (h0 : Nat) (sz : Nat) : Met l y_Bl_init ((Cond.code y_Bl_init prog_2_method_1_code 1 none) :: gw) ({ frames := 1, cells := 1, slots := 500, locals := 13 } : Room) (zPc (dC, dI) [(cB, .byte), (cI, .int), (cJ, .long), (cZ, .boolean), (cQ, .object "LogDesk$Block")] [.ref h0] [(h0, .inr (0, [.null]))] sz) (va_Qv (fun (q : Nat) => True) (zBx (dC, dI) [(cB, .byte), (cI, .int), (cJ, .long), (cZ, .boolean), (cQ, .object "LogDesk$Block")] (va_A [(h0, .inr (0, [.null]))] sz) (fun (q : Nat) => [(h0, .inr (0, [.ref q])), (q, .inl (cB, 500, .inl (fun j => iZ (Int.bmod ((fun _ => 0) j) 256))))])) (va_A [(h0, .inr (0, [.null]))] sz)) 1 500 (va_A [(h0, .inr (0, [.null]))] sz) := by
  refine Met.ofW (cc := prog_2_method_1_code) (maxL := 1) (ret := none) (by decide) rfl ?_
  intro p e s m args below meth c s₁ B hml hv
  obtain ⟨rfl, hsz, hP, hK, hD0, hZ⟩ := hv
  have hx := B.exec
  have hb := B.bytes
  have hr := B.returns
  have hts := atoms_spec (ws := (Cond.code y_Bl_init prog_2_method_1_code 1 none) :: gw) B.pre
  have htg : ∀ w ∈ gw, w.before _ s = true := fun w h => hts w (List.mem_cons_of_mem _ h)
  have hown : s.vm.findClass "LogDesk$Block" = some m.cls := findClass_of_methodNamed B.named
  have hlocks := B.notSynchronized
  have hin : meth.name = "<init>" := (name_of_methodNamed B.named B.method).1
  subst hsz
  have hD := hD0.self (sz := s.heap.size)
  generalize hAe : va_A [(h0, .inr (0, [.null]))] s.heap.size = A at hD ⊢
  have hRc : (headSpec ((Cond.code y_Bl_init prog_2_method_1_code 1 none) :: gw) ({ frames := 1, cells := 1, slots := 500, locals := 13 } : Room)).room.cells = 1 := rfl
  have hRs : (headSpec ((Cond.code y_Bl_init prog_2_method_1_code 1 none) :: gw) ({ frames := 1, cells := 1, slots := 500, locals := 13 } : Room)).room.slots = 500 := rfl
  have hA : ∀ q : Nat, s.heap.size ≤ q → A q := fun q h => by rw [← hAe]; exact Or.inr h
  have hS : va_S A s.heap s.heap [] := va_S.rf
  have hP : va_P (dC, dI) vwCl [(h0, .inr (0, [.null]))] s.heap := hP
  have hl := lv_entry ([.ref h0]) (n := 1) (Nat.le_of_ble_eq_true rfl)
  rw [lg_entry_eq]
  generalize (lg_sl ([.ref h0]) ++ List.replicate (1 - (lg_sl ([.ref h0])).length) Slot.unset).toArray = ls at hl ⊢
  have hl : lv_has ls 1 [(0, .ref h0)] := hl
  refine lv_aload_n hx hb d_Bl_init_0 rfl (lv_at hl 0 rfl) ?_
  refine W.objInit hx hb hown (htg _ k_356) (htg _ k_24) (htg _ k_25) rfl (by rw [hml]; exact hl.1) rfl d_Bl_init_1 (Nat.le_of_ble_eq_true rfl) (Nat.le_of_ble_eq_true rfl) ?_
  refine W.eq (g2 := F0 m 4 ls []) rfl ?_
  refine lv_aload_n hx hb d_Bl_init_4 rfl (lv_at hl 0 rfl) ?_
  refine lv_sipush (v := iZ 500) hx hb d_Bl_init_5 (by decide) ?_
  refine va_newa (atype := .byte) (ty := .byte) (a0 := (500, (.inl (fun _ => 0)))) hx hb (htg _ k_51) rfl hK hP hD hS hA (fun _ => rfl) (by decide) (by decide) (by decide) (by omega) (by omega) d_Bl_init_8 (fun q_1 ca_2 H hK9 hP hD hS => ?_)
  obtain rfl : cB = ca_2 := tyU hK9 (i := 0) (j := 5) rfl rfl
  have hK := hK9.sub (tys' := [(cB, .byte), (cI, .int), (cJ, .long), (cZ, .boolean), (cQ, .object "LogDesk$Block")]) [0, 1, 2, 3, 4] rfl
  have hP : va_P (dC, dI) vwCl [(h0, .inr (0, [.null])), (q_1, .inl (cB, 500, .inl (fun j => iZ (Int.bmod ((fun _ => 0) j) 256))))] H := hP
  have hD : va_D A [(h0, .inr (0, [.null])), (q_1, .inl (cB, 500, .inl (fun j => iZ (Int.bmod ((fun _ => 0) j) 256))))] := hD
  refine va_putF (D := (dC, dI)) (ci := 0) (v := .ref q_1) (ty := t_Bl 0) (C := "LogDesk$Block") (T := F_Bl) (N := 1) hx hb htg hin_Bl t_Bl t_Bl_ok n_Bl hown hK hP hD hS 0 rfl rfl 0 (by decide) (htg _ k_357) (fun _ h9 => h9) rfl hin rfl (by decide +kernel) rfl rfl (Nat.le_of_ble_eq_true rfl) d_Bl_init_10 (fun H locs hP hD hS => ?_)
  have hP : va_P (dC, dI) vwCl [(h0, .inr (0, [.ref q_1])), (q_1, .inl (cB, 500, .inl (fun j => iZ (Int.bmod ((fun _ => 0) j) 256))))] H := hP
  have hD : va_D A [(h0, .inr (0, [.ref q_1])), (q_1, .inl (cB, 500, .inl (fun j => iZ (Int.bmod ((fun _ => 0) j) 256))))] := hD
  refine W.widen (k := 1) (n := 500) (by omega) (by omega) ?_
  exact W.vret hx hb hr (fun t ht hW => ⟨⟨(q_1), rfl, trivial, by rw [ht]; exact hP, va_K.moved hW.alike hK, hAe ▸ hD⟩, hAe ▸ hS.F ht⟩) (hAe ▸ hS.2.2) d_Bl_init_13
set_option maxHeartbeats 4000000 in
set_option maxRecDepth 100000 in
/-- Ring.set -/
theorem c_Ri_set (l : Launch) (dC : Nat → ClassId) (dI : Nat → Nat → Nat) (cB : ClassId) (cI : ClassId) (cJ : ClassId) (cZ : ClassId) (cQ : ClassId) (h0 h1 : Nat) (sz : Nat) (pl : va_W) (g : Nat → Option Nat) (al : Nat → Bool) (u : Nat → Int) (x : Int) (v : Int) (hR : RK cB pl g al u) (hx0 : 0 ≤ x ∧ x < 2147483648) : Met l y_Ri_set ((Cond.code y_Ri_set prog_6_method_3_code 5 none) :: gw) ({ frames := 2, cells := (2 * (cal (aP al x) 32 - cal al 32)), slots := (501 * (cal (aP al x) 32 - cal al 32)), locals := 33 } : Room) (zPc (dC, dI) [(cB, .byte), (cI, .int), (cJ, .long), (cZ, .boolean), (cQ, .object "LogDesk$Block")] [.ref h0, .int (iZ x), .int (iZ v)] ([(h0, .inr (4, [.ref h1])), (h1, .inl (cQ, 32, .inr (.inr (.inr (.inr g)))))] ++ pl) sz) (va_Qv (fun (q : va_W × (Nat → Option Nat)) => RK cB q.1 q.2 (aP al x) (uP u x v)) (zBx (dC, dI) [(cB, .byte), (cI, .int), (cJ, .long), (cZ, .boolean), (cQ, .object "LogDesk$Block")] (va_A ([(h0, .inr (4, [.ref h1])), (h1, .inl (cQ, 32, .inr (.inr (.inr (.inr g)))))] ++ pl) sz) (fun (q : va_W × (Nat → Option Nat)) => ([(h0, .inr (4, [.ref h1])), (h1, .inl (cQ, 32, .inr (.inr (.inr (.inr q.2)))))] ++ q.1))) (va_A ([(h0, .inr (4, [.ref h1])), (h1, .inl (cQ, 32, .inr (.inr (.inr (.inr g)))))] ++ pl) sz)) (2 * (cal (aP al x) 32 - cal al 32)) (501 * (cal (aP al x) 32 - cal al 32)) (va_A ([(h0, .inr (4, [.ref h1])), (h1, .inl (cQ, 32, .inr (.inr (.inr (.inr g)))))] ++ pl) sz) := by
  refine Met.ofW (cc := prog_6_method_3_code) (maxL := 5) (ret := none) (by decide) rfl ?_
  intro p e s m args below meth c s₁ B hml hv
  obtain ⟨rfl, hsz, hP, hK, hD0, hZ⟩ := hv
  have hx := B.exec
  have hb := B.bytes
  have hr := B.returns
  have hts := atoms_spec (ws := (Cond.code y_Ri_set prog_6_method_3_code 5 none) :: gw) B.pre
  have htg : ∀ w ∈ gw, w.before _ s = true := fun w h => hts w (List.mem_cons_of_mem _ h)
  have hown : s.vm.findClass "LogDesk$Ring" = some m.cls := findClass_of_methodNamed B.named
  have hlocks := B.notSynchronized
  subst hsz
  have hD := hD0.self (sz := s.heap.size)
  generalize hAe : va_A ([(h0, .inr (4, [.ref h1])), (h1, .inl (cQ, 32, .inr (.inr (.inr (.inr g)))))] ++ pl) s.heap.size = A at hD ⊢
  have hRc : (headSpec ((Cond.code y_Ri_set prog_6_method_3_code 5 none) :: gw) ({ frames := 2, cells := (2 * (cal (aP al x) 32 - cal al 32)), slots := (501 * (cal (aP al x) 32 - cal al 32)), locals := 33 } : Room)).room.cells = (2 * (cal (aP al x) 32 - cal al 32)) := rfl
  have hRs : (headSpec ((Cond.code y_Ri_set prog_6_method_3_code 5 none) :: gw) ({ frames := 2, cells := (2 * (cal (aP al x) 32 - cal al 32)), slots := (501 * (cal (aP al x) 32 - cal al 32)), locals := 33 } : Room)).room.slots = (501 * (cal (aP al x) 32 - cal al 32)) := rfl
  have hA : ∀ q : Nat, s.heap.size ≤ q → A q := fun q h => by rw [← hAe]; exact Or.inr h
  have hS : va_S A s.heap s.heap [] := va_S.rf
  have hP : va_P (dC, dI) vwCl ([(h0, .inr (4, [.ref h1])), (h1, .inl (cQ, 32, .inr (.inr (.inr (.inr g)))))] ++ pl) s.heap := hP
  have hl := lv_entry ([.ref h0, .int (iZ x), .int (iZ v)]) (n := 5) (Nat.le_of_ble_eq_true rfl)
  rw [lg_entry_eq]
  generalize (lg_sl ([.ref h0, .int (iZ x), .int (iZ v)]) ++ List.replicate (5 - (lg_sl ([.ref h0, .int (iZ x), .int (iZ v)])).length) Slot.unset).toArray = ls at hl ⊢
  have hl : lv_has ls 5 [(0, .ref h0), (1, .int (iZ x)), (2, .int (iZ v))] := hl
  refine lv_iload_n hx hb d_Ri_set_0 rfl (lv_at hl 1 rfl) ?_
  refine zz_if_ge (tgt := 5) hx hb d_Ri_set_1 (by decide) ⟨by omega, by omega⟩ (fun c_1 => ?_) (fun c_1 => ?_)
  · refine lv_iload_n hx hb d_Ri_set_5 rfl (lv_at hl 1 rfl) ?_
    refine zq_i (wr := [(h0, .inr (4, [.ref h1])), (h1, .inl (cQ, 32, .inr (.inr (.inr (.inr g)))))]) (va_runSN (As := [.int (iZ x)]) (rest := []) ⟨hx, hb, hml, hown, htg⟩ (c_De_blockOf l dC dI cB cI cJ cZ cQ s.heap.size x (by omega)) ⟨va_cnB 1 htg (gw_I k_202) rfl rfl rfl (hZ.1 (.methodLinkNest "LogDesk$Ring" 17 y_De_blockOf "LogDesk") (by simp [nzW])) (htg _ k_1) (by decide +kernel) ⟨Nat.le_of_ble_eq_true rfl, Nat.le_of_ble_eq_true rfl⟩, htg _ k_201, trivial⟩ (zPreS hK hP hD hZ [] rfl (by decide)) rfl rfl hl.1 rfl (lv_room (Nat.le_of_ble_eq_true rfl)) d_Ri_set_6 ⟨by omega, by omega⟩) hP hD hS hA [] [0, 1] rfl rfl (by decide) (by decide) rfl (fun H locs hP hD hS => ?_)
    have hP : va_P (dC, dI) vwCl ([(h0, .inr (4, [.ref h1])), (h1, .inl (cQ, 32, .inr (.inr (.inr (.inr g)))))] ++ pl) H := hP
    have hD : va_D A ([(h0, .inr (4, [.ref h1])), (h1, .inl (cQ, 32, .inr (.inr (.inr (.inr g)))))] ++ pl) := hD
    refine lv_bipush (v := iZ 32) hx hb d_Ri_set_9 (by decide) ?_
    refine zz_irem hx hb (by omega) (by omega) (by omega) (by omega) d_Ri_set_11 ?_
    refine lv_istore_n (lv' := [(3, .int (iZ ((x / 500) % 32))), (0, .ref h0), (1, .int (iZ x)), (2, .int (iZ v))]) hx hb d_Ri_set_12 rfl hl (by decide) rfl (fun ls hl => ?_)
    refine lv_aload_n hx hb d_Ri_set_13 rfl (lv_at hl 1 rfl) ?_
    refine va_get (D := (dC, dI)) (ci := 4) (v := .ref h1) (C := "LogDesk$Ring") (T := F_Ri) (N := 1) hx hb htg hin_Ri hown hK hP 0 rfl rfl 0 (by decide) (htg _ k_34) (fun _ h9 => h9) rfl d_Ri_set_14 ?_
    refine lv_iload_n hx hb d_Ri_set_17 rfl (lv_at hl 0 rfl) ?_
    refine va_aldq hx hb hK hP 1 4 rfl rfl (iZ_in (by omega) (by omega) (by omega)) d_Ri_set_18 ?_
    rw [iZ_cl (by omega) (by omega)]
    rcases Bool.eq_false_or_eq_true (al (x / 500 % 32).toNat) with hk | hk
    · obtain ⟨bk, ck, fk, i1, i2, hgk, hi1, hi2, huk⟩ := rk_get hR [(h0, .inr (4, [.ref h1])), (h1, .inl (cQ, 32, .inr (.inr (.inr (.inr g)))))] hk (by omega)
      refine zz_rfS hgk ?_
      refine lv_astore (lv' := [(4, .ref bk), (3, .int (iZ ((x / 500) % 32))), (0, .ref h0), (1, .int (iZ x)), (2, .int (iZ v))]) hx hb d_Ri_set_19 hl (by decide) rfl (fun ls hl => ?_)
      refine lv_aload hx hb d_Ri_set_21 (lv_at hl 0 rfl) ?_
      refine lv_ifnonnull (tgt := 43) hx hb d_Ri_set_23 (by decide) ?_
      refine lv_aload hx hb d_Ri_set_43 (lv_at hl 0 rfl) ?_
      refine va_getN (D := (dC, dI)) (ci := 0) (v := .ref ck) (C := "LogDesk$Block") (T := F_Bl) (N := 1) hx hb htg hin_Bl hown hK hP i1 hi1 rfl 0 (by decide) (va_Nw.use rfl (hZ.2.1 (.fieldLinkNest "LogDesk$Ring" 21 "LogDesk$Block" "cells" "[B" "LogDesk") (by simp [nzF]))) (fun _ h9 => h9) rfl d_Ri_set_45 ?_
      refine lv_iload_n hx hb d_Ri_set_48 rfl (lv_at hl 3 rfl) ?_
      refine lv_sipush (v := iZ 500) hx hb d_Ri_set_49 (by decide) ?_
      refine zz_irem hx hb (by omega) (by omega) (by omega) (by omega) d_Ri_set_52 ?_
      refine lv_iload_n hx hb d_Ri_set_53 rfl (lv_at hl 4 rfl) ?_
      refine zz_i2b hx hb d_Ri_set_54 ?_
      refine zz_bast hx hb hK hP hD hS i2 0 hi2 rfl (by omega) (by omega) (by omega) d_Ri_set_55 (fun H locs hP hD9 hS => ?_)
      obtain ⟨pl2, hR2, hP, hD⟩ := rk_put hR hk (by omega) (by omega) hgk hi1 hi2 hD hP
      have hix : (x % 16000).toNat = (x / 500 % 32).toNat * 500 + (x % 500).toNat := by omega
      refine W.widen (k := (2 * (cal (aP al x) 32 - cal al 32))) (n := (501 * (cal (aP al x) 32 - cal al 32))) (by omega) (by omega) ?_
      exact W.vret hx hb hr (fun t ht hW => ⟨⟨(pl2, g), rfl, by unfold aP uP; rw [hix, cal_same hk]; exact hR2, by rw [ht]; exact hP, va_K.moved hW.alike hK, hAe ▸ hD⟩, hAe ▸ hS.F ht⟩) (hAe ▸ hS.2.2) d_Ri_set_56
    · obtain ⟨hgk0, huk0⟩ := rk_no hR hk (by omega)
      have hcal : cal (aP al x) 32 = _ := cal_up hk 32
      rw [if_pos (show (x / 500 % 32).toNat < 32 by omega)] at hcal
      refine zz_rfN hgk0 ?_
      refine lv_astoreN (lv' := [(4, .null), (3, .int (iZ ((x / 500) % 32))), (0, .ref h0), (1, .int (iZ x)), (2, .int (iZ v))]) hx hb d_Ri_set_19 hl (by decide) rfl (fun ls hl => ?_)
      refine lv_aloadN hx hb d_Ri_set_21 (lv_at hl 0 rfl) ?_
      refine lv_ifnonnullN hx hb d_Ri_set_23 ?_
      refine va_new (ci := 0) (fs := [.null]) (C := "LogDesk$Block") (T := F_Bl) (N := 1) hx hb htg hin_Bl t_Bl t_Bl_ok hown (htg _ k_32) (htg _ k_352) (htg _ k_13) hK hP hD hS hA rfl (fun j hj => by rcases (show j = 0 by omega) with rfl <;> rfl) (by omega) (by omega) d_Ri_set_26 (fun q_2 H hP hD hS => ?_)
      have hP := hP.swap
      have hD := hD.swap
      have hP : va_P (dC, dI) vwCl ([(h0, .inr (4, [.ref h1])), (h1, .inl (cQ, 32, .inr (.inr (.inr (.inr g))))), (q_2, .inr (0, [.null]))] ++ pl) H := hP
      have hD : va_D A ([(h0, .inr (4, [.ref h1])), (h1, .inl (cQ, 32, .inr (.inr (.inr (.inr g))))), (q_2, .inr (0, [.null]))] ++ pl) := hD
      refine lv_dup hx hb d_Ri_set_29 rfl ?_
      refine zxq_v (wr := [(h0, .inr (4, [.ref h1])), (h1, .inl (cQ, 32, .inr (.inr (.inr (.inr g)))))]) (va_runIN (As := []) (rest := [.ref q_2]) ⟨hx, hb, hml, hown, htg⟩ (c_Bl_init l dC dI cB cI cJ cZ cQ q_2 H.size) ⟨va_cnB 0 htg (gw_I k_355) rfl rfl rfl (hZ.1 (.methodLinkNest "LogDesk$Ring" 25 y_Bl_init "LogDesk") (by simp [nzW])) (htg _ k_13) (by decide +kernel) ⟨Nat.le_of_ble_eq_true rfl, Nat.le_of_ble_eq_true rfl⟩, rfl, htg _ k_354⟩ (zPreS hK hP hD hZ [2] rfl (by decide)) rfl rfl hl.1 rfl (lv_room (Nat.le_of_ble_eq_true rfl)) d_Ri_set_30 ⟨by omega, by omega⟩) hP hD hS hA [2] [0, 1] rfl rfl (by decide) (by decide) rfl (fun uu_5 hq_4 H locs hP hD hS => ?_)
      obtain ⟨q1_3, rfl⟩ : ∃ z, z = uu_5 := ⟨_, rfl⟩
      try dsimp only at hq_4
      have hP : va_P (dC, dI) vwCl ([(h0, .inr (4, [.ref h1])), (h1, .inl (cQ, 32, .inr (.inr (.inr (.inr g))))), (q_2, .inr (0, [.ref q1_3])), (q1_3, .inl (cB, 500, .inl (fun j => iZ (Int.bmod ((fun _ => 0) j) 256))))] ++ pl) H := hP
      have hD : va_D A ([(h0, .inr (4, [.ref h1])), (h1, .inl (cQ, 32, .inr (.inr (.inr (.inr g))))), (q_2, .inr (0, [.ref q1_3])), (q1_3, .inl (cB, 500, .inl (fun j => iZ (Int.bmod ((fun _ => 0) j) 256))))] ++ pl) := hD
      refine lv_astore (lv' := [(4, .ref q_2), (3, .int (iZ ((x / 500) % 32))), (0, .ref h0), (1, .int (iZ x)), (2, .int (iZ v))]) hx hb d_Ri_set_33 hl (by decide) rfl (fun ls hl => ?_)
      refine lv_aload_n hx hb d_Ri_set_35 rfl (lv_at hl 2 rfl) ?_
      refine va_get (D := (dC, dI)) (ci := 4) (v := .ref h1) (C := "LogDesk$Ring") (T := F_Ri) (N := 1) hx hb htg hin_Ri hown hK hP 0 rfl rfl 0 (by decide) (htg _ k_34) (fun _ h9 => h9) rfl d_Ri_set_36 ?_
      refine lv_iload_n hx hb d_Ri_set_39 rfl (lv_at hl 1 rfl) ?_
      refine lv_aload hx hb d_Ri_set_40 (lv_at hl 0 rfl) ?_
      refine va_astq hx hb hK hP hD hS 1 4 2 0 rfl rfl rfl rfl (iZ_in (by omega) (by omega) (by omega)) d_Ri_set_42 (fun H locs hP hD hS => ?_)
      rw [iZ_cl (by omega) (by omega)] at hP hD
      have hP : va_P (dC, dI) vwCl ([(h0, .inr (4, [.ref h1])), (h1, .inl (cQ, 32, .inr (.inr (.inr (.inr (va_up g (x / 500 % 32).toNat (some q_2))))))), (q_2, .inr (0, [.ref q1_3])), (q1_3, .inl (cB, 500, .inl (fun j => iZ (Int.bmod ((fun _ => 0) j) 256))))] ++ pl) H := hP
      have hD : va_D A ([(h0, .inr (4, [.ref h1])), (h1, .inl (cQ, 32, .inr (.inr (.inr (.inr (va_up g (x / 500 % 32).toNat (some q_2))))))), (q_2, .inr (0, [.ref q1_3])), (q1_3, .inl (cB, 500, .inl (fun j => iZ (Int.bmod ((fun _ => 0) j) 256))))] ++ pl) := hD
      have hP := hP.part (cx := [(h0, .inr (4, [.ref h1])), (h1, .inl (cQ, 32, .inr (.inr (.inr (.inr (va_up g (x / 500 % 32).toNat (some q_2))))))), (q_2, .inr (0, [.ref q1_3])), (q1_3, .inl (cB, 500, .inl (fun j => iZ (Int.bmod ((fun _ => 0) j) 256))))]) [0, 1, 2, 3] rfl
      have hD := hD.part (cx := [(h0, .inr (4, [.ref h1])), (h1, .inl (cQ, 32, .inr (.inr (.inr (.inr (va_up g (x / 500 % 32).toNat (some q_2))))))), (q_2, .inr (0, [.ref q1_3])), (q1_3, .inl (cB, 500, .inl (fun j => iZ (Int.bmod ((fun _ => 0) j) 256))))]) [0, 1, 2, 3] (by decide) rfl
      have hP : va_P (dC, dI) vwCl (([(h0, .inr (4, [.ref h1])), (h1, .inl (cQ, 32, .inr (.inr (.inr (.inr (va_up g (x / 500 % 32).toNat (some q_2)))))))] ++ [(q_2, .inr (0, [.ref q1_3])), (q1_3, .inl (cB, 500, .inl (fun j => iZ (Int.bmod ((fun _ => 0) j) 256))))]) ++ pl) H := hP
      have hD : va_D A (([(h0, .inr (4, [.ref h1])), (h1, .inl (cQ, 32, .inr (.inr (.inr (.inr (va_up g (x / 500 % 32).toNat (some q_2)))))))] ++ [(q_2, .inr (0, [.ref q1_3])), (q1_3, .inl (cB, 500, .inl (fun j => iZ (Int.bmod ((fun _ => 0) j) 256))))]) ++ pl) := hD
      have hP := hP.swap
      have hD := hD.swap
      rw [List.append_assoc] at hP hD
      have hP : va_P (dC, dI) vwCl ([(h0, .inr (4, [.ref h1])), (h1, .inl (cQ, 32, .inr (.inr (.inr (.inr (va_up g (x / 500 % 32).toNat (some q_2)))))))] ++ (pl ++ [(q_2, .inr (0, [.ref q1_3])), (q1_3, .inl (cB, 500, .inl (fun j => iZ (Int.bmod ((fun _ => 0) j) 256))))])) H := hP
      have hD : va_D A ([(h0, .inr (4, [.ref h1])), (h1, .inl (cQ, 32, .inr (.inr (.inr (.inr (va_up g (x / 500 % 32).toNat (some q_2)))))))] ++ (pl ++ [(q_2, .inr (0, [.ref q1_3])), (q1_3, .inl (cB, 500, .inl (fun j => iZ (Int.bmod ((fun _ => 0) j) 256))))])) := hD
      have hR := rk_new hR q_2 q1_3 hk (by omega)
      have hk : va_up al (x / 500 % 32).toNat true (x / 500 % 32).toNat = true := va_up_self _ _ _
      obtain ⟨bk, ck, fk, i1, i2, hgk, hi1, hi2, huk⟩ := rk_get hR [(h0, .inr (4, [.ref h1])), (h1, .inl (cQ, 32, .inr (.inr (.inr (.inr (va_up g (x / 500 % 32).toNat (some q_2)))))))] hk (by omega)
      rw [va_up_self] at hgk
      obtain rfl : q_2 = bk := Option.some.inj hgk
      have hgk : va_up g (x / 500 % 32).toNat (some q_2) (x / 500 % 32).toNat = some q_2 := va_up_self _ _ _
      refine lv_aload hx hb d_Ri_set_43 (lv_at hl 0 rfl) ?_
      refine va_getN (D := (dC, dI)) (ci := 0) (v := .ref ck) (C := "LogDesk$Block") (T := F_Bl) (N := 1) hx hb htg hin_Bl hown hK hP i1 hi1 rfl 0 (by decide) (va_Nw.use rfl (hZ.2.1 (.fieldLinkNest "LogDesk$Ring" 21 "LogDesk$Block" "cells" "[B" "LogDesk") (by simp [nzF]))) (fun _ h9 => h9) rfl d_Ri_set_45 ?_
      refine lv_iload_n hx hb d_Ri_set_48 rfl (lv_at hl 3 rfl) ?_
      refine lv_sipush (v := iZ 500) hx hb d_Ri_set_49 (by decide) ?_
      refine zz_irem hx hb (by omega) (by omega) (by omega) (by omega) d_Ri_set_52 ?_
      refine lv_iload_n hx hb d_Ri_set_53 rfl (lv_at hl 4 rfl) ?_
      refine zz_i2b hx hb d_Ri_set_54 ?_
      refine zz_bast hx hb hK hP hD hS i2 0 hi2 rfl (by omega) (by omega) (by omega) d_Ri_set_55 (fun H locs hP hD9 hS => ?_)
      obtain ⟨pl2, hR2, hP, hD⟩ := rk_put hR hk (by omega) (by omega) hgk hi1 hi2 hD hP
      have hix : (x % 16000).toNat = (x / 500 % 32).toNat * 500 + (x % 500).toNat := by omega
      refine W.widen (k := (2 * (cal (aP al x) 32 - cal al 32))) (n := (501 * (cal (aP al x) 32 - cal al 32))) (by omega) (by omega) ?_
      exact W.vret hx hb hr (fun t ht hW => ⟨⟨(pl2, (va_up g (x / 500 % 32).toNat (some q_2))), rfl, by unfold aP uP; rw [hix]; exact hR2, by rw [ht]; exact hP, va_K.moved hW.alike hK, hAe ▸ hD⟩, hAe ▸ hS.F ht⟩) (hAe ▸ hS.2.2) d_Ri_set_56
  · exfalso; omega
end
section
set_option maxHeartbeats 4000000 in
set_option maxRecDepth 100000 in
/-- Ri_init -/
theorem c_Ri_init (l : Launch) (dC : Nat → ClassId) (dI : Nat → Nat → Nat) (cB : ClassId) (cI : ClassId) (cJ : ClassId) (cZ : ClassId) (cQ : ClassId) (h0 : Nat) (sz : Nat) : Met l y_Ri_init ((Cond.code y_Ri_init prog_6_method_1_code 1 none) :: gw) ({ frames := 1, cells := 1, slots := 32, locals := 13 } : Room) (zPc (dC, dI) [(cB, .byte), (cI, .int), (cJ, .long), (cZ, .boolean), (cQ, .object "LogDesk$Block")] [.ref h0] [(h0, .inr (4, [.null]))] sz) (va_Qv (fun (q : Nat) => True) (zBx (dC, dI) [(cB, .byte), (cI, .int), (cJ, .long), (cZ, .boolean), (cQ, .object "LogDesk$Block")] (va_A [(h0, .inr (4, [.null]))] sz) (fun (q : Nat) => [(h0, .inr (4, [.ref q])), (q, .inl (cQ, 32, .inr (.inr (.inr (.inr (fun _ => none))))))])) (va_A [(h0, .inr (4, [.null]))] sz)) 1 32 (va_A [(h0, .inr (4, [.null]))] sz) := by
  refine Met.ofW (cc := prog_6_method_1_code) (maxL := 1) (ret := none) (by decide) rfl ?_
  intro p e s m args below meth c s₁ B hml hv
  obtain ⟨rfl, hsz, hP, hK, hD0, hZ⟩ := hv
  have hx := B.exec
  have hb := B.bytes
  have hr := B.returns
  have hts := atoms_spec (ws := (Cond.code y_Ri_init prog_6_method_1_code 1 none) :: gw) B.pre
  have htg : ∀ w ∈ gw, w.before _ s = true := fun w h => hts w (List.mem_cons_of_mem _ h)
  have hown : s.vm.findClass "LogDesk$Ring" = some m.cls := findClass_of_methodNamed B.named
  have hlocks := B.notSynchronized
  have hin : meth.name = "<init>" := (name_of_methodNamed B.named B.method).1
  subst hsz
  have hD := hD0.self (sz := s.heap.size)
  generalize hAe : va_A [(h0, .inr (4, [.null]))] s.heap.size = A at hD ⊢
  have hRc : (headSpec ((Cond.code y_Ri_init prog_6_method_1_code 1 none) :: gw) ({ frames := 1, cells := 1, slots := 32, locals := 13 } : Room)).room.cells = 1 := rfl
  have hRs : (headSpec ((Cond.code y_Ri_init prog_6_method_1_code 1 none) :: gw) ({ frames := 1, cells := 1, slots := 32, locals := 13 } : Room)).room.slots = 32 := rfl
  have hA : ∀ q : Nat, s.heap.size ≤ q → A q := fun q h => by rw [← hAe]; exact Or.inr h
  have hS : va_S A s.heap s.heap [] := va_S.rf
  have hP : va_P (dC, dI) vwCl [(h0, .inr (4, [.null]))] s.heap := hP
  have hl := lv_entry ([.ref h0]) (n := 1) (Nat.le_of_ble_eq_true rfl)
  rw [lg_entry_eq]
  generalize (lg_sl ([.ref h0]) ++ List.replicate (1 - (lg_sl ([.ref h0])).length) Slot.unset).toArray = ls at hl ⊢
  have hl : lv_has ls 1 [(0, .ref h0)] := hl
  refine lv_aload_n hx hb d_Ri_init_0 rfl (lv_at hl 0 rfl) ?_
  refine W.objInit hx hb hown (htg _ k_31) (htg _ k_24) (htg _ k_25) rfl (by rw [hml]; exact hl.1) rfl d_Ri_init_1 (Nat.le_of_ble_eq_true rfl) (Nat.le_of_ble_eq_true rfl) ?_
  refine W.eq (g2 := F0 m 4 ls []) rfl ?_
  refine lv_aload_n hx hb d_Ri_init_4 rfl (lv_at hl 0 rfl) ?_
  refine lv_bipush (v := iZ 32) hx hb d_Ri_init_5 (by decide) ?_
  refine va_newq hx hb hown (htg _ k_32) hZ.2.2 hK hP hD hS hA (N' := 32) (by decide) (by decide) (by decide) (by omega) (by omega) d_Ri_init_7 (fun q_1 ca_2 H hK9 hP hD hS => ?_)
  obtain rfl : cQ = ca_2 := tyU hK9 (i := 4) (j := 5) rfl rfl
  have hK := hK9.sub (tys' := [(cB, .byte), (cI, .int), (cJ, .long), (cZ, .boolean), (cQ, .object "LogDesk$Block")]) [0, 1, 2, 3, 4] rfl
  have hP : va_P (dC, dI) vwCl [(h0, .inr (4, [.null])), (q_1, .inl (cQ, 32, .inr (.inr (.inr (.inr (fun _ => none))))))] H := hP
  have hD : va_D A [(h0, .inr (4, [.null])), (q_1, .inl (cQ, 32, .inr (.inr (.inr (.inr (fun _ => none))))))] := hD
  refine va_putF (D := (dC, dI)) (ci := 4) (v := .ref q_1) (ty := t_Ri 0) (C := "LogDesk$Ring") (T := F_Ri) (N := 1) hx hb htg hin_Ri t_Ri t_Ri_ok n_Ri hown hK hP hD hS 0 rfl rfl 0 (by decide) (htg _ k_34) (fun _ h9 => h9) rfl hin rfl (by decide +kernel) rfl rfl (Nat.le_of_ble_eq_true rfl) d_Ri_init_10 (fun H locs hP hD hS => ?_)
  have hP : va_P (dC, dI) vwCl [(h0, .inr (4, [.ref q_1])), (q_1, .inl (cQ, 32, .inr (.inr (.inr (.inr (fun _ => none))))))] H := hP
  have hD : va_D A [(h0, .inr (4, [.ref q_1])), (q_1, .inl (cQ, 32, .inr (.inr (.inr (.inr (fun _ => none))))))] := hD
  refine W.widen (k := 1) (n := 32) (by omega) (by omega) ?_
  exact W.vret hx hb hr (fun t ht hW => ⟨⟨(q_1), rfl, trivial, by rw [ht]; exact hP, va_K.moved hW.alike hK, hAe ▸ hD⟩, hAe ▸ hS.F ht⟩) (hAe ▸ hS.2.2) d_Ri_init_13
set_option maxHeartbeats 4000000 in
set_option maxRecDepth 100000 in
/-- Ha_init -/
theorem c_Ha_init (l : Launch) (dC : Nat → ClassId) (dI : Nat → Nat → Nat) (cB : ClassId) (cI : ClassId) (cJ : ClassId) (cZ : ClassId) (cQ : ClassId) (h0 : Nat) (sz : Nat) : Met l y_Ha_init ((Cond.code y_Ha_init prog_4_method_1_code 1 none) :: gw) ({ frames := 1, cells := 1, slots := 600, locals := 13 } : Room) (zPc (dC, dI) [(cB, .byte), (cI, .int), (cJ, .long), (cZ, .boolean), (cQ, .object "LogDesk$Block")] [.ref h0] [(h0, .inr (2, [.null, .int (iZ 0)]))] sz) (va_Qv (fun (q : Nat) => True) (zBx (dC, dI) [(cB, .byte), (cI, .int), (cJ, .long), (cZ, .boolean), (cQ, .object "LogDesk$Block")] (va_A [(h0, .inr (2, [.null, .int (iZ 0)]))] sz) (fun (q : Nat) => [(h0, .inr (2, [.ref q, .int (iZ 0)])), (q, .inl (cB, 600, .inl (fun j => iZ (Int.bmod ((fun _ => 0) j) 256))))])) (va_A [(h0, .inr (2, [.null, .int (iZ 0)]))] sz)) 1 600 (va_A [(h0, .inr (2, [.null, .int (iZ 0)]))] sz) := by
  refine Met.ofW (cc := prog_4_method_1_code) (maxL := 1) (ret := none) (by decide) rfl ?_
  intro p e s m args below meth c s₁ B hml hv
  obtain ⟨rfl, hsz, hP, hK, hD0, hZ⟩ := hv
  have hx := B.exec
  have hb := B.bytes
  have hr := B.returns
  have hts := atoms_spec (ws := (Cond.code y_Ha_init prog_4_method_1_code 1 none) :: gw) B.pre
  have htg : ∀ w ∈ gw, w.before _ s = true := fun w h => hts w (List.mem_cons_of_mem _ h)
  have hown : s.vm.findClass "LogDesk$Hand" = some m.cls := findClass_of_methodNamed B.named
  have hlocks := B.notSynchronized
  have hin : meth.name = "<init>" := (name_of_methodNamed B.named B.method).1
  subst hsz
  have hD := hD0.self (sz := s.heap.size)
  generalize hAe : va_A [(h0, .inr (2, [.null, .int (iZ 0)]))] s.heap.size = A at hD ⊢
  have hRc : (headSpec ((Cond.code y_Ha_init prog_4_method_1_code 1 none) :: gw) ({ frames := 1, cells := 1, slots := 600, locals := 13 } : Room)).room.cells = 1 := rfl
  have hRs : (headSpec ((Cond.code y_Ha_init prog_4_method_1_code 1 none) :: gw) ({ frames := 1, cells := 1, slots := 600, locals := 13 } : Room)).room.slots = 600 := rfl
  have hA : ∀ q : Nat, s.heap.size ≤ q → A q := fun q h => by rw [← hAe]; exact Or.inr h
  have hS : va_S A s.heap s.heap [] := va_S.rf
  have hP : va_P (dC, dI) vwCl [(h0, .inr (2, [.null, .int (iZ 0)]))] s.heap := hP
  have hl := lv_entry ([.ref h0]) (n := 1) (Nat.le_of_ble_eq_true rfl)
  rw [lg_entry_eq]
  generalize (lg_sl ([.ref h0]) ++ List.replicate (1 - (lg_sl ([.ref h0])).length) Slot.unset).toArray = ls at hl ⊢
  have hl : lv_has ls 1 [(0, .ref h0)] := hl
  refine lv_aload_n hx hb d_Ha_init_0 rfl (lv_at hl 0 rfl) ?_
  refine W.objInit hx hb hown (htg _ k_43) (htg _ k_24) (htg _ k_25) rfl (by rw [hml]; exact hl.1) rfl d_Ha_init_1 (Nat.le_of_ble_eq_true rfl) (Nat.le_of_ble_eq_true rfl) ?_
  refine W.eq (g2 := F0 m 4 ls []) rfl ?_
  refine lv_aload_n hx hb d_Ha_init_4 rfl (lv_at hl 0 rfl) ?_
  refine lv_sipush (v := iZ 600) hx hb d_Ha_init_5 (by decide) ?_
  refine va_newa (atype := .byte) (ty := .byte) (a0 := (600, (.inl (fun _ => 0)))) hx hb (htg _ k_51) rfl hK hP hD hS hA (fun _ => rfl) (by decide) (by decide) (by decide) (by omega) (by omega) d_Ha_init_8 (fun q_1 ca_2 H hK9 hP hD hS => ?_)
  obtain rfl : cB = ca_2 := tyU hK9 (i := 0) (j := 5) rfl rfl
  have hK := hK9.sub (tys' := [(cB, .byte), (cI, .int), (cJ, .long), (cZ, .boolean), (cQ, .object "LogDesk$Block")]) [0, 1, 2, 3, 4] rfl
  have hP : va_P (dC, dI) vwCl [(h0, .inr (2, [.null, .int (iZ 0)])), (q_1, .inl (cB, 600, .inl (fun j => iZ (Int.bmod ((fun _ => 0) j) 256))))] H := hP
  have hD : va_D A [(h0, .inr (2, [.null, .int (iZ 0)])), (q_1, .inl (cB, 600, .inl (fun j => iZ (Int.bmod ((fun _ => 0) j) 256))))] := hD
  refine va_putF (D := (dC, dI)) (ci := 2) (v := .ref q_1) (ty := t_Ha 0) (C := "LogDesk$Hand") (T := F_Ha) (N := 2) hx hb htg hin_Ha t_Ha t_Ha_ok n_Ha hown hK hP hD hS 0 rfl rfl 0 (by decide) (htg _ k_44) (fun _ h9 => h9) rfl hin rfl (by decide +kernel) rfl rfl (Nat.le_of_ble_eq_true rfl) d_Ha_init_10 (fun H locs hP hD hS => ?_)
  have hP : va_P (dC, dI) vwCl [(h0, .inr (2, [.ref q_1, .int (iZ 0)])), (q_1, .inl (cB, 600, .inl (fun j => iZ (Int.bmod ((fun _ => 0) j) 256))))] H := hP
  have hD : va_D A [(h0, .inr (2, [.ref q_1, .int (iZ 0)])), (q_1, .inl (cB, 600, .inl (fun j => iZ (Int.bmod ((fun _ => 0) j) 256))))] := hD
  refine W.widen (k := 1) (n := 600) (by omega) (by omega) ?_
  exact W.vret hx hb hr (fun t ht hW => ⟨⟨(q_1), rfl, trivial, by rw [ht]; exact hP, va_K.moved hW.alike hK, hAe ▸ hD⟩, hAe ▸ hS.F ht⟩) (hAe ▸ hS.2.2) d_Ha_init_13
set_option maxHeartbeats 4000000 in
set_option maxRecDepth 100000 in
/-- Wa_init -/
theorem c_Wa_init (l : Launch) (dC : Nat → ClassId) (dI : Nat → Nat → Nat) (cB : ClassId) (cI : ClassId) (cJ : ClassId) (cZ : ClassId) (cQ : ClassId) (h0 : Nat) (sz : Nat) : Met l y_Wa_init ((Cond.code y_Wa_init prog_7_method_1_code 1 none) :: gw) ({ frames := 1, cells := 1, slots := 6, locals := 13 } : Room) (zPc (dC, dI) [(cB, .byte), (cI, .int), (cJ, .long), (cZ, .boolean), (cQ, .object "LogDesk$Block")] [.ref h0] [(h0, .inr (5, [.null]))] sz) (va_Qv (fun (q : Nat) => True) (zBx (dC, dI) [(cB, .byte), (cI, .int), (cJ, .long), (cZ, .boolean), (cQ, .object "LogDesk$Block")] (va_A [(h0, .inr (5, [.null]))] sz) (fun (q : Nat) => [(h0, .inr (5, [.ref q])), (q, .inl (cI, 6, .inl (fun j => iZ ((fun _ => 0) j))))])) (va_A [(h0, .inr (5, [.null]))] sz)) 1 6 (va_A [(h0, .inr (5, [.null]))] sz) := by
  refine Met.ofW (cc := prog_7_method_1_code) (maxL := 1) (ret := none) (by decide) rfl ?_
  intro p e s m args below meth c s₁ B hml hv
  obtain ⟨rfl, hsz, hP, hK, hD0, hZ⟩ := hv
  have hx := B.exec
  have hb := B.bytes
  have hr := B.returns
  have hts := atoms_spec (ws := (Cond.code y_Wa_init prog_7_method_1_code 1 none) :: gw) B.pre
  have htg : ∀ w ∈ gw, w.before _ s = true := fun w h => hts w (List.mem_cons_of_mem _ h)
  have hown : s.vm.findClass "LogDesk$Waiting" = some m.cls := findClass_of_methodNamed B.named
  have hlocks := B.notSynchronized
  have hin : meth.name = "<init>" := (name_of_methodNamed B.named B.method).1
  subst hsz
  have hD := hD0.self (sz := s.heap.size)
  generalize hAe : va_A [(h0, .inr (5, [.null]))] s.heap.size = A at hD ⊢
  have hRc : (headSpec ((Cond.code y_Wa_init prog_7_method_1_code 1 none) :: gw) ({ frames := 1, cells := 1, slots := 6, locals := 13 } : Room)).room.cells = 1 := rfl
  have hRs : (headSpec ((Cond.code y_Wa_init prog_7_method_1_code 1 none) :: gw) ({ frames := 1, cells := 1, slots := 6, locals := 13 } : Room)).room.slots = 6 := rfl
  have hA : ∀ q : Nat, s.heap.size ≤ q → A q := fun q h => by rw [← hAe]; exact Or.inr h
  have hS : va_S A s.heap s.heap [] := va_S.rf
  have hP : va_P (dC, dI) vwCl [(h0, .inr (5, [.null]))] s.heap := hP
  have hl := lv_entry ([.ref h0]) (n := 1) (Nat.le_of_ble_eq_true rfl)
  rw [lg_entry_eq]
  generalize (lg_sl ([.ref h0]) ++ List.replicate (1 - (lg_sl ([.ref h0])).length) Slot.unset).toArray = ls at hl ⊢
  have hl : lv_has ls 1 [(0, .ref h0)] := hl
  refine lv_aload_n hx hb d_Wa_init_0 rfl (lv_at hl 0 rfl) ?_
  refine W.objInit hx hb hown (htg _ k_57) (htg _ k_24) (htg _ k_25) rfl (by rw [hml]; exact hl.1) rfl d_Wa_init_1 (Nat.le_of_ble_eq_true rfl) (Nat.le_of_ble_eq_true rfl) ?_
  refine W.eq (g2 := F0 m 4 ls []) rfl ?_
  refine lv_aload_n hx hb d_Wa_init_4 rfl (lv_at hl 0 rfl) ?_
  refine lv_bipush (v := iZ 6) hx hb d_Wa_init_5 (by decide) ?_
  refine va_newa (atype := .int) (ty := .int) (a0 := (6, (.inl (fun _ => 0)))) hx hb (htg _ k_62) rfl hK hP hD hS hA (fun _ => rfl) (by decide) (by decide) (by decide) (by omega) (by omega) d_Wa_init_7 (fun q_1 ca_2 H hK9 hP hD hS => ?_)
  obtain rfl : cI = ca_2 := tyU hK9 (i := 1) (j := 5) rfl rfl
  have hK := hK9.sub (tys' := [(cB, .byte), (cI, .int), (cJ, .long), (cZ, .boolean), (cQ, .object "LogDesk$Block")]) [0, 1, 2, 3, 4] rfl
  have hP : va_P (dC, dI) vwCl [(h0, .inr (5, [.null])), (q_1, .inl (cI, 6, .inl (fun j => iZ ((fun _ => 0) j))))] H := hP
  have hD : va_D A [(h0, .inr (5, [.null])), (q_1, .inl (cI, 6, .inl (fun j => iZ ((fun _ => 0) j))))] := hD
  refine va_putF (D := (dC, dI)) (ci := 5) (v := .ref q_1) (ty := t_Wa 0) (C := "LogDesk$Waiting") (T := F_Wa) (N := 1) hx hb htg hin_Wa t_Wa t_Wa_ok n_Wa hown hK hP hD hS 0 rfl rfl 0 (by decide) (htg _ k_58) (fun _ h9 => h9) rfl hin rfl (by decide +kernel) rfl rfl (Nat.le_of_ble_eq_true rfl) d_Wa_init_9 (fun H locs hP hD hS => ?_)
  have hP : va_P (dC, dI) vwCl [(h0, .inr (5, [.ref q_1])), (q_1, .inl (cI, 6, .inl (fun j => iZ ((fun _ => 0) j))))] H := hP
  have hD : va_D A [(h0, .inr (5, [.ref q_1])), (q_1, .inl (cI, 6, .inl (fun j => iZ ((fun _ => 0) j))))] := hD
  refine W.widen (k := 1) (n := 6) (by omega) (by omega) ?_
  exact W.vret hx hb hr (fun t ht hW => ⟨⟨(q_1), rfl, trivial, by rw [ht]; exact hP, va_K.moved hW.alike hK, hAe ▸ hD⟩, hAe ▸ hS.F ht⟩) (hAe ▸ hS.2.2) d_Wa_init_12
set_option maxHeartbeats 4000000 in
set_option maxRecDepth 100000 in
/-- Pa_init -/
theorem c_Pa_init (l : Launch) (dC : Nat → ClassId) (dI : Nat → Nat → Nat) (cB : ClassId) (cI : ClassId) (cJ : ClassId) (cZ : ClassId) (cQ : ClassId) (h0 : Nat) (sz : Nat) : Met l y_Pa_init ((Cond.code y_Pa_init prog_5_method_1_code 1 none) :: gw) ({ frames := 1, cells := 1, slots := 32, locals := 13 } : Room) (zPc (dC, dI) [(cB, .byte), (cI, .int), (cJ, .long), (cZ, .boolean), (cQ, .object "LogDesk$Block")] [.ref h0] [(h0, .inr (3, [.null, .int (iZ 0)]))] sz) (va_Qv (fun (q : Nat) => True) (zBx (dC, dI) [(cB, .byte), (cI, .int), (cJ, .long), (cZ, .boolean), (cQ, .object "LogDesk$Block")] (va_A [(h0, .inr (3, [.null, .int (iZ 0)]))] sz) (fun (q : Nat) => [(h0, .inr (3, [.ref q, .int (iZ 0)])), (q, .inl (cJ, 32, .inr (.inl (fun _ => 0))))])) (va_A [(h0, .inr (3, [.null, .int (iZ 0)]))] sz)) 1 32 (va_A [(h0, .inr (3, [.null, .int (iZ 0)]))] sz) := by
  refine Met.ofW (cc := prog_5_method_1_code) (maxL := 1) (ret := none) (by decide) rfl ?_
  intro p e s m args below meth c s₁ B hml hv
  obtain ⟨rfl, hsz, hP, hK, hD0, hZ⟩ := hv
  have hx := B.exec
  have hb := B.bytes
  have hr := B.returns
  have hts := atoms_spec (ws := (Cond.code y_Pa_init prog_5_method_1_code 1 none) :: gw) B.pre
  have htg : ∀ w ∈ gw, w.before _ s = true := fun w h => hts w (List.mem_cons_of_mem _ h)
  have hown : s.vm.findClass "LogDesk$Pages" = some m.cls := findClass_of_methodNamed B.named
  have hlocks := B.notSynchronized
  have hin : meth.name = "<init>" := (name_of_methodNamed B.named B.method).1
  subst hsz
  have hD := hD0.self (sz := s.heap.size)
  generalize hAe : va_A [(h0, .inr (3, [.null, .int (iZ 0)]))] s.heap.size = A at hD ⊢
  have hRc : (headSpec ((Cond.code y_Pa_init prog_5_method_1_code 1 none) :: gw) ({ frames := 1, cells := 1, slots := 32, locals := 13 } : Room)).room.cells = 1 := rfl
  have hRs : (headSpec ((Cond.code y_Pa_init prog_5_method_1_code 1 none) :: gw) ({ frames := 1, cells := 1, slots := 32, locals := 13 } : Room)).room.slots = 32 := rfl
  have hA : ∀ q : Nat, s.heap.size ≤ q → A q := fun q h => by rw [← hAe]; exact Or.inr h
  have hS : va_S A s.heap s.heap [] := va_S.rf
  have hP : va_P (dC, dI) vwCl [(h0, .inr (3, [.null, .int (iZ 0)]))] s.heap := hP
  have hl := lv_entry ([.ref h0]) (n := 1) (Nat.le_of_ble_eq_true rfl)
  rw [lg_entry_eq]
  generalize (lg_sl ([.ref h0]) ++ List.replicate (1 - (lg_sl ([.ref h0])).length) Slot.unset).toArray = ls at hl ⊢
  have hl : lv_has ls 1 [(0, .ref h0)] := hl
  refine lv_aload_n hx hb d_Pa_init_0 rfl (lv_at hl 0 rfl) ?_
  refine W.objInit hx hb hown (htg _ k_68) (htg _ k_24) (htg _ k_25) rfl (by rw [hml]; exact hl.1) rfl d_Pa_init_1 (Nat.le_of_ble_eq_true rfl) (Nat.le_of_ble_eq_true rfl) ?_
  refine W.eq (g2 := F0 m 4 ls []) rfl ?_
  refine lv_aload_n hx hb d_Pa_init_4 rfl (lv_at hl 0 rfl) ?_
  refine lv_bipush (v := iZ 32) hx hb d_Pa_init_5 (by decide) ?_
  refine va_newa (atype := .long) (ty := .long) (a0 := (32, (.inr (.inl (fun _ => 0))))) hx hb (htg _ k_76) rfl hK hP hD hS hA (fun _ => rfl) (by decide) (by decide) (by decide) (by omega) (by omega) d_Pa_init_7 (fun q_1 ca_2 H hK9 hP hD hS => ?_)
  obtain rfl : cJ = ca_2 := tyU hK9 (i := 2) (j := 5) rfl rfl
  have hK := hK9.sub (tys' := [(cB, .byte), (cI, .int), (cJ, .long), (cZ, .boolean), (cQ, .object "LogDesk$Block")]) [0, 1, 2, 3, 4] rfl
  have hP : va_P (dC, dI) vwCl [(h0, .inr (3, [.null, .int (iZ 0)])), (q_1, .inl (cJ, 32, .inr (.inl (fun _ => 0))))] H := hP
  have hD : va_D A [(h0, .inr (3, [.null, .int (iZ 0)])), (q_1, .inl (cJ, 32, .inr (.inl (fun _ => 0))))] := hD
  refine va_putF (D := (dC, dI)) (ci := 3) (v := .ref q_1) (ty := t_Pa 0) (C := "LogDesk$Pages") (T := F_Pa) (N := 2) hx hb htg hin_Pa t_Pa t_Pa_ok n_Pa hown hK hP hD hS 0 rfl rfl 0 (by decide) (htg _ k_69) (fun _ h9 => h9) rfl hin rfl (by decide +kernel) rfl rfl (Nat.le_of_ble_eq_true rfl) d_Pa_init_9 (fun H locs hP hD hS => ?_)
  have hP : va_P (dC, dI) vwCl [(h0, .inr (3, [.ref q_1, .int (iZ 0)])), (q_1, .inl (cJ, 32, .inr (.inl (fun _ => 0))))] H := hP
  have hD : va_D A [(h0, .inr (3, [.ref q_1, .int (iZ 0)])), (q_1, .inl (cJ, 32, .inr (.inl (fun _ => 0))))] := hD
  refine W.widen (k := 1) (n := 32) (by omega) (by omega) ?_
  exact W.vret hx hb hr (fun t ht hW => ⟨⟨(q_1), rfl, trivial, by rw [ht]; exact hP, va_K.moved hW.alike hK, hAe ▸ hD⟩, hAe ▸ hS.F ht⟩) (hAe ▸ hS.2.2) d_Pa_init_12
set_option maxHeartbeats 4000000 in
set_option maxRecDepth 100000 in
/-- Disk() -/
theorem c_Di_init (l : Launch) (dC : Nat → ClassId) (dI : Nat → Nat → Nat) (cB : ClassId) (cI : ClassId) (cJ : ClassId) (cZ : ClassId) (cQ : ClassId) (h0 : Nat) (sz : Nat) : Met l y_Di_init ((Cond.code y_Di_init prog_3_method_1_code 1 none) :: gw) ({ frames := 1, cells := 0, slots := 0, locals := 13 } : Room) (zPc (dC, dI) [(cB, .byte), (cI, .int), (cJ, .long), (cZ, .boolean), (cQ, .object "LogDesk$Block")] [.ref h0] [(h0, .inr (1, [.int (iZ 0), .int (iZ 0)]))] sz) (va_Qv (fun (_ : Unit) => True) (zB (dC, dI) [(cB, .byte), (cI, .int), (cJ, .long), (cZ, .boolean), (cQ, .object "LogDesk$Block")] (va_A [(h0, .inr (1, [.int (iZ 0), .int (iZ 0)]))] sz) [(h0, .inr (1, [.int (iZ 0), .int (iZ (-1))]))]) (va_A [(h0, .inr (1, [.int (iZ 0), .int (iZ 0)]))] sz)) 0 0 (va_A [(h0, .inr (1, [.int (iZ 0), .int (iZ 0)]))] sz) := by
  refine Met.ofW (cc := prog_3_method_1_code) (maxL := 1) (ret := none) (by decide) rfl ?_
  intro p e s m args below meth c s₁ B hml hv
  obtain ⟨rfl, hsz, hP, hK, hD0, hZ⟩ := hv
  have hx := B.exec
  have hb := B.bytes
  have hr := B.returns
  have hts := atoms_spec (ws := (Cond.code y_Di_init prog_3_method_1_code 1 none) :: gw) B.pre
  have htg : ∀ w ∈ gw, w.before _ s = true := fun w h => hts w (List.mem_cons_of_mem _ h)
  have hown : s.vm.findClass "LogDesk$Disk" = some m.cls := findClass_of_methodNamed B.named
  have hlocks := B.notSynchronized
  have hin : meth.name = "<init>" := (name_of_methodNamed B.named B.method).1
  subst hsz
  have hD := hD0.self (sz := s.heap.size)
  generalize hAe : va_A [(h0, .inr (1, [.int (iZ 0), .int (iZ 0)]))] s.heap.size = A at hD ⊢
  have hRc : (headSpec ((Cond.code y_Di_init prog_3_method_1_code 1 none) :: gw) ({ frames := 1, cells := 0, slots := 0, locals := 13 } : Room)).room.cells = 0 := rfl
  have hRs : (headSpec ((Cond.code y_Di_init prog_3_method_1_code 1 none) :: gw) ({ frames := 1, cells := 0, slots := 0, locals := 13 } : Room)).room.slots = 0 := rfl
  have hA : ∀ q : Nat, s.heap.size ≤ q → A q := fun q h => by rw [← hAe]; exact Or.inr h
  have hS : va_S A s.heap s.heap [] := va_S.rf
  have hP : va_P (dC, dI) vwCl [(h0, .inr (1, [.int (iZ 0), .int (iZ 0)]))] s.heap := hP
  have hl := lv_entry ([.ref h0]) (n := 1) (Nat.le_of_ble_eq_true rfl)
  rw [lg_entry_eq]
  generalize (lg_sl ([.ref h0]) ++ List.replicate (1 - (lg_sl ([.ref h0])).length) Slot.unset).toArray = ls at hl ⊢
  have hl : lv_has ls 1 [(0, .ref h0)] := hl
  refine lv_aload_n hx hb d_Di_init_0 rfl (lv_at hl 0 rfl) ?_
  refine W.objInit hx hb hown (htg _ k_82) (htg _ k_24) (htg _ k_25) rfl (by rw [hml]; exact hl.1) rfl d_Di_init_1 (Nat.le_of_ble_eq_true rfl) (Nat.le_of_ble_eq_true rfl) ?_
  refine W.eq (g2 := F0 m 4 ls []) rfl ?_
  refine lv_aload_n hx hb d_Di_init_4 rfl (lv_at hl 0 rfl) ?_
  refine lv_iconst (v := iZ (-1)) hx hb d_Di_init_5 rfl ?_
  refine va_put (D := (dC, dI)) (ci := 1) (v := .int (iZ (-1))) (ty := t_Di 1) (C := "LogDesk$Disk") (T := F_Di) (N := 2) hx hb htg hin_Di t_Di t_Di_ok n_Di hown hK hP hD hS 0 rfl rfl 1 (by decide) (htg _ k_84) (fun _ h9 => h9) rfl (by decide +kernel) rfl rfl (Nat.le_of_ble_eq_true rfl) d_Di_init_6 (fun H locs hP hD hS => ?_)
  have hP : va_P (dC, dI) vwCl [(h0, .inr (1, [.int (iZ 0), .int (iZ (-1))]))] H := hP
  have hD : va_D A [(h0, .inr (1, [.int (iZ 0), .int (iZ (-1))]))] := hD
  exact W.vret hx hb hr (fun t ht hW => ⟨⟨(), rfl, trivial, by rw [ht]; exact hP, va_K.moved hW.alike hK, hAe ▸ hD⟩, hAe ▸ hS.F ht⟩) (hAe ▸ hS.2.2) d_Di_init_9
set_option maxHeartbeats 4000000 in
set_option maxRecDepth 100000 in
/-- LogDesk(blocks) -/
theorem c_De_init (l : Launch) (dC : Nat → ClassId) (dI : Nat → Nat → Nat) (cB : ClassId) (cI : ClassId) (cJ : ClassId) (cZ : ClassId) (cQ : ClassId) (h0 : Nat) (sz : Nat) (x : Int) (hx0 : iB x) : Met l y_De_init ((Cond.code y_De_init prog_1_method_1_code 2 none) :: gw) ({ frames := 2, cells := 9, slots := 678, locals := 33 } : Room) (zPc (dC, dI) [(cB, .byte), (cI, .int), (cJ, .long), (cZ, .boolean), (cQ, .object "LogDesk$Block")] [.ref h0, .int (iZ x)] [(h0, .inr (6, [.int (iZ 0), .null, .null, .null, .null, .null, .int (iZ 0), .int (iZ 0), .int (iZ 0), .int (iZ 0)]))] sz) (va_Qv (fun (q : Nat × Nat × Nat × Nat × Nat × Nat × Nat × Nat × Nat) => True) (zBx (dC, dI) [(cB, .byte), (cI, .int), (cJ, .long), (cZ, .boolean), (cQ, .object "LogDesk$Block")] (va_A [(h0, .inr (6, [.int (iZ 0), .null, .null, .null, .null, .null, .int (iZ 0), .int (iZ 0), .int (iZ 0), .int (iZ 0)]))] sz) (fun (q : Nat × Nat × Nat × Nat × Nat × Nat × Nat × Nat × Nat) => [(h0, .inr (6, [.int (iZ (if 3 ≤ x ∧ x ≤ 32 then x else 32)), .ref q.1, .ref q.2.2.1, .ref q.2.2.2.2.1, .ref q.2.2.2.2.2.2.1, .ref q.2.2.2.2.2.2.2.2, .int (iZ 0), .int (iZ 0), .int (iZ 0), .int (iZ (-1))])), (q.1, .inr (4, [.ref q.2.1])), (q.2.1, .inl (cQ, 32, .inr (.inr (.inr (.inr (fun _ => none)))))), (q.2.2.1, .inr (2, [.ref q.2.2.2.1, .int (iZ 0)])), (q.2.2.2.1, .inl (cB, 600, .inl (fun j => iZ (Int.bmod ((fun _ => 0) j) 256)))), (q.2.2.2.2.1, .inr (5, [.ref q.2.2.2.2.2.1])), (q.2.2.2.2.2.1, .inl (cI, 6, .inl (fun j => iZ ((fun _ => 0) j)))), (q.2.2.2.2.2.2.1, .inr (3, [.ref q.2.2.2.2.2.2.2.1, .int (iZ 0)])), (q.2.2.2.2.2.2.2.1, .inl (cJ, 32, .inr (.inl (fun _ => 0)))), (q.2.2.2.2.2.2.2.2, .inr (1, [.int (iZ 0), .int (iZ (-1))]))])) (va_A [(h0, .inr (6, [.int (iZ 0), .null, .null, .null, .null, .null, .int (iZ 0), .int (iZ 0), .int (iZ 0), .int (iZ 0)]))] sz)) 9 678 (va_A [(h0, .inr (6, [.int (iZ 0), .null, .null, .null, .null, .null, .int (iZ 0), .int (iZ 0), .int (iZ 0), .int (iZ 0)]))] sz) := by
  refine Met.ofW (cc := prog_1_method_1_code) (maxL := 2) (ret := none) (by decide) rfl ?_
  intro p e s m args below meth c s₁ B hml hv
  obtain ⟨rfl, hsz, hP, hK, hD0, hZ⟩ := hv
  have hx := B.exec
  have hb := B.bytes
  have hr := B.returns
  have hts := atoms_spec (ws := (Cond.code y_De_init prog_1_method_1_code 2 none) :: gw) B.pre
  have htg : ∀ w ∈ gw, w.before _ s = true := fun w h => hts w (List.mem_cons_of_mem _ h)
  have hown : s.vm.findClass "LogDesk" = some m.cls := findClass_of_methodNamed B.named
  have hlocks := B.notSynchronized
  have hin : meth.name = "<init>" := (name_of_methodNamed B.named B.method).1
  subst hsz
  have hD := hD0.self (sz := s.heap.size)
  generalize hAe : va_A [(h0, .inr (6, [.int (iZ 0), .null, .null, .null, .null, .null, .int (iZ 0), .int (iZ 0), .int (iZ 0), .int (iZ 0)]))] s.heap.size = A at hD ⊢
  have hRc : (headSpec ((Cond.code y_De_init prog_1_method_1_code 2 none) :: gw) ({ frames := 2, cells := 9, slots := 678, locals := 33 } : Room)).room.cells = 9 := rfl
  have hRs : (headSpec ((Cond.code y_De_init prog_1_method_1_code 2 none) :: gw) ({ frames := 2, cells := 9, slots := 678, locals := 33 } : Room)).room.slots = 678 := rfl
  have hA : ∀ q : Nat, s.heap.size ≤ q → A q := fun q h => by rw [← hAe]; exact Or.inr h
  have hS : va_S A s.heap s.heap [] := va_S.rf
  have hP : va_P (dC, dI) vwCl [(h0, .inr (6, [.int (iZ 0), .null, .null, .null, .null, .null, .int (iZ 0), .int (iZ 0), .int (iZ 0), .int (iZ 0)]))] s.heap := hP
  have hl := lv_entry ([.ref h0, .int (iZ x)]) (n := 2) (Nat.le_of_ble_eq_true rfl)
  rw [lg_entry_eq]
  generalize (lg_sl ([.ref h0, .int (iZ x)]) ++ List.replicate (2 - (lg_sl ([.ref h0, .int (iZ x)])).length) Slot.unset).toArray = ls at hl ⊢
  have hl : lv_has ls 2 [(0, .ref h0), (1, .int (iZ x))] := hl
  obtain ⟨hx1, hx2⟩ := hx0
  refine lv_aload_n hx hb d_De_init_0 rfl (lv_at hl 0 rfl) ?_
  refine W.objInit hx hb hown (htg _ k_23) (htg _ k_24) (htg _ k_25) rfl (by rw [hml]; exact hl.1) rfl d_De_init_1 (Nat.le_of_ble_eq_true rfl) (Nat.le_of_ble_eq_true rfl) ?_
  refine W.eq (g2 := F0 m 4 ls []) rfl ?_
  refine lv_aload_n hx hb d_De_init_4 rfl (lv_at hl 0 rfl) ?_
  refine va_new (ci := 4) (fs := [.null]) (C := "LogDesk$Ring") (T := F_Ri) (N := 1) hx hb htg hin_Ri t_Ri t_Ri_ok hown (htg _ k_26) (htg _ k_27) (htg _ k_2) hK hP hD hS hA rfl (fun j hj => by rcases (show j = 0 by omega) with rfl <;> rfl) (by omega) (by omega) d_De_init_5 (fun q_1 H hP hD hS => ?_)
  have hP : va_P (dC, dI) vwCl [(h0, .inr (6, [.int (iZ 0), .null, .null, .null, .null, .null, .int (iZ 0), .int (iZ 0), .int (iZ 0), .int (iZ 0)])), (q_1, .inr (4, [.null]))] H := hP
  have hD : va_D A [(h0, .inr (6, [.int (iZ 0), .null, .null, .null, .null, .null, .int (iZ 0), .int (iZ 0), .int (iZ 0), .int (iZ 0)])), (q_1, .inr (4, [.null]))] := hD
  refine lv_dup hx hb d_De_init_8 rfl ?_
  refine zx_v (wr := [(h0, .inr (6, [.int (iZ 0), .null, .null, .null, .null, .null, .int (iZ 0), .int (iZ 0), .int (iZ 0), .int (iZ 0)]))]) (va_runIN (As := []) (rest := [.ref q_1, .ref h0]) ⟨hx, hb, hml, hown, htg⟩ (c_Ri_init l dC dI cB cI cJ cZ cQ q_1 H.size) ⟨va_cnB 0 htg (gw_I k_30) rfl rfl rfl (hZ.1 (.methodLinkNest "LogDesk" 11 y_Ri_init "LogDesk") (by simp [nzW])) (htg _ k_2) (by decide +kernel) ⟨Nat.le_of_ble_eq_true rfl, Nat.le_of_ble_eq_true rfl⟩, rfl, htg _ k_29⟩ (zPreS hK hP hD hZ [1] rfl (by decide)) rfl rfl hl.1 rfl (lv_room (Nat.le_of_ble_eq_true rfl)) d_De_init_9 ⟨by omega, by omega⟩) hP hD hS hA [1] [0] rfl rfl (by decide) (by decide) (fun uu_4 hq_3 H locs hP hD hS => ?_)
  obtain ⟨q1_2, rfl⟩ : ∃ z, z = uu_4 := ⟨_, rfl⟩
  try dsimp only at hq_3
  have hP : va_P (dC, dI) vwCl [(h0, .inr (6, [.int (iZ 0), .null, .null, .null, .null, .null, .int (iZ 0), .int (iZ 0), .int (iZ 0), .int (iZ 0)])), (q_1, .inr (4, [.ref q1_2])), (q1_2, .inl (cQ, 32, .inr (.inr (.inr (.inr (fun _ => none))))))] H := hP
  have hD : va_D A [(h0, .inr (6, [.int (iZ 0), .null, .null, .null, .null, .null, .int (iZ 0), .int (iZ 0), .int (iZ 0), .int (iZ 0)])), (q_1, .inr (4, [.ref q1_2])), (q1_2, .inl (cQ, 32, .inr (.inr (.inr (.inr (fun _ => none))))))] := hD
  refine va_putF (D := (dC, dI)) (ci := 6) (v := .ref q_1) (ty := t_De 1) (C := "LogDesk") (T := F_De) (N := 10) hx hb htg hin_De t_De t_De_ok n_De hown hK hP hD hS 0 rfl rfl 1 (by decide) (htg _ k_91) (fun _ h9 => h9) rfl hin rfl (by decide +kernel) rfl rfl (Nat.le_of_ble_eq_true rfl) d_De_init_12 (fun H locs hP hD hS => ?_)
  have hP : va_P (dC, dI) vwCl [(h0, .inr (6, [.int (iZ 0), .ref q_1, .null, .null, .null, .null, .int (iZ 0), .int (iZ 0), .int (iZ 0), .int (iZ 0)])), (q_1, .inr (4, [.ref q1_2])), (q1_2, .inl (cQ, 32, .inr (.inr (.inr (.inr (fun _ => none))))))] H := hP
  have hD : va_D A [(h0, .inr (6, [.int (iZ 0), .ref q_1, .null, .null, .null, .null, .int (iZ 0), .int (iZ 0), .int (iZ 0), .int (iZ 0)])), (q_1, .inr (4, [.ref q1_2])), (q1_2, .inl (cQ, 32, .inr (.inr (.inr (.inr (fun _ => none))))))] := hD
  refine lv_aload_n hx hb d_De_init_15 rfl (lv_at hl 0 rfl) ?_
  refine va_new (ci := 2) (fs := [.null, .int (iZ 0)]) (C := "LogDesk$Hand") (T := F_Ha) (N := 2) hx hb htg hin_Ha t_Ha t_Ha_ok hown (htg _ k_38) (htg _ k_39) (htg _ k_3) hK hP hD hS hA rfl (fun j hj => by rcases (show j = 0 ∨ j = 1 by omega) with rfl | rfl <;> rfl) (by omega) (by omega) d_De_init_16 (fun q_5 H hP hD hS => ?_)
  have hP : va_P (dC, dI) vwCl [(h0, .inr (6, [.int (iZ 0), .ref q_1, .null, .null, .null, .null, .int (iZ 0), .int (iZ 0), .int (iZ 0), .int (iZ 0)])), (q_1, .inr (4, [.ref q1_2])), (q1_2, .inl (cQ, 32, .inr (.inr (.inr (.inr (fun _ => none)))))), (q_5, .inr (2, [.null, .int (iZ 0)]))] H := hP
  have hD : va_D A [(h0, .inr (6, [.int (iZ 0), .ref q_1, .null, .null, .null, .null, .int (iZ 0), .int (iZ 0), .int (iZ 0), .int (iZ 0)])), (q_1, .inr (4, [.ref q1_2])), (q1_2, .inl (cQ, 32, .inr (.inr (.inr (.inr (fun _ => none)))))), (q_5, .inr (2, [.null, .int (iZ 0)]))] := hD
  refine lv_dup hx hb d_De_init_19 rfl ?_
  refine zx_v (wr := [(h0, .inr (6, [.int (iZ 0), .ref q_1, .null, .null, .null, .null, .int (iZ 0), .int (iZ 0), .int (iZ 0), .int (iZ 0)])), (q_1, .inr (4, [.ref q1_2])), (q1_2, .inl (cQ, 32, .inr (.inr (.inr (.inr (fun _ => none))))))]) (va_runIN (As := []) (rest := [.ref q_5, .ref h0]) ⟨hx, hb, hml, hown, htg⟩ (c_Ha_init l dC dI cB cI cJ cZ cQ q_5 H.size) ⟨va_cnB 0 htg (gw_I k_42) rfl rfl rfl (hZ.1 (.methodLinkNest "LogDesk" 18 y_Ha_init "LogDesk") (by simp [nzW])) (htg _ k_3) (by decide +kernel) ⟨Nat.le_of_ble_eq_true rfl, Nat.le_of_ble_eq_true rfl⟩, rfl, htg _ k_41⟩ (zPreS hK hP hD hZ [3] rfl (by decide)) rfl rfl hl.1 rfl (lv_room (Nat.le_of_ble_eq_true rfl)) d_De_init_20 ⟨by omega, by omega⟩) hP hD hS hA [3] [0, 1, 2] rfl rfl (by decide) (by decide) (fun uu_8 hq_7 H locs hP hD hS => ?_)
  obtain ⟨q1_6, rfl⟩ : ∃ z, z = uu_8 := ⟨_, rfl⟩
  try dsimp only at hq_7
  have hP : va_P (dC, dI) vwCl [(h0, .inr (6, [.int (iZ 0), .ref q_1, .null, .null, .null, .null, .int (iZ 0), .int (iZ 0), .int (iZ 0), .int (iZ 0)])), (q_1, .inr (4, [.ref q1_2])), (q1_2, .inl (cQ, 32, .inr (.inr (.inr (.inr (fun _ => none)))))), (q_5, .inr (2, [.ref q1_6, .int (iZ 0)])), (q1_6, .inl (cB, 600, .inl (fun j => iZ (Int.bmod ((fun _ => 0) j) 256))))] H := hP
  have hD : va_D A [(h0, .inr (6, [.int (iZ 0), .ref q_1, .null, .null, .null, .null, .int (iZ 0), .int (iZ 0), .int (iZ 0), .int (iZ 0)])), (q_1, .inr (4, [.ref q1_2])), (q1_2, .inl (cQ, 32, .inr (.inr (.inr (.inr (fun _ => none)))))), (q_5, .inr (2, [.ref q1_6, .int (iZ 0)])), (q1_6, .inl (cB, 600, .inl (fun j => iZ (Int.bmod ((fun _ => 0) j) 256))))] := hD
  refine va_putF (D := (dC, dI)) (ci := 6) (v := .ref q_5) (ty := t_De 2) (C := "LogDesk") (T := F_De) (N := 10) hx hb htg hin_De t_De t_De_ok n_De hown hK hP hD hS 0 rfl rfl 2 (by decide) (htg _ k_92) (fun _ h9 => h9) rfl hin rfl (by decide +kernel) rfl rfl (Nat.le_of_ble_eq_true rfl) d_De_init_23 (fun H locs hP hD hS => ?_)
  have hP : va_P (dC, dI) vwCl [(h0, .inr (6, [.int (iZ 0), .ref q_1, .ref q_5, .null, .null, .null, .int (iZ 0), .int (iZ 0), .int (iZ 0), .int (iZ 0)])), (q_1, .inr (4, [.ref q1_2])), (q1_2, .inl (cQ, 32, .inr (.inr (.inr (.inr (fun _ => none)))))), (q_5, .inr (2, [.ref q1_6, .int (iZ 0)])), (q1_6, .inl (cB, 600, .inl (fun j => iZ (Int.bmod ((fun _ => 0) j) 256))))] H := hP
  have hD : va_D A [(h0, .inr (6, [.int (iZ 0), .ref q_1, .ref q_5, .null, .null, .null, .int (iZ 0), .int (iZ 0), .int (iZ 0), .int (iZ 0)])), (q_1, .inr (4, [.ref q1_2])), (q1_2, .inl (cQ, 32, .inr (.inr (.inr (.inr (fun _ => none)))))), (q_5, .inr (2, [.ref q1_6, .int (iZ 0)])), (q1_6, .inl (cB, 600, .inl (fun j => iZ (Int.bmod ((fun _ => 0) j) 256))))] := hD
  refine lv_aload_n hx hb d_De_init_26 rfl (lv_at hl 0 rfl) ?_
  refine va_new (ci := 5) (fs := [.null]) (C := "LogDesk$Waiting") (T := F_Wa) (N := 1) hx hb htg hin_Wa t_Wa t_Wa_ok hown (htg _ k_52) (htg _ k_53) (htg _ k_4) hK hP hD hS hA rfl (fun j hj => by rcases (show j = 0 by omega) with rfl <;> rfl) (by omega) (by omega) d_De_init_27 (fun q_9 H hP hD hS => ?_)
  have hP : va_P (dC, dI) vwCl [(h0, .inr (6, [.int (iZ 0), .ref q_1, .ref q_5, .null, .null, .null, .int (iZ 0), .int (iZ 0), .int (iZ 0), .int (iZ 0)])), (q_1, .inr (4, [.ref q1_2])), (q1_2, .inl (cQ, 32, .inr (.inr (.inr (.inr (fun _ => none)))))), (q_5, .inr (2, [.ref q1_6, .int (iZ 0)])), (q1_6, .inl (cB, 600, .inl (fun j => iZ (Int.bmod ((fun _ => 0) j) 256)))), (q_9, .inr (5, [.null]))] H := hP
  have hD : va_D A [(h0, .inr (6, [.int (iZ 0), .ref q_1, .ref q_5, .null, .null, .null, .int (iZ 0), .int (iZ 0), .int (iZ 0), .int (iZ 0)])), (q_1, .inr (4, [.ref q1_2])), (q1_2, .inl (cQ, 32, .inr (.inr (.inr (.inr (fun _ => none)))))), (q_5, .inr (2, [.ref q1_6, .int (iZ 0)])), (q1_6, .inl (cB, 600, .inl (fun j => iZ (Int.bmod ((fun _ => 0) j) 256)))), (q_9, .inr (5, [.null]))] := hD
  refine lv_dup hx hb d_De_init_30 rfl ?_
  refine zx_v (wr := [(h0, .inr (6, [.int (iZ 0), .ref q_1, .ref q_5, .null, .null, .null, .int (iZ 0), .int (iZ 0), .int (iZ 0), .int (iZ 0)])), (q_1, .inr (4, [.ref q1_2])), (q1_2, .inl (cQ, 32, .inr (.inr (.inr (.inr (fun _ => none)))))), (q_5, .inr (2, [.ref q1_6, .int (iZ 0)])), (q1_6, .inl (cB, 600, .inl (fun j => iZ (Int.bmod ((fun _ => 0) j) 256))))]) (va_runIN (As := []) (rest := [.ref q_9, .ref h0]) ⟨hx, hb, hml, hown, htg⟩ (c_Wa_init l dC dI cB cI cJ cZ cQ q_9 H.size) ⟨va_cnB 0 htg (gw_I k_56) rfl rfl rfl (hZ.1 (.methodLinkNest "LogDesk" 25 y_Wa_init "LogDesk") (by simp [nzW])) (htg _ k_4) (by decide +kernel) ⟨Nat.le_of_ble_eq_true rfl, Nat.le_of_ble_eq_true rfl⟩, rfl, htg _ k_55⟩ (zPreS hK hP hD hZ [5] rfl (by decide)) rfl rfl hl.1 rfl (lv_room (Nat.le_of_ble_eq_true rfl)) d_De_init_31 ⟨by omega, by omega⟩) hP hD hS hA [5] [0, 1, 2, 3, 4] rfl rfl (by decide) (by decide) (fun uu_12 hq_11 H locs hP hD hS => ?_)
  obtain ⟨q1_10, rfl⟩ : ∃ z, z = uu_12 := ⟨_, rfl⟩
  try dsimp only at hq_11
  have hP : va_P (dC, dI) vwCl [(h0, .inr (6, [.int (iZ 0), .ref q_1, .ref q_5, .null, .null, .null, .int (iZ 0), .int (iZ 0), .int (iZ 0), .int (iZ 0)])), (q_1, .inr (4, [.ref q1_2])), (q1_2, .inl (cQ, 32, .inr (.inr (.inr (.inr (fun _ => none)))))), (q_5, .inr (2, [.ref q1_6, .int (iZ 0)])), (q1_6, .inl (cB, 600, .inl (fun j => iZ (Int.bmod ((fun _ => 0) j) 256)))), (q_9, .inr (5, [.ref q1_10])), (q1_10, .inl (cI, 6, .inl (fun j => iZ ((fun _ => 0) j))))] H := hP
  have hD : va_D A [(h0, .inr (6, [.int (iZ 0), .ref q_1, .ref q_5, .null, .null, .null, .int (iZ 0), .int (iZ 0), .int (iZ 0), .int (iZ 0)])), (q_1, .inr (4, [.ref q1_2])), (q1_2, .inl (cQ, 32, .inr (.inr (.inr (.inr (fun _ => none)))))), (q_5, .inr (2, [.ref q1_6, .int (iZ 0)])), (q1_6, .inl (cB, 600, .inl (fun j => iZ (Int.bmod ((fun _ => 0) j) 256)))), (q_9, .inr (5, [.ref q1_10])), (q1_10, .inl (cI, 6, .inl (fun j => iZ ((fun _ => 0) j))))] := hD
  refine va_putF (D := (dC, dI)) (ci := 6) (v := .ref q_9) (ty := t_De 3) (C := "LogDesk") (T := F_De) (N := 10) hx hb htg hin_De t_De t_De_ok n_De hown hK hP hD hS 0 rfl rfl 3 (by decide) (htg _ k_93) (fun _ h9 => h9) rfl hin rfl (by decide +kernel) rfl rfl (Nat.le_of_ble_eq_true rfl) d_De_init_34 (fun H locs hP hD hS => ?_)
  have hP : va_P (dC, dI) vwCl [(h0, .inr (6, [.int (iZ 0), .ref q_1, .ref q_5, .ref q_9, .null, .null, .int (iZ 0), .int (iZ 0), .int (iZ 0), .int (iZ 0)])), (q_1, .inr (4, [.ref q1_2])), (q1_2, .inl (cQ, 32, .inr (.inr (.inr (.inr (fun _ => none)))))), (q_5, .inr (2, [.ref q1_6, .int (iZ 0)])), (q1_6, .inl (cB, 600, .inl (fun j => iZ (Int.bmod ((fun _ => 0) j) 256)))), (q_9, .inr (5, [.ref q1_10])), (q1_10, .inl (cI, 6, .inl (fun j => iZ ((fun _ => 0) j))))] H := hP
  have hD : va_D A [(h0, .inr (6, [.int (iZ 0), .ref q_1, .ref q_5, .ref q_9, .null, .null, .int (iZ 0), .int (iZ 0), .int (iZ 0), .int (iZ 0)])), (q_1, .inr (4, [.ref q1_2])), (q1_2, .inl (cQ, 32, .inr (.inr (.inr (.inr (fun _ => none)))))), (q_5, .inr (2, [.ref q1_6, .int (iZ 0)])), (q1_6, .inl (cB, 600, .inl (fun j => iZ (Int.bmod ((fun _ => 0) j) 256)))), (q_9, .inr (5, [.ref q1_10])), (q1_10, .inl (cI, 6, .inl (fun j => iZ ((fun _ => 0) j))))] := hD
  refine lv_aload_n hx hb d_De_init_37 rfl (lv_at hl 0 rfl) ?_
  refine va_new (ci := 3) (fs := [.null, .int (iZ 0)]) (C := "LogDesk$Pages") (T := F_Pa) (N := 2) hx hb htg hin_Pa t_Pa t_Pa_ok hown (htg _ k_63) (htg _ k_64) (htg _ k_5) hK hP hD hS hA rfl (fun j hj => by rcases (show j = 0 ∨ j = 1 by omega) with rfl | rfl <;> rfl) (by omega) (by omega) d_De_init_38 (fun q_13 H hP hD hS => ?_)
  have hP : va_P (dC, dI) vwCl [(h0, .inr (6, [.int (iZ 0), .ref q_1, .ref q_5, .ref q_9, .null, .null, .int (iZ 0), .int (iZ 0), .int (iZ 0), .int (iZ 0)])), (q_1, .inr (4, [.ref q1_2])), (q1_2, .inl (cQ, 32, .inr (.inr (.inr (.inr (fun _ => none)))))), (q_5, .inr (2, [.ref q1_6, .int (iZ 0)])), (q1_6, .inl (cB, 600, .inl (fun j => iZ (Int.bmod ((fun _ => 0) j) 256)))), (q_9, .inr (5, [.ref q1_10])), (q1_10, .inl (cI, 6, .inl (fun j => iZ ((fun _ => 0) j)))), (q_13, .inr (3, [.null, .int (iZ 0)]))] H := hP
  have hD : va_D A [(h0, .inr (6, [.int (iZ 0), .ref q_1, .ref q_5, .ref q_9, .null, .null, .int (iZ 0), .int (iZ 0), .int (iZ 0), .int (iZ 0)])), (q_1, .inr (4, [.ref q1_2])), (q1_2, .inl (cQ, 32, .inr (.inr (.inr (.inr (fun _ => none)))))), (q_5, .inr (2, [.ref q1_6, .int (iZ 0)])), (q1_6, .inl (cB, 600, .inl (fun j => iZ (Int.bmod ((fun _ => 0) j) 256)))), (q_9, .inr (5, [.ref q1_10])), (q1_10, .inl (cI, 6, .inl (fun j => iZ ((fun _ => 0) j)))), (q_13, .inr (3, [.null, .int (iZ 0)]))] := hD
  refine lv_dup hx hb d_De_init_41 rfl ?_
  refine zx_v (wr := [(h0, .inr (6, [.int (iZ 0), .ref q_1, .ref q_5, .ref q_9, .null, .null, .int (iZ 0), .int (iZ 0), .int (iZ 0), .int (iZ 0)])), (q_1, .inr (4, [.ref q1_2])), (q1_2, .inl (cQ, 32, .inr (.inr (.inr (.inr (fun _ => none)))))), (q_5, .inr (2, [.ref q1_6, .int (iZ 0)])), (q1_6, .inl (cB, 600, .inl (fun j => iZ (Int.bmod ((fun _ => 0) j) 256)))), (q_9, .inr (5, [.ref q1_10])), (q1_10, .inl (cI, 6, .inl (fun j => iZ ((fun _ => 0) j))))]) (va_runIN (As := []) (rest := [.ref q_13, .ref h0]) ⟨hx, hb, hml, hown, htg⟩ (c_Pa_init l dC dI cB cI cJ cZ cQ q_13 H.size) ⟨va_cnB 0 htg (gw_I k_67) rfl rfl rfl (hZ.1 (.methodLinkNest "LogDesk" 32 y_Pa_init "LogDesk") (by simp [nzW])) (htg _ k_5) (by decide +kernel) ⟨Nat.le_of_ble_eq_true rfl, Nat.le_of_ble_eq_true rfl⟩, rfl, htg _ k_66⟩ (zPreS hK hP hD hZ [7] rfl (by decide)) rfl rfl hl.1 rfl (lv_room (Nat.le_of_ble_eq_true rfl)) d_De_init_42 ⟨by omega, by omega⟩) hP hD hS hA [7] [0, 1, 2, 3, 4, 5, 6] rfl rfl (by decide) (by decide) (fun uu_16 hq_15 H locs hP hD hS => ?_)
  obtain ⟨q1_14, rfl⟩ : ∃ z, z = uu_16 := ⟨_, rfl⟩
  try dsimp only at hq_15
  have hP : va_P (dC, dI) vwCl [(h0, .inr (6, [.int (iZ 0), .ref q_1, .ref q_5, .ref q_9, .null, .null, .int (iZ 0), .int (iZ 0), .int (iZ 0), .int (iZ 0)])), (q_1, .inr (4, [.ref q1_2])), (q1_2, .inl (cQ, 32, .inr (.inr (.inr (.inr (fun _ => none)))))), (q_5, .inr (2, [.ref q1_6, .int (iZ 0)])), (q1_6, .inl (cB, 600, .inl (fun j => iZ (Int.bmod ((fun _ => 0) j) 256)))), (q_9, .inr (5, [.ref q1_10])), (q1_10, .inl (cI, 6, .inl (fun j => iZ ((fun _ => 0) j)))), (q_13, .inr (3, [.ref q1_14, .int (iZ 0)])), (q1_14, .inl (cJ, 32, .inr (.inl (fun _ => 0))))] H := hP
  have hD : va_D A [(h0, .inr (6, [.int (iZ 0), .ref q_1, .ref q_5, .ref q_9, .null, .null, .int (iZ 0), .int (iZ 0), .int (iZ 0), .int (iZ 0)])), (q_1, .inr (4, [.ref q1_2])), (q1_2, .inl (cQ, 32, .inr (.inr (.inr (.inr (fun _ => none)))))), (q_5, .inr (2, [.ref q1_6, .int (iZ 0)])), (q1_6, .inl (cB, 600, .inl (fun j => iZ (Int.bmod ((fun _ => 0) j) 256)))), (q_9, .inr (5, [.ref q1_10])), (q1_10, .inl (cI, 6, .inl (fun j => iZ ((fun _ => 0) j)))), (q_13, .inr (3, [.ref q1_14, .int (iZ 0)])), (q1_14, .inl (cJ, 32, .inr (.inl (fun _ => 0))))] := hD
  refine va_putF (D := (dC, dI)) (ci := 6) (v := .ref q_13) (ty := t_De 4) (C := "LogDesk") (T := F_De) (N := 10) hx hb htg hin_De t_De t_De_ok n_De hown hK hP hD hS 0 rfl rfl 4 (by decide) (htg _ k_94) (fun _ h9 => h9) rfl hin rfl (by decide +kernel) rfl rfl (Nat.le_of_ble_eq_true rfl) d_De_init_45 (fun H locs hP hD hS => ?_)
  have hP : va_P (dC, dI) vwCl [(h0, .inr (6, [.int (iZ 0), .ref q_1, .ref q_5, .ref q_9, .ref q_13, .null, .int (iZ 0), .int (iZ 0), .int (iZ 0), .int (iZ 0)])), (q_1, .inr (4, [.ref q1_2])), (q1_2, .inl (cQ, 32, .inr (.inr (.inr (.inr (fun _ => none)))))), (q_5, .inr (2, [.ref q1_6, .int (iZ 0)])), (q1_6, .inl (cB, 600, .inl (fun j => iZ (Int.bmod ((fun _ => 0) j) 256)))), (q_9, .inr (5, [.ref q1_10])), (q1_10, .inl (cI, 6, .inl (fun j => iZ ((fun _ => 0) j)))), (q_13, .inr (3, [.ref q1_14, .int (iZ 0)])), (q1_14, .inl (cJ, 32, .inr (.inl (fun _ => 0))))] H := hP
  have hD : va_D A [(h0, .inr (6, [.int (iZ 0), .ref q_1, .ref q_5, .ref q_9, .ref q_13, .null, .int (iZ 0), .int (iZ 0), .int (iZ 0), .int (iZ 0)])), (q_1, .inr (4, [.ref q1_2])), (q1_2, .inl (cQ, 32, .inr (.inr (.inr (.inr (fun _ => none)))))), (q_5, .inr (2, [.ref q1_6, .int (iZ 0)])), (q1_6, .inl (cB, 600, .inl (fun j => iZ (Int.bmod ((fun _ => 0) j) 256)))), (q_9, .inr (5, [.ref q1_10])), (q1_10, .inl (cI, 6, .inl (fun j => iZ ((fun _ => 0) j)))), (q_13, .inr (3, [.ref q1_14, .int (iZ 0)])), (q1_14, .inl (cJ, 32, .inr (.inl (fun _ => 0))))] := hD
  refine lv_aload_n hx hb d_De_init_48 rfl (lv_at hl 0 rfl) ?_
  refine va_new (ci := 1) (fs := [.int (iZ 0), .int (iZ 0)]) (C := "LogDesk$Disk") (T := F_Di) (N := 2) hx hb htg hin_Di t_Di t_Di_ok hown (htg _ k_77) (htg _ k_78) (htg _ k_6) hK hP hD hS hA rfl (fun j hj => by rcases (show j = 0 ∨ j = 1 by omega) with rfl | rfl <;> rfl) (by omega) (by omega) d_De_init_49 (fun q_17 H hP hD hS => ?_)
  have hP : va_P (dC, dI) vwCl [(h0, .inr (6, [.int (iZ 0), .ref q_1, .ref q_5, .ref q_9, .ref q_13, .null, .int (iZ 0), .int (iZ 0), .int (iZ 0), .int (iZ 0)])), (q_1, .inr (4, [.ref q1_2])), (q1_2, .inl (cQ, 32, .inr (.inr (.inr (.inr (fun _ => none)))))), (q_5, .inr (2, [.ref q1_6, .int (iZ 0)])), (q1_6, .inl (cB, 600, .inl (fun j => iZ (Int.bmod ((fun _ => 0) j) 256)))), (q_9, .inr (5, [.ref q1_10])), (q1_10, .inl (cI, 6, .inl (fun j => iZ ((fun _ => 0) j)))), (q_13, .inr (3, [.ref q1_14, .int (iZ 0)])), (q1_14, .inl (cJ, 32, .inr (.inl (fun _ => 0)))), (q_17, .inr (1, [.int (iZ 0), .int (iZ 0)]))] H := hP
  have hD : va_D A [(h0, .inr (6, [.int (iZ 0), .ref q_1, .ref q_5, .ref q_9, .ref q_13, .null, .int (iZ 0), .int (iZ 0), .int (iZ 0), .int (iZ 0)])), (q_1, .inr (4, [.ref q1_2])), (q1_2, .inl (cQ, 32, .inr (.inr (.inr (.inr (fun _ => none)))))), (q_5, .inr (2, [.ref q1_6, .int (iZ 0)])), (q1_6, .inl (cB, 600, .inl (fun j => iZ (Int.bmod ((fun _ => 0) j) 256)))), (q_9, .inr (5, [.ref q1_10])), (q1_10, .inl (cI, 6, .inl (fun j => iZ ((fun _ => 0) j)))), (q_13, .inr (3, [.ref q1_14, .int (iZ 0)])), (q1_14, .inl (cJ, 32, .inr (.inl (fun _ => 0)))), (q_17, .inr (1, [.int (iZ 0), .int (iZ 0)]))] := hD
  refine lv_dup hx hb d_De_init_52 rfl ?_
  refine z_v (wr := [(h0, .inr (6, [.int (iZ 0), .ref q_1, .ref q_5, .ref q_9, .ref q_13, .null, .int (iZ 0), .int (iZ 0), .int (iZ 0), .int (iZ 0)])), (q_1, .inr (4, [.ref q1_2])), (q1_2, .inl (cQ, 32, .inr (.inr (.inr (.inr (fun _ => none)))))), (q_5, .inr (2, [.ref q1_6, .int (iZ 0)])), (q1_6, .inl (cB, 600, .inl (fun j => iZ (Int.bmod ((fun _ => 0) j) 256)))), (q_9, .inr (5, [.ref q1_10])), (q1_10, .inl (cI, 6, .inl (fun j => iZ ((fun _ => 0) j)))), (q_13, .inr (3, [.ref q1_14, .int (iZ 0)])), (q1_14, .inl (cJ, 32, .inr (.inl (fun _ => 0))))]) (va_runIN (As := []) (rest := [.ref q_17, .ref h0]) ⟨hx, hb, hml, hown, htg⟩ (c_Di_init l dC dI cB cI cJ cZ cQ q_17 H.size) ⟨va_cnB 0 htg (gw_I k_81) rfl rfl rfl (hZ.1 (.methodLinkNest "LogDesk" 39 y_Di_init "LogDesk") (by simp [nzW])) (htg _ k_6) (by decide +kernel) ⟨Nat.le_of_ble_eq_true rfl, Nat.le_of_ble_eq_true rfl⟩, rfl, htg _ k_80⟩ (zPreS hK hP hD hZ [9] rfl (by decide)) rfl rfl hl.1 rfl (lv_room (Nat.le_of_ble_eq_true rfl)) d_De_init_53 ⟨by omega, by omega⟩) hP hD hS hA [9] [0, 1, 2, 3, 4, 5, 6, 7, 8] rfl rfl (by decide) (by decide) (fun H locs hP hD hS => ?_)
  have hP : va_P (dC, dI) vwCl [(h0, .inr (6, [.int (iZ 0), .ref q_1, .ref q_5, .ref q_9, .ref q_13, .null, .int (iZ 0), .int (iZ 0), .int (iZ 0), .int (iZ 0)])), (q_1, .inr (4, [.ref q1_2])), (q1_2, .inl (cQ, 32, .inr (.inr (.inr (.inr (fun _ => none)))))), (q_5, .inr (2, [.ref q1_6, .int (iZ 0)])), (q1_6, .inl (cB, 600, .inl (fun j => iZ (Int.bmod ((fun _ => 0) j) 256)))), (q_9, .inr (5, [.ref q1_10])), (q1_10, .inl (cI, 6, .inl (fun j => iZ ((fun _ => 0) j)))), (q_13, .inr (3, [.ref q1_14, .int (iZ 0)])), (q1_14, .inl (cJ, 32, .inr (.inl (fun _ => 0)))), (q_17, .inr (1, [.int (iZ 0), .int (iZ (-1))]))] H := hP
  have hD : va_D A [(h0, .inr (6, [.int (iZ 0), .ref q_1, .ref q_5, .ref q_9, .ref q_13, .null, .int (iZ 0), .int (iZ 0), .int (iZ 0), .int (iZ 0)])), (q_1, .inr (4, [.ref q1_2])), (q1_2, .inl (cQ, 32, .inr (.inr (.inr (.inr (fun _ => none)))))), (q_5, .inr (2, [.ref q1_6, .int (iZ 0)])), (q1_6, .inl (cB, 600, .inl (fun j => iZ (Int.bmod ((fun _ => 0) j) 256)))), (q_9, .inr (5, [.ref q1_10])), (q1_10, .inl (cI, 6, .inl (fun j => iZ ((fun _ => 0) j)))), (q_13, .inr (3, [.ref q1_14, .int (iZ 0)])), (q1_14, .inl (cJ, 32, .inr (.inl (fun _ => 0)))), (q_17, .inr (1, [.int (iZ 0), .int (iZ (-1))]))] := hD
  refine va_putF (D := (dC, dI)) (ci := 6) (v := .ref q_17) (ty := t_De 5) (C := "LogDesk") (T := F_De) (N := 10) hx hb htg hin_De t_De t_De_ok n_De hown hK hP hD hS 0 rfl rfl 5 (by decide) (htg _ k_95) (fun _ h9 => h9) rfl hin rfl (by decide +kernel) rfl rfl (Nat.le_of_ble_eq_true rfl) d_De_init_56 (fun H locs hP hD hS => ?_)
  have hP : va_P (dC, dI) vwCl [(h0, .inr (6, [.int (iZ 0), .ref q_1, .ref q_5, .ref q_9, .ref q_13, .ref q_17, .int (iZ 0), .int (iZ 0), .int (iZ 0), .int (iZ 0)])), (q_1, .inr (4, [.ref q1_2])), (q1_2, .inl (cQ, 32, .inr (.inr (.inr (.inr (fun _ => none)))))), (q_5, .inr (2, [.ref q1_6, .int (iZ 0)])), (q1_6, .inl (cB, 600, .inl (fun j => iZ (Int.bmod ((fun _ => 0) j) 256)))), (q_9, .inr (5, [.ref q1_10])), (q1_10, .inl (cI, 6, .inl (fun j => iZ ((fun _ => 0) j)))), (q_13, .inr (3, [.ref q1_14, .int (iZ 0)])), (q1_14, .inl (cJ, 32, .inr (.inl (fun _ => 0)))), (q_17, .inr (1, [.int (iZ 0), .int (iZ (-1))]))] H := hP
  have hD : va_D A [(h0, .inr (6, [.int (iZ 0), .ref q_1, .ref q_5, .ref q_9, .ref q_13, .ref q_17, .int (iZ 0), .int (iZ 0), .int (iZ 0), .int (iZ 0)])), (q_1, .inr (4, [.ref q1_2])), (q1_2, .inl (cQ, 32, .inr (.inr (.inr (.inr (fun _ => none)))))), (q_5, .inr (2, [.ref q1_6, .int (iZ 0)])), (q1_6, .inl (cB, 600, .inl (fun j => iZ (Int.bmod ((fun _ => 0) j) 256)))), (q_9, .inr (5, [.ref q1_10])), (q1_10, .inl (cI, 6, .inl (fun j => iZ ((fun _ => 0) j)))), (q_13, .inr (3, [.ref q1_14, .int (iZ 0)])), (q1_14, .inl (cJ, 32, .inr (.inl (fun _ => 0)))), (q_17, .inr (1, [.int (iZ 0), .int (iZ (-1))]))] := hD
  refine lv_aload_n hx hb d_De_init_59 rfl (lv_at hl 0 rfl) ?_
  refine lv_iload_n hx hb d_De_init_60 rfl (lv_at hl 1 rfl) ?_
  refine lv_iconst (v := iZ 3) hx hb d_De_init_61 rfl ?_
  refine zz_icmp_lt (tgt := 75) hx hb d_De_init_62 (by decide) ⟨by omega, by omega⟩ ⟨by omega, by omega⟩ (fun c_18 => ?_) (fun c_18 => ?_)
  · refine lv_bipush (v := iZ 32) hx hb d_De_init_75 (by decide) ?_
    refine va_putF (D := (dC, dI)) (ci := 6) (v := .int (iZ 32)) (ty := t_De 0) (C := "LogDesk") (T := F_De) (N := 10) hx hb htg hin_De t_De t_De_ok n_De hown hK hP hD hS 0 rfl rfl 0 (by decide) (htg _ k_90) (fun _ h9 => h9) rfl hin rfl (by decide +kernel) rfl rfl (Nat.le_of_ble_eq_true rfl) d_De_init_77 (fun H locs hP hD hS => ?_)
    have hP : va_P (dC, dI) vwCl [(h0, .inr (6, [.int (iZ 32), .ref q_1, .ref q_5, .ref q_9, .ref q_13, .ref q_17, .int (iZ 0), .int (iZ 0), .int (iZ 0), .int (iZ 0)])), (q_1, .inr (4, [.ref q1_2])), (q1_2, .inl (cQ, 32, .inr (.inr (.inr (.inr (fun _ => none)))))), (q_5, .inr (2, [.ref q1_6, .int (iZ 0)])), (q1_6, .inl (cB, 600, .inl (fun j => iZ (Int.bmod ((fun _ => 0) j) 256)))), (q_9, .inr (5, [.ref q1_10])), (q1_10, .inl (cI, 6, .inl (fun j => iZ ((fun _ => 0) j)))), (q_13, .inr (3, [.ref q1_14, .int (iZ 0)])), (q1_14, .inl (cJ, 32, .inr (.inl (fun _ => 0)))), (q_17, .inr (1, [.int (iZ 0), .int (iZ (-1))]))] H := hP
    have hD : va_D A [(h0, .inr (6, [.int (iZ 32), .ref q_1, .ref q_5, .ref q_9, .ref q_13, .ref q_17, .int (iZ 0), .int (iZ 0), .int (iZ 0), .int (iZ 0)])), (q_1, .inr (4, [.ref q1_2])), (q1_2, .inl (cQ, 32, .inr (.inr (.inr (.inr (fun _ => none)))))), (q_5, .inr (2, [.ref q1_6, .int (iZ 0)])), (q1_6, .inl (cB, 600, .inl (fun j => iZ (Int.bmod ((fun _ => 0) j) 256)))), (q_9, .inr (5, [.ref q1_10])), (q1_10, .inl (cI, 6, .inl (fun j => iZ ((fun _ => 0) j)))), (q_13, .inr (3, [.ref q1_14, .int (iZ 0)])), (q1_14, .inl (cJ, 32, .inr (.inl (fun _ => 0)))), (q_17, .inr (1, [.int (iZ 0), .int (iZ (-1))]))] := hD
    refine lv_aload_n hx hb d_De_init_80 rfl (lv_at hl 0 rfl) ?_
    refine lv_iconst (v := iZ (-1)) hx hb d_De_init_81 rfl ?_
    refine va_put (D := (dC, dI)) (ci := 6) (v := .int (iZ (-1))) (ty := t_De 9) (C := "LogDesk") (T := F_De) (N := 10) hx hb htg hin_De t_De t_De_ok n_De hown hK hP hD hS 0 rfl rfl 9 (by decide) (htg _ k_99) (fun _ h9 => h9) rfl (by decide +kernel) rfl rfl (Nat.le_of_ble_eq_true rfl) d_De_init_82 (fun H locs hP hD hS => ?_)
    have hP : va_P (dC, dI) vwCl [(h0, .inr (6, [.int (iZ 32), .ref q_1, .ref q_5, .ref q_9, .ref q_13, .ref q_17, .int (iZ 0), .int (iZ 0), .int (iZ 0), .int (iZ (-1))])), (q_1, .inr (4, [.ref q1_2])), (q1_2, .inl (cQ, 32, .inr (.inr (.inr (.inr (fun _ => none)))))), (q_5, .inr (2, [.ref q1_6, .int (iZ 0)])), (q1_6, .inl (cB, 600, .inl (fun j => iZ (Int.bmod ((fun _ => 0) j) 256)))), (q_9, .inr (5, [.ref q1_10])), (q1_10, .inl (cI, 6, .inl (fun j => iZ ((fun _ => 0) j)))), (q_13, .inr (3, [.ref q1_14, .int (iZ 0)])), (q1_14, .inl (cJ, 32, .inr (.inl (fun _ => 0)))), (q_17, .inr (1, [.int (iZ 0), .int (iZ (-1))]))] H := hP
    have hD : va_D A [(h0, .inr (6, [.int (iZ 32), .ref q_1, .ref q_5, .ref q_9, .ref q_13, .ref q_17, .int (iZ 0), .int (iZ 0), .int (iZ 0), .int (iZ (-1))])), (q_1, .inr (4, [.ref q1_2])), (q1_2, .inl (cQ, 32, .inr (.inr (.inr (.inr (fun _ => none)))))), (q_5, .inr (2, [.ref q1_6, .int (iZ 0)])), (q1_6, .inl (cB, 600, .inl (fun j => iZ (Int.bmod ((fun _ => 0) j) 256)))), (q_9, .inr (5, [.ref q1_10])), (q1_10, .inl (cI, 6, .inl (fun j => iZ ((fun _ => 0) j)))), (q_13, .inr (3, [.ref q1_14, .int (iZ 0)])), (q1_14, .inl (cJ, 32, .inr (.inl (fun _ => 0)))), (q_17, .inr (1, [.int (iZ 0), .int (iZ (-1))]))] := hD
    have eW : ∀ (x0 y0 : Int), x0 = y0 → ([(h0, .inr (6, [.int (iZ x0), .ref q_1, .ref q_5, .ref q_9, .ref q_13, .ref q_17, .int (iZ 0), .int (iZ 0), .int (iZ 0), .int (iZ (-1))])), (q_1, .inr (4, [.ref q1_2])), (q1_2, .inl (cQ, 32, .inr (.inr (.inr (.inr (fun _ => none)))))), (q_5, .inr (2, [.ref q1_6, .int (iZ 0)])), (q1_6, .inl (cB, 600, .inl (fun j => iZ (Int.bmod ((fun _ => 0) j) 256)))), (q_9, .inr (5, [.ref q1_10])), (q1_10, .inl (cI, 6, .inl (fun j => iZ ((fun _ => 0) j)))), (q_13, .inr (3, [.ref q1_14, .int (iZ 0)])), (q1_14, .inl (cJ, 32, .inr (.inl (fun _ => 0)))), (q_17, .inr (1, [.int (iZ 0), .int (iZ (-1))]))] : va_W) = [(h0, .inr (6, [.int (iZ y0), .ref q_1, .ref q_5, .ref q_9, .ref q_13, .ref q_17, .int (iZ 0), .int (iZ 0), .int (iZ 0), .int (iZ (-1))])), (q_1, .inr (4, [.ref q1_2])), (q1_2, .inl (cQ, 32, .inr (.inr (.inr (.inr (fun _ => none)))))), (q_5, .inr (2, [.ref q1_6, .int (iZ 0)])), (q1_6, .inl (cB, 600, .inl (fun j => iZ (Int.bmod ((fun _ => 0) j) 256)))), (q_9, .inr (5, [.ref q1_10])), (q1_10, .inl (cI, 6, .inl (fun j => iZ ((fun _ => 0) j)))), (q_13, .inr (3, [.ref q1_14, .int (iZ 0)])), (q1_14, .inl (cJ, 32, .inr (.inl (fun _ => 0)))), (q_17, .inr (1, [.int (iZ 0), .int (iZ (-1))]))] := by intros; subst_vars; rfl
    have eW := eW 32 (if 3 ≤ x ∧ x ≤ 32 then x else 32) (by omega)
    have hP : va_P (dC, dI) vwCl [(h0, .inr (6, [.int (iZ (if 3 ≤ x ∧ x ≤ 32 then x else 32)), .ref q_1, .ref q_5, .ref q_9, .ref q_13, .ref q_17, .int (iZ 0), .int (iZ 0), .int (iZ 0), .int (iZ (-1))])), (q_1, .inr (4, [.ref q1_2])), (q1_2, .inl (cQ, 32, .inr (.inr (.inr (.inr (fun _ => none)))))), (q_5, .inr (2, [.ref q1_6, .int (iZ 0)])), (q1_6, .inl (cB, 600, .inl (fun j => iZ (Int.bmod ((fun _ => 0) j) 256)))), (q_9, .inr (5, [.ref q1_10])), (q1_10, .inl (cI, 6, .inl (fun j => iZ ((fun _ => 0) j)))), (q_13, .inr (3, [.ref q1_14, .int (iZ 0)])), (q1_14, .inl (cJ, 32, .inr (.inl (fun _ => 0)))), (q_17, .inr (1, [.int (iZ 0), .int (iZ (-1))]))] H := eW ▸ hP
    have hD : va_D A [(h0, .inr (6, [.int (iZ (if 3 ≤ x ∧ x ≤ 32 then x else 32)), .ref q_1, .ref q_5, .ref q_9, .ref q_13, .ref q_17, .int (iZ 0), .int (iZ 0), .int (iZ 0), .int (iZ (-1))])), (q_1, .inr (4, [.ref q1_2])), (q1_2, .inl (cQ, 32, .inr (.inr (.inr (.inr (fun _ => none)))))), (q_5, .inr (2, [.ref q1_6, .int (iZ 0)])), (q1_6, .inl (cB, 600, .inl (fun j => iZ (Int.bmod ((fun _ => 0) j) 256)))), (q_9, .inr (5, [.ref q1_10])), (q1_10, .inl (cI, 6, .inl (fun j => iZ ((fun _ => 0) j)))), (q_13, .inr (3, [.ref q1_14, .int (iZ 0)])), (q1_14, .inl (cJ, 32, .inr (.inl (fun _ => 0)))), (q_17, .inr (1, [.int (iZ 0), .int (iZ (-1))]))] := eW ▸ hD
    refine W.widen (k := 9) (n := 678) (by omega) (by omega) ?_
    exact W.vret hx hb hr (fun t ht hW => ⟨⟨(q_1, q1_2, q_5, q1_6, q_9, q1_10, q_13, q1_14, q_17), rfl, trivial, by rw [ht]; exact hP, va_K.moved hW.alike hK, hAe ▸ hD⟩, hAe ▸ hS.F ht⟩) (hAe ▸ hS.2.2) d_De_init_85
  · refine lv_iload_n hx hb d_De_init_65 rfl (lv_at hl 1 rfl) ?_
    refine lv_bipush (v := iZ 32) hx hb d_De_init_66 (by decide) ?_
    refine zz_icmp_gt (tgt := 75) hx hb d_De_init_68 (by decide) ⟨by omega, by omega⟩ ⟨by omega, by omega⟩ (fun c_19 => ?_) (fun c_19 => ?_)
    · refine lv_bipush (v := iZ 32) hx hb d_De_init_75 (by decide) ?_
      refine va_putF (D := (dC, dI)) (ci := 6) (v := .int (iZ 32)) (ty := t_De 0) (C := "LogDesk") (T := F_De) (N := 10) hx hb htg hin_De t_De t_De_ok n_De hown hK hP hD hS 0 rfl rfl 0 (by decide) (htg _ k_90) (fun _ h9 => h9) rfl hin rfl (by decide +kernel) rfl rfl (Nat.le_of_ble_eq_true rfl) d_De_init_77 (fun H locs hP hD hS => ?_)
      have hP : va_P (dC, dI) vwCl [(h0, .inr (6, [.int (iZ 32), .ref q_1, .ref q_5, .ref q_9, .ref q_13, .ref q_17, .int (iZ 0), .int (iZ 0), .int (iZ 0), .int (iZ 0)])), (q_1, .inr (4, [.ref q1_2])), (q1_2, .inl (cQ, 32, .inr (.inr (.inr (.inr (fun _ => none)))))), (q_5, .inr (2, [.ref q1_6, .int (iZ 0)])), (q1_6, .inl (cB, 600, .inl (fun j => iZ (Int.bmod ((fun _ => 0) j) 256)))), (q_9, .inr (5, [.ref q1_10])), (q1_10, .inl (cI, 6, .inl (fun j => iZ ((fun _ => 0) j)))), (q_13, .inr (3, [.ref q1_14, .int (iZ 0)])), (q1_14, .inl (cJ, 32, .inr (.inl (fun _ => 0)))), (q_17, .inr (1, [.int (iZ 0), .int (iZ (-1))]))] H := hP
      have hD : va_D A [(h0, .inr (6, [.int (iZ 32), .ref q_1, .ref q_5, .ref q_9, .ref q_13, .ref q_17, .int (iZ 0), .int (iZ 0), .int (iZ 0), .int (iZ 0)])), (q_1, .inr (4, [.ref q1_2])), (q1_2, .inl (cQ, 32, .inr (.inr (.inr (.inr (fun _ => none)))))), (q_5, .inr (2, [.ref q1_6, .int (iZ 0)])), (q1_6, .inl (cB, 600, .inl (fun j => iZ (Int.bmod ((fun _ => 0) j) 256)))), (q_9, .inr (5, [.ref q1_10])), (q1_10, .inl (cI, 6, .inl (fun j => iZ ((fun _ => 0) j)))), (q_13, .inr (3, [.ref q1_14, .int (iZ 0)])), (q1_14, .inl (cJ, 32, .inr (.inl (fun _ => 0)))), (q_17, .inr (1, [.int (iZ 0), .int (iZ (-1))]))] := hD
      refine lv_aload_n hx hb d_De_init_80 rfl (lv_at hl 0 rfl) ?_
      refine lv_iconst (v := iZ (-1)) hx hb d_De_init_81 rfl ?_
      refine va_put (D := (dC, dI)) (ci := 6) (v := .int (iZ (-1))) (ty := t_De 9) (C := "LogDesk") (T := F_De) (N := 10) hx hb htg hin_De t_De t_De_ok n_De hown hK hP hD hS 0 rfl rfl 9 (by decide) (htg _ k_99) (fun _ h9 => h9) rfl (by decide +kernel) rfl rfl (Nat.le_of_ble_eq_true rfl) d_De_init_82 (fun H locs hP hD hS => ?_)
      have hP : va_P (dC, dI) vwCl [(h0, .inr (6, [.int (iZ 32), .ref q_1, .ref q_5, .ref q_9, .ref q_13, .ref q_17, .int (iZ 0), .int (iZ 0), .int (iZ 0), .int (iZ (-1))])), (q_1, .inr (4, [.ref q1_2])), (q1_2, .inl (cQ, 32, .inr (.inr (.inr (.inr (fun _ => none)))))), (q_5, .inr (2, [.ref q1_6, .int (iZ 0)])), (q1_6, .inl (cB, 600, .inl (fun j => iZ (Int.bmod ((fun _ => 0) j) 256)))), (q_9, .inr (5, [.ref q1_10])), (q1_10, .inl (cI, 6, .inl (fun j => iZ ((fun _ => 0) j)))), (q_13, .inr (3, [.ref q1_14, .int (iZ 0)])), (q1_14, .inl (cJ, 32, .inr (.inl (fun _ => 0)))), (q_17, .inr (1, [.int (iZ 0), .int (iZ (-1))]))] H := hP
      have hD : va_D A [(h0, .inr (6, [.int (iZ 32), .ref q_1, .ref q_5, .ref q_9, .ref q_13, .ref q_17, .int (iZ 0), .int (iZ 0), .int (iZ 0), .int (iZ (-1))])), (q_1, .inr (4, [.ref q1_2])), (q1_2, .inl (cQ, 32, .inr (.inr (.inr (.inr (fun _ => none)))))), (q_5, .inr (2, [.ref q1_6, .int (iZ 0)])), (q1_6, .inl (cB, 600, .inl (fun j => iZ (Int.bmod ((fun _ => 0) j) 256)))), (q_9, .inr (5, [.ref q1_10])), (q1_10, .inl (cI, 6, .inl (fun j => iZ ((fun _ => 0) j)))), (q_13, .inr (3, [.ref q1_14, .int (iZ 0)])), (q1_14, .inl (cJ, 32, .inr (.inl (fun _ => 0)))), (q_17, .inr (1, [.int (iZ 0), .int (iZ (-1))]))] := hD
      have eW : ∀ (x0 y0 : Int), x0 = y0 → ([(h0, .inr (6, [.int (iZ x0), .ref q_1, .ref q_5, .ref q_9, .ref q_13, .ref q_17, .int (iZ 0), .int (iZ 0), .int (iZ 0), .int (iZ (-1))])), (q_1, .inr (4, [.ref q1_2])), (q1_2, .inl (cQ, 32, .inr (.inr (.inr (.inr (fun _ => none)))))), (q_5, .inr (2, [.ref q1_6, .int (iZ 0)])), (q1_6, .inl (cB, 600, .inl (fun j => iZ (Int.bmod ((fun _ => 0) j) 256)))), (q_9, .inr (5, [.ref q1_10])), (q1_10, .inl (cI, 6, .inl (fun j => iZ ((fun _ => 0) j)))), (q_13, .inr (3, [.ref q1_14, .int (iZ 0)])), (q1_14, .inl (cJ, 32, .inr (.inl (fun _ => 0)))), (q_17, .inr (1, [.int (iZ 0), .int (iZ (-1))]))] : va_W) = [(h0, .inr (6, [.int (iZ y0), .ref q_1, .ref q_5, .ref q_9, .ref q_13, .ref q_17, .int (iZ 0), .int (iZ 0), .int (iZ 0), .int (iZ (-1))])), (q_1, .inr (4, [.ref q1_2])), (q1_2, .inl (cQ, 32, .inr (.inr (.inr (.inr (fun _ => none)))))), (q_5, .inr (2, [.ref q1_6, .int (iZ 0)])), (q1_6, .inl (cB, 600, .inl (fun j => iZ (Int.bmod ((fun _ => 0) j) 256)))), (q_9, .inr (5, [.ref q1_10])), (q1_10, .inl (cI, 6, .inl (fun j => iZ ((fun _ => 0) j)))), (q_13, .inr (3, [.ref q1_14, .int (iZ 0)])), (q1_14, .inl (cJ, 32, .inr (.inl (fun _ => 0)))), (q_17, .inr (1, [.int (iZ 0), .int (iZ (-1))]))] := by intros; subst_vars; rfl
      have eW := eW 32 (if 3 ≤ x ∧ x ≤ 32 then x else 32) (by omega)
      have hP : va_P (dC, dI) vwCl [(h0, .inr (6, [.int (iZ (if 3 ≤ x ∧ x ≤ 32 then x else 32)), .ref q_1, .ref q_5, .ref q_9, .ref q_13, .ref q_17, .int (iZ 0), .int (iZ 0), .int (iZ 0), .int (iZ (-1))])), (q_1, .inr (4, [.ref q1_2])), (q1_2, .inl (cQ, 32, .inr (.inr (.inr (.inr (fun _ => none)))))), (q_5, .inr (2, [.ref q1_6, .int (iZ 0)])), (q1_6, .inl (cB, 600, .inl (fun j => iZ (Int.bmod ((fun _ => 0) j) 256)))), (q_9, .inr (5, [.ref q1_10])), (q1_10, .inl (cI, 6, .inl (fun j => iZ ((fun _ => 0) j)))), (q_13, .inr (3, [.ref q1_14, .int (iZ 0)])), (q1_14, .inl (cJ, 32, .inr (.inl (fun _ => 0)))), (q_17, .inr (1, [.int (iZ 0), .int (iZ (-1))]))] H := eW ▸ hP
      have hD : va_D A [(h0, .inr (6, [.int (iZ (if 3 ≤ x ∧ x ≤ 32 then x else 32)), .ref q_1, .ref q_5, .ref q_9, .ref q_13, .ref q_17, .int (iZ 0), .int (iZ 0), .int (iZ 0), .int (iZ (-1))])), (q_1, .inr (4, [.ref q1_2])), (q1_2, .inl (cQ, 32, .inr (.inr (.inr (.inr (fun _ => none)))))), (q_5, .inr (2, [.ref q1_6, .int (iZ 0)])), (q1_6, .inl (cB, 600, .inl (fun j => iZ (Int.bmod ((fun _ => 0) j) 256)))), (q_9, .inr (5, [.ref q1_10])), (q1_10, .inl (cI, 6, .inl (fun j => iZ ((fun _ => 0) j)))), (q_13, .inr (3, [.ref q1_14, .int (iZ 0)])), (q1_14, .inl (cJ, 32, .inr (.inl (fun _ => 0)))), (q_17, .inr (1, [.int (iZ 0), .int (iZ (-1))]))] := eW ▸ hD
      refine W.widen (k := 9) (n := 678) (by omega) (by omega) ?_
      exact W.vret hx hb hr (fun t ht hW => ⟨⟨(q_1, q1_2, q_5, q1_6, q_9, q1_10, q_13, q1_14, q_17), rfl, trivial, by rw [ht]; exact hP, va_K.moved hW.alike hK, hAe ▸ hD⟩, hAe ▸ hS.F ht⟩) (hAe ▸ hS.2.2) d_De_init_85
    · refine lv_iload_n hx hb d_De_init_71 rfl (lv_at hl 1 rfl) ?_
      refine lv_goto (tgt := 77) hx hb d_De_init_72 (by decide) ?_
      refine va_putF (D := (dC, dI)) (ci := 6) (v := .int (iZ x)) (ty := t_De 0) (C := "LogDesk") (T := F_De) (N := 10) hx hb htg hin_De t_De t_De_ok n_De hown hK hP hD hS 0 rfl rfl 0 (by decide) (htg _ k_90) (fun _ h9 => h9) rfl hin rfl (by decide +kernel) rfl rfl (Nat.le_of_ble_eq_true rfl) d_De_init_77 (fun H locs hP hD hS => ?_)
      have hP : va_P (dC, dI) vwCl [(h0, .inr (6, [.int (iZ x), .ref q_1, .ref q_5, .ref q_9, .ref q_13, .ref q_17, .int (iZ 0), .int (iZ 0), .int (iZ 0), .int (iZ 0)])), (q_1, .inr (4, [.ref q1_2])), (q1_2, .inl (cQ, 32, .inr (.inr (.inr (.inr (fun _ => none)))))), (q_5, .inr (2, [.ref q1_6, .int (iZ 0)])), (q1_6, .inl (cB, 600, .inl (fun j => iZ (Int.bmod ((fun _ => 0) j) 256)))), (q_9, .inr (5, [.ref q1_10])), (q1_10, .inl (cI, 6, .inl (fun j => iZ ((fun _ => 0) j)))), (q_13, .inr (3, [.ref q1_14, .int (iZ 0)])), (q1_14, .inl (cJ, 32, .inr (.inl (fun _ => 0)))), (q_17, .inr (1, [.int (iZ 0), .int (iZ (-1))]))] H := hP
      have hD : va_D A [(h0, .inr (6, [.int (iZ x), .ref q_1, .ref q_5, .ref q_9, .ref q_13, .ref q_17, .int (iZ 0), .int (iZ 0), .int (iZ 0), .int (iZ 0)])), (q_1, .inr (4, [.ref q1_2])), (q1_2, .inl (cQ, 32, .inr (.inr (.inr (.inr (fun _ => none)))))), (q_5, .inr (2, [.ref q1_6, .int (iZ 0)])), (q1_6, .inl (cB, 600, .inl (fun j => iZ (Int.bmod ((fun _ => 0) j) 256)))), (q_9, .inr (5, [.ref q1_10])), (q1_10, .inl (cI, 6, .inl (fun j => iZ ((fun _ => 0) j)))), (q_13, .inr (3, [.ref q1_14, .int (iZ 0)])), (q1_14, .inl (cJ, 32, .inr (.inl (fun _ => 0)))), (q_17, .inr (1, [.int (iZ 0), .int (iZ (-1))]))] := hD
      refine lv_aload_n hx hb d_De_init_80 rfl (lv_at hl 0 rfl) ?_
      refine lv_iconst (v := iZ (-1)) hx hb d_De_init_81 rfl ?_
      refine va_put (D := (dC, dI)) (ci := 6) (v := .int (iZ (-1))) (ty := t_De 9) (C := "LogDesk") (T := F_De) (N := 10) hx hb htg hin_De t_De t_De_ok n_De hown hK hP hD hS 0 rfl rfl 9 (by decide) (htg _ k_99) (fun _ h9 => h9) rfl (by decide +kernel) rfl rfl (Nat.le_of_ble_eq_true rfl) d_De_init_82 (fun H locs hP hD hS => ?_)
      have hP : va_P (dC, dI) vwCl [(h0, .inr (6, [.int (iZ x), .ref q_1, .ref q_5, .ref q_9, .ref q_13, .ref q_17, .int (iZ 0), .int (iZ 0), .int (iZ 0), .int (iZ (-1))])), (q_1, .inr (4, [.ref q1_2])), (q1_2, .inl (cQ, 32, .inr (.inr (.inr (.inr (fun _ => none)))))), (q_5, .inr (2, [.ref q1_6, .int (iZ 0)])), (q1_6, .inl (cB, 600, .inl (fun j => iZ (Int.bmod ((fun _ => 0) j) 256)))), (q_9, .inr (5, [.ref q1_10])), (q1_10, .inl (cI, 6, .inl (fun j => iZ ((fun _ => 0) j)))), (q_13, .inr (3, [.ref q1_14, .int (iZ 0)])), (q1_14, .inl (cJ, 32, .inr (.inl (fun _ => 0)))), (q_17, .inr (1, [.int (iZ 0), .int (iZ (-1))]))] H := hP
      have hD : va_D A [(h0, .inr (6, [.int (iZ x), .ref q_1, .ref q_5, .ref q_9, .ref q_13, .ref q_17, .int (iZ 0), .int (iZ 0), .int (iZ 0), .int (iZ (-1))])), (q_1, .inr (4, [.ref q1_2])), (q1_2, .inl (cQ, 32, .inr (.inr (.inr (.inr (fun _ => none)))))), (q_5, .inr (2, [.ref q1_6, .int (iZ 0)])), (q1_6, .inl (cB, 600, .inl (fun j => iZ (Int.bmod ((fun _ => 0) j) 256)))), (q_9, .inr (5, [.ref q1_10])), (q1_10, .inl (cI, 6, .inl (fun j => iZ ((fun _ => 0) j)))), (q_13, .inr (3, [.ref q1_14, .int (iZ 0)])), (q1_14, .inl (cJ, 32, .inr (.inl (fun _ => 0)))), (q_17, .inr (1, [.int (iZ 0), .int (iZ (-1))]))] := hD
      have eW : ∀ (x0 y0 : Int), x0 = y0 → ([(h0, .inr (6, [.int (iZ x0), .ref q_1, .ref q_5, .ref q_9, .ref q_13, .ref q_17, .int (iZ 0), .int (iZ 0), .int (iZ 0), .int (iZ (-1))])), (q_1, .inr (4, [.ref q1_2])), (q1_2, .inl (cQ, 32, .inr (.inr (.inr (.inr (fun _ => none)))))), (q_5, .inr (2, [.ref q1_6, .int (iZ 0)])), (q1_6, .inl (cB, 600, .inl (fun j => iZ (Int.bmod ((fun _ => 0) j) 256)))), (q_9, .inr (5, [.ref q1_10])), (q1_10, .inl (cI, 6, .inl (fun j => iZ ((fun _ => 0) j)))), (q_13, .inr (3, [.ref q1_14, .int (iZ 0)])), (q1_14, .inl (cJ, 32, .inr (.inl (fun _ => 0)))), (q_17, .inr (1, [.int (iZ 0), .int (iZ (-1))]))] : va_W) = [(h0, .inr (6, [.int (iZ y0), .ref q_1, .ref q_5, .ref q_9, .ref q_13, .ref q_17, .int (iZ 0), .int (iZ 0), .int (iZ 0), .int (iZ (-1))])), (q_1, .inr (4, [.ref q1_2])), (q1_2, .inl (cQ, 32, .inr (.inr (.inr (.inr (fun _ => none)))))), (q_5, .inr (2, [.ref q1_6, .int (iZ 0)])), (q1_6, .inl (cB, 600, .inl (fun j => iZ (Int.bmod ((fun _ => 0) j) 256)))), (q_9, .inr (5, [.ref q1_10])), (q1_10, .inl (cI, 6, .inl (fun j => iZ ((fun _ => 0) j)))), (q_13, .inr (3, [.ref q1_14, .int (iZ 0)])), (q1_14, .inl (cJ, 32, .inr (.inl (fun _ => 0)))), (q_17, .inr (1, [.int (iZ 0), .int (iZ (-1))]))] := by intros; subst_vars; rfl
      have eW := eW x (if 3 ≤ x ∧ x ≤ 32 then x else 32) (by omega)
      have hP : va_P (dC, dI) vwCl [(h0, .inr (6, [.int (iZ (if 3 ≤ x ∧ x ≤ 32 then x else 32)), .ref q_1, .ref q_5, .ref q_9, .ref q_13, .ref q_17, .int (iZ 0), .int (iZ 0), .int (iZ 0), .int (iZ (-1))])), (q_1, .inr (4, [.ref q1_2])), (q1_2, .inl (cQ, 32, .inr (.inr (.inr (.inr (fun _ => none)))))), (q_5, .inr (2, [.ref q1_6, .int (iZ 0)])), (q1_6, .inl (cB, 600, .inl (fun j => iZ (Int.bmod ((fun _ => 0) j) 256)))), (q_9, .inr (5, [.ref q1_10])), (q1_10, .inl (cI, 6, .inl (fun j => iZ ((fun _ => 0) j)))), (q_13, .inr (3, [.ref q1_14, .int (iZ 0)])), (q1_14, .inl (cJ, 32, .inr (.inl (fun _ => 0)))), (q_17, .inr (1, [.int (iZ 0), .int (iZ (-1))]))] H := eW ▸ hP
      have hD : va_D A [(h0, .inr (6, [.int (iZ (if 3 ≤ x ∧ x ≤ 32 then x else 32)), .ref q_1, .ref q_5, .ref q_9, .ref q_13, .ref q_17, .int (iZ 0), .int (iZ 0), .int (iZ 0), .int (iZ (-1))])), (q_1, .inr (4, [.ref q1_2])), (q1_2, .inl (cQ, 32, .inr (.inr (.inr (.inr (fun _ => none)))))), (q_5, .inr (2, [.ref q1_6, .int (iZ 0)])), (q1_6, .inl (cB, 600, .inl (fun j => iZ (Int.bmod ((fun _ => 0) j) 256)))), (q_9, .inr (5, [.ref q1_10])), (q1_10, .inl (cI, 6, .inl (fun j => iZ ((fun _ => 0) j)))), (q_13, .inr (3, [.ref q1_14, .int (iZ 0)])), (q1_14, .inl (cJ, 32, .inr (.inl (fun _ => 0)))), (q_17, .inr (1, [.int (iZ 0), .int (iZ (-1))]))] := eW ▸ hD
      refine W.widen (k := 9) (n := 678) (by omega) (by omega) ?_
      exact W.vret hx hb hr (fun t ht hW => ⟨⟨(q_1, q1_2, q_5, q1_6, q_9, q1_10, q_13, q1_14, q_17), rfl, trivial, by rw [ht]; exact hP, va_K.moved hW.alike hK, hAe ▸ hD⟩, hAe ▸ hS.F ht⟩) (hAe ▸ hS.2.2) d_De_init_85
end
section
set_option maxHeartbeats 4000000 in
set_option maxRecDepth 100000 in
/-- put -/
theorem c_De_put (l : Launch) (dC : Nat → ClassId) (dI : Nat → Nat → Nat) (cB : ClassId) (cI : ClassId) (cJ : ClassId) (cZ : ClassId) (cQ : ClassId) (d0 r0 a0 w0 p0 i0 a1 : Nat) (sz : Nat) (N : Int) (bg : Int) (en : Int) (fl : Int) (rs : Int) (cnt : Int) (uh : Nat → Int) (v : Int64) (n : Int) (hc : 0 ≤ cnt ∧ cnt ≤ 600) (hn0 : iB n) : Met l y_De_put ((Cond.code y_De_put prog_1_method_2_code 5 (some .boolean)) :: gw) ({ frames := 1, cells := 0, slots := 0, locals := 21 } : Room) (zPc (dC, dI) [(cB, .byte), (cI, .int), (cJ, .long), (cZ, .boolean), (cQ, .object "LogDesk$Block")] [.ref d0, .long v, .int (iZ n)] [(d0, .inr (6, [.int (iZ N), .ref r0, .ref a0, .ref w0, .ref p0, .ref i0, .int (iZ bg), .int (iZ en), .int (iZ fl), .int (iZ rs)])), (a0, .inr (2, [.ref a1, .int (iZ cnt)])), (a1, .inl (cB, 600, .inl (fun j => iZ (Int.bmod (uh j) 256))))] sz) (va_Qi (fun (r : Int32) (_ : Unit) => r = iZ (if ((1 ≤ n ∧ n ≤ 8) ∧ n ≤ 600 - cnt) then 1 else 0)) (zB (dC, dI) [(cB, .byte), (cI, .int), (cJ, .long), (cZ, .boolean), (cQ, .object "LogDesk$Block")] (va_A [(d0, .inr (6, [.int (iZ N), .ref r0, .ref a0, .ref w0, .ref p0, .ref i0, .int (iZ bg), .int (iZ en), .int (iZ fl), .int (iZ rs)])), (a0, .inr (2, [.ref a1, .int (iZ cnt)])), (a1, .inl (cB, 600, .inl (fun j => iZ (Int.bmod (uh j) 256))))] sz) [(d0, .inr (6, [.int (iZ N), .ref r0, .ref a0, .ref w0, .ref p0, .ref i0, .int (iZ bg), .int (iZ en), .int (iZ fl), .int (iZ rs)])), (a0, .inr (2, [.ref a1, .int (iZ (if ((1 ≤ n ∧ n ≤ 8) ∧ n ≤ 600 - cnt) then cnt + n else cnt))])), (a1, .inl (cB, 600, .inl (fun j => iZ (Int.bmod ((if ((1 ≤ n ∧ n ≤ 8) ∧ n ≤ 600 - cnt) then pU v n.toNat cnt uh else uh) j) 256))))]) (va_A [(d0, .inr (6, [.int (iZ N), .ref r0, .ref a0, .ref w0, .ref p0, .ref i0, .int (iZ bg), .int (iZ en), .int (iZ fl), .int (iZ rs)])), (a0, .inr (2, [.ref a1, .int (iZ cnt)])), (a1, .inl (cB, 600, .inl (fun j => iZ (Int.bmod (uh j) 256))))] sz)) 0 0 (va_A [(d0, .inr (6, [.int (iZ N), .ref r0, .ref a0, .ref w0, .ref p0, .ref i0, .int (iZ bg), .int (iZ en), .int (iZ fl), .int (iZ rs)])), (a0, .inr (2, [.ref a1, .int (iZ cnt)])), (a1, .inl (cB, 600, .inl (fun j => iZ (Int.bmod (uh j) 256))))] sz) := by
  refine Met.ofW (cc := prog_1_method_2_code) (maxL := 5) (ret := (some .boolean)) (by decide) rfl ?_
  intro p e s m args below meth c s₁ B hml hv
  obtain ⟨rfl, hsz, hP, hK, hD0, hZ⟩ := hv
  have hx := B.exec
  have hb := B.bytes
  have hr := B.returns
  have hts := atoms_spec (ws := (Cond.code y_De_put prog_1_method_2_code 5 (some .boolean)) :: gw) B.pre
  have htg : ∀ w ∈ gw, w.before _ s = true := fun w h => hts w (List.mem_cons_of_mem _ h)
  have hown : s.vm.findClass "LogDesk" = some m.cls := findClass_of_methodNamed B.named
  have hlocks := B.notSynchronized
  subst hsz
  have hD := hD0.self (sz := s.heap.size)
  generalize hAe : va_A [(d0, .inr (6, [.int (iZ N), .ref r0, .ref a0, .ref w0, .ref p0, .ref i0, .int (iZ bg), .int (iZ en), .int (iZ fl), .int (iZ rs)])), (a0, .inr (2, [.ref a1, .int (iZ cnt)])), (a1, .inl (cB, 600, .inl (fun j => iZ (Int.bmod (uh j) 256))))] s.heap.size = A at hD ⊢
  have hRc : (headSpec ((Cond.code y_De_put prog_1_method_2_code 5 (some .boolean)) :: gw) ({ frames := 1, cells := 0, slots := 0, locals := 21 } : Room)).room.cells = 0 := rfl
  have hRs : (headSpec ((Cond.code y_De_put prog_1_method_2_code 5 (some .boolean)) :: gw) ({ frames := 1, cells := 0, slots := 0, locals := 21 } : Room)).room.slots = 0 := rfl
  generalize hQ : MQ below (va_Qi (fun (r : Int32) (_ : Unit) => r = iZ (if ((1 ≤ n ∧ n ≤ 8) ∧ n ≤ 600 - cnt) then 1 else 0)) (zB (dC, dI) [(cB, .byte), (cI, .int), (cJ, .long), (cZ, .boolean), (cQ, .object "LogDesk$Block")] A [(d0, .inr (6, [.int (iZ N), .ref r0, .ref a0, .ref w0, .ref p0, .ref i0, .int (iZ bg), .int (iZ en), .int (iZ fl), .int (iZ rs)])), (a0, .inr (2, [.ref a1, .int (iZ (if ((1 ≤ n ∧ n ≤ 8) ∧ n ≤ 600 - cnt) then cnt + n else cnt))])), (a1, .inl (cB, 600, .inl (fun j => iZ (Int.bmod ((if ((1 ≤ n ∧ n ≤ 8) ∧ n ≤ 600 - cnt) then pU v n.toNat cnt uh else uh) j) 256))))]) A) [.ref d0, .long v, .int (iZ n)].toArray s 0 0 A = QQ
  have hA : ∀ q : Nat, s.heap.size ≤ q → A q := fun q h => by rw [← hAe]; exact Or.inr h
  have hS : va_S A s.heap s.heap [] := va_S.rf
  have hP : va_P (dC, dI) vwCl [(d0, .inr (6, [.int (iZ N), .ref r0, .ref a0, .ref w0, .ref p0, .ref i0, .int (iZ bg), .int (iZ en), .int (iZ fl), .int (iZ rs)])), (a0, .inr (2, [.ref a1, .int (iZ cnt)])), (a1, .inl (cB, 600, .inl (fun j => iZ (Int.bmod (uh j) 256))))] s.heap := hP
  have hl := lv_entry ([.ref d0, .long v, .int (iZ n)]) (n := 5) (Nat.le_of_ble_eq_true rfl)
  rw [lg_entry_eq]
  generalize (lg_sl ([.ref d0, .long v, .int (iZ n)]) ++ List.replicate (5 - (lg_sl ([.ref d0, .long v, .int (iZ n)])).length) Slot.unset).toArray = ls at hl ⊢
  have hl : lv_has ls 5 [(0, .ref d0), (1, .long v), (3, .int (iZ n))] := hl
  obtain ⟨hn1, hn2⟩ := id hn0
  refine lv_iload_n hx hb d_De_put_0 rfl (lv_at hl 2 rfl) ?_
  refine lv_iconst (v := iZ 1) hx hb d_De_put_1 rfl ?_
  refine zz_icmp_lt (tgt := 22) hx hb d_De_put_2 (by decide) ⟨by omega, by omega⟩ ⟨by omega, by omega⟩ (fun c_1 => ?_) (fun c_1 => ?_)
  · refine lv_iconst (v := iZ 0) hx hb d_De_put_22 rfl ?_
    have eW : ∀ (x0 y0 : Int) (x1 y1 : Nat → Int), x0 = y0 → x1 = y1 → ([(d0, .inr (6, [.int (iZ N), .ref r0, .ref a0, .ref w0, .ref p0, .ref i0, .int (iZ bg), .int (iZ en), .int (iZ fl), .int (iZ rs)])), (a0, .inr (2, [.ref a1, .int (iZ x0)])), (a1, .inl (cB, 600, .inl (fun j => iZ (Int.bmod (x1 j) 256))))] : va_W) = [(d0, .inr (6, [.int (iZ N), .ref r0, .ref a0, .ref w0, .ref p0, .ref i0, .int (iZ bg), .int (iZ en), .int (iZ fl), .int (iZ rs)])), (a0, .inr (2, [.ref a1, .int (iZ y0)])), (a1, .inl (cB, 600, .inl (fun j => iZ (Int.bmod (y1 j) 256))))] := by intros; subst_vars; rfl
    have eW := eW cnt (if ((1 ≤ n ∧ n ≤ 8) ∧ n ≤ 600 - cnt) then cnt + n else cnt) uh (if ((1 ≤ n ∧ n ≤ 8) ∧ n ≤ 600 - cnt) then pU v n.toNat cnt uh else uh) ((if_neg (fun h => by omega)).symm) ((if_neg (fun h => by omega)).symm)
    have hP : va_P (dC, dI) vwCl [(d0, .inr (6, [.int (iZ N), .ref r0, .ref a0, .ref w0, .ref p0, .ref i0, .int (iZ bg), .int (iZ en), .int (iZ fl), .int (iZ rs)])), (a0, .inr (2, [.ref a1, .int (iZ (if ((1 ≤ n ∧ n ≤ 8) ∧ n ≤ 600 - cnt) then cnt + n else cnt))])), (a1, .inl (cB, 600, .inl (fun j => iZ (Int.bmod ((if ((1 ≤ n ∧ n ≤ 8) ∧ n ≤ 600 - cnt) then pU v n.toNat cnt uh else uh) j) 256))))] s.heap := eW ▸ hP
    have hD : va_D A [(d0, .inr (6, [.int (iZ N), .ref r0, .ref a0, .ref w0, .ref p0, .ref i0, .int (iZ bg), .int (iZ en), .int (iZ fl), .int (iZ rs)])), (a0, .inr (2, [.ref a1, .int (iZ (if ((1 ≤ n ∧ n ≤ 8) ∧ n ≤ 600 - cnt) then cnt + n else cnt))])), (a1, .inl (cB, 600, .inl (fun j => iZ (Int.bmod ((if ((1 ≤ n ∧ n ≤ 8) ∧ n ≤ 600 - cnt) then pU v n.toNat cnt uh else uh) j) 256))))] := eW ▸ hD
    subst hQ
    exact W.zret (v := (iZ 0)) hx hb hr rfl (fun t ht hW => ⟨⟨_, (), rfl, (congrArg iZ (if_neg (fun h => by omega)).symm), by rw [ht]; exact hP, va_K.moved hW.alike hK, hAe ▸ hD⟩, hAe ▸ hS.F ht⟩) (hAe ▸ hS.2.2) d_De_put_23
  · refine lv_iload_n hx hb d_De_put_5 rfl (lv_at hl 2 rfl) ?_
    refine lv_bipush (v := iZ 8) hx hb d_De_put_6 (by decide) ?_
    refine zz_icmp_gt (tgt := 22) hx hb d_De_put_8 (by decide) ⟨by omega, by omega⟩ ⟨by omega, by omega⟩ (fun c_2 => ?_) (fun c_2 => ?_)
    · refine lv_iconst (v := iZ 0) hx hb d_De_put_22 rfl ?_
      have eW : ∀ (x0 y0 : Int) (x1 y1 : Nat → Int), x0 = y0 → x1 = y1 → ([(d0, .inr (6, [.int (iZ N), .ref r0, .ref a0, .ref w0, .ref p0, .ref i0, .int (iZ bg), .int (iZ en), .int (iZ fl), .int (iZ rs)])), (a0, .inr (2, [.ref a1, .int (iZ x0)])), (a1, .inl (cB, 600, .inl (fun j => iZ (Int.bmod (x1 j) 256))))] : va_W) = [(d0, .inr (6, [.int (iZ N), .ref r0, .ref a0, .ref w0, .ref p0, .ref i0, .int (iZ bg), .int (iZ en), .int (iZ fl), .int (iZ rs)])), (a0, .inr (2, [.ref a1, .int (iZ y0)])), (a1, .inl (cB, 600, .inl (fun j => iZ (Int.bmod (y1 j) 256))))] := by intros; subst_vars; rfl
      have eW := eW cnt (if ((1 ≤ n ∧ n ≤ 8) ∧ n ≤ 600 - cnt) then cnt + n else cnt) uh (if ((1 ≤ n ∧ n ≤ 8) ∧ n ≤ 600 - cnt) then pU v n.toNat cnt uh else uh) ((if_neg (fun h => by omega)).symm) ((if_neg (fun h => by omega)).symm)
      have hP : va_P (dC, dI) vwCl [(d0, .inr (6, [.int (iZ N), .ref r0, .ref a0, .ref w0, .ref p0, .ref i0, .int (iZ bg), .int (iZ en), .int (iZ fl), .int (iZ rs)])), (a0, .inr (2, [.ref a1, .int (iZ (if ((1 ≤ n ∧ n ≤ 8) ∧ n ≤ 600 - cnt) then cnt + n else cnt))])), (a1, .inl (cB, 600, .inl (fun j => iZ (Int.bmod ((if ((1 ≤ n ∧ n ≤ 8) ∧ n ≤ 600 - cnt) then pU v n.toNat cnt uh else uh) j) 256))))] s.heap := eW ▸ hP
      have hD : va_D A [(d0, .inr (6, [.int (iZ N), .ref r0, .ref a0, .ref w0, .ref p0, .ref i0, .int (iZ bg), .int (iZ en), .int (iZ fl), .int (iZ rs)])), (a0, .inr (2, [.ref a1, .int (iZ (if ((1 ≤ n ∧ n ≤ 8) ∧ n ≤ 600 - cnt) then cnt + n else cnt))])), (a1, .inl (cB, 600, .inl (fun j => iZ (Int.bmod ((if ((1 ≤ n ∧ n ≤ 8) ∧ n ≤ 600 - cnt) then pU v n.toNat cnt uh else uh) j) 256))))] := eW ▸ hD
      subst hQ
      exact W.zret (v := (iZ 0)) hx hb hr rfl (fun t ht hW => ⟨⟨_, (), rfl, (congrArg iZ (if_neg (fun h => by omega)).symm), by rw [ht]; exact hP, va_K.moved hW.alike hK, hAe ▸ hD⟩, hAe ▸ hS.F ht⟩) (hAe ▸ hS.2.2) d_De_put_23
    · refine lv_aload_n hx hb d_De_put_11 rfl (lv_at hl 0 rfl) ?_
      refine va_get (D := (dC, dI)) (ci := 6) (v := .ref a0) (C := "LogDesk") (T := F_De) (N := 10) hx hb htg hin_De hown hK hP 0 rfl rfl 2 (by decide) (htg _ k_92) (fun _ h9 => h9) rfl d_De_put_12 ?_
      refine lv_iload_n hx hb d_De_put_15 rfl (lv_at hl 2 rfl) ?_
      refine z_i (wr := [(d0, .inr (6, [.int (iZ N), .ref r0, .ref a0, .ref w0, .ref p0, .ref i0, .int (iZ bg), .int (iZ en), .int (iZ fl), .int (iZ rs)]))]) (va_runV (As := [.int (iZ n)]) (rest := []) ⟨hx, hb, hml, hown, htg⟩ (c_Ha_hasRoomFor l dC dI cB cI cJ cZ cQ a0 a1 s.heap.size cnt uh n hc hn0) (cwV 1 htg (gw_V k_125 k_126 k_127 k_3 k_128) rfl rfl rfl (by decide +kernel) ⟨Nat.le_of_ble_eq_true rfl, Nat.le_of_ble_eq_true rfl⟩) (zPreV hK hP hD hZ [1, 2] rfl (by decide) 1 (ci := 2) rfl rfl) rfl rfl hl.1 rfl (lv_room (Nat.le_of_ble_eq_true rfl)) d_De_put_16 ⟨by omega, by omega⟩) hP hD hS hA [1, 2] [0] rfl rfl (by decide) (by decide) (fun H locs hP hD hS => ?_)
      have hP : va_P (dC, dI) vwCl [(d0, .inr (6, [.int (iZ N), .ref r0, .ref a0, .ref w0, .ref p0, .ref i0, .int (iZ bg), .int (iZ en), .int (iZ fl), .int (iZ rs)])), (a0, .inr (2, [.ref a1, .int (iZ cnt)])), (a1, .inl (cB, 600, .inl (fun j => iZ (Int.bmod (uh j) 256))))] H := hP
      have hD : va_D A [(d0, .inr (6, [.int (iZ N), .ref r0, .ref a0, .ref w0, .ref p0, .ref i0, .int (iZ bg), .int (iZ en), .int (iZ fl), .int (iZ rs)])), (a0, .inr (2, [.ref a1, .int (iZ cnt)])), (a1, .inl (cB, 600, .inl (fun j => iZ (Int.bmod (uh j) 256))))] := hD
      rcases Classical.em (n ≤ 600 - cnt) with b_3 | b_3
      · rw [if_pos b_3]
        refine zz_if_ne (tgt := 24) hx hb d_De_put_19 (by decide) ⟨by omega, by omega⟩ (fun c_4 => ?_) (fun c_4 => ?_)
        · refine lv_iload_n hx hb d_De_put_24 rfl (lv_at hl 2 rfl) ?_
          refine lv_iconst (v := iZ 1) hx hb d_De_put_25 rfl ?_
          refine zz_isub hx hb d_De_put_26 ?_
          refine lv_istore (lv' := [(4, .int (iZ (n - 1))), (0, .ref d0), (1, .long v), (3, .int (iZ n))]) hx hb d_De_put_27 hl (by decide) rfl (fun ls hl => ?_)
          have loop29 : ∀ (nn : Nat) (i : Int) (k : Int) (w : Nat → Int) (H : Heap) (locs : List Loc) (ls : Array Slot), (-1 ≤ i ∧ i < n) → (k = cnt + (n - 1 - i)) → (pU v (i + 1).toNat k w = pU v n.toNat cnt uh) → (i + 1 < (nn : Int)) → va_P (dC, dI) vwCl [(d0, .inr (6, [.int (iZ N), .ref r0, .ref a0, .ref w0, .ref p0, .ref i0, .int (iZ bg), .int (iZ en), .int (iZ fl), .int (iZ rs)])), (a0, .inr (2, [.ref a1, .int (iZ k)])), (a1, .inl (cB, 600, .inl (fun j => iZ (Int.bmod (w j) 256))))] H → va_D A [(d0, .inr (6, [.int (iZ N), .ref r0, .ref a0, .ref w0, .ref p0, .ref i0, .int (iZ bg), .int (iZ en), .int (iZ fl), .int (iZ rs)])), (a0, .inr (2, [.ref a1, .int (iZ k)])), (a1, .inl (cB, 600, .inl (fun j => iZ (Int.bmod (w j) 256))))] → va_S A s.heap H locs → lv_has ls 5 [(0, .ref d0), (1, .long v), (3, .int (iZ n)), (4, .int (iZ i))] → W p l e (headSpec ((Cond.code y_De_put prog_1_method_2_code 5 (some .boolean)) :: gw) ({ frames := 1, cells := 0, slots := 0, locals := 21 } : Room)).room s m [.ref d0, .long v, .int (iZ n)].toArray below meth c H locs 0 0 QQ (F0 m 29 ls []) := by
            intro nn
            induction nn with
            | zero => intro i k w H locs ls hi hk hw hm hP hD hS hl; exfalso; omega
            | succ nn ih =>
              intro i k w H locs ls hi hk hw hm hP hD hS hl
              refine lv_iload hx hb d_De_put_29 (lv_at hl 3 rfl) ?_
              refine zz_if_lt (tgt := 55) hx hb d_De_put_31 (by decide) ⟨by omega, by omega⟩ (fun c_5 => ?_) (fun c_5 => ?_)
              · refine lv_iconst (v := iZ 1) hx hb d_De_put_55 rfl ?_
                have eW : ∀ (x0 y0 : Int) (x1 y1 : Nat → Int), x0 = y0 → x1 = y1 → ([(d0, .inr (6, [.int (iZ N), .ref r0, .ref a0, .ref w0, .ref p0, .ref i0, .int (iZ bg), .int (iZ en), .int (iZ fl), .int (iZ rs)])), (a0, .inr (2, [.ref a1, .int (iZ x0)])), (a1, .inl (cB, 600, .inl (fun j => iZ (Int.bmod (x1 j) 256))))] : va_W) = [(d0, .inr (6, [.int (iZ N), .ref r0, .ref a0, .ref w0, .ref p0, .ref i0, .int (iZ bg), .int (iZ en), .int (iZ fl), .int (iZ rs)])), (a0, .inr (2, [.ref a1, .int (iZ y0)])), (a1, .inl (cB, 600, .inl (fun j => iZ (Int.bmod (y1 j) 256))))] := by intros; subst_vars; rfl
                have eW := eW k (if ((1 ≤ n ∧ n ≤ 8) ∧ n ≤ 600 - cnt) then cnt + n else cnt) w (if ((1 ≤ n ∧ n ≤ 8) ∧ n ≤ 600 - cnt) then pU v n.toNat cnt uh else uh) (by rw [if_pos (show ((1 ≤ n ∧ n ≤ 8) ∧ n ≤ 600 - cnt) from ⟨⟨by omega, by omega⟩, by omega⟩)]; omega) (by rw [if_pos (show ((1 ≤ n ∧ n ≤ 8) ∧ n ≤ 600 - cnt) from ⟨⟨by omega, by omega⟩, by omega⟩)]; rw [← hw, show (i + 1).toNat = 0 by omega]; rfl)
                have hP : va_P (dC, dI) vwCl [(d0, .inr (6, [.int (iZ N), .ref r0, .ref a0, .ref w0, .ref p0, .ref i0, .int (iZ bg), .int (iZ en), .int (iZ fl), .int (iZ rs)])), (a0, .inr (2, [.ref a1, .int (iZ (if ((1 ≤ n ∧ n ≤ 8) ∧ n ≤ 600 - cnt) then cnt + n else cnt))])), (a1, .inl (cB, 600, .inl (fun j => iZ (Int.bmod ((if ((1 ≤ n ∧ n ≤ 8) ∧ n ≤ 600 - cnt) then pU v n.toNat cnt uh else uh) j) 256))))] H := eW ▸ hP
                have hD : va_D A [(d0, .inr (6, [.int (iZ N), .ref r0, .ref a0, .ref w0, .ref p0, .ref i0, .int (iZ bg), .int (iZ en), .int (iZ fl), .int (iZ rs)])), (a0, .inr (2, [.ref a1, .int (iZ (if ((1 ≤ n ∧ n ≤ 8) ∧ n ≤ 600 - cnt) then cnt + n else cnt))])), (a1, .inl (cB, 600, .inl (fun j => iZ (Int.bmod ((if ((1 ≤ n ∧ n ≤ 8) ∧ n ≤ 600 - cnt) then pU v n.toNat cnt uh else uh) j) 256))))] := eW ▸ hD
                subst hQ
                exact W.zret (v := (iZ 1)) hx hb hr rfl (fun t ht hW => ⟨⟨_, (), rfl, (congrArg iZ (if_pos (show ((1 ≤ n ∧ n ≤ 8) ∧ n ≤ 600 - cnt) from ⟨⟨by omega, by omega⟩, by omega⟩)).symm), by rw [ht]; exact hP, va_K.moved hW.alike hK, hAe ▸ hD⟩, hAe ▸ hS.F ht⟩) (hAe ▸ hS.2.2) d_De_put_56
              · refine lv_aload_n hx hb d_De_put_34 rfl (lv_at hl 0 rfl) ?_
                refine va_get (D := (dC, dI)) (ci := 6) (v := .ref a0) (C := "LogDesk") (T := F_De) (N := 10) hx hb htg hin_De hown hK hP 0 rfl rfl 2 (by decide) (htg _ k_92) (fun _ h9 => h9) rfl d_De_put_35 ?_
                refine lv_lload_n hx hb d_De_put_38 rfl (lv_at hl 1 rfl) ?_
                refine lv_bipush (v := iZ 8) hx hb d_De_put_39 (by decide) ?_
                refine lv_iload hx hb d_De_put_41 (lv_at hl 3 rfl) ?_
                refine zz_imul hx hb d_De_put_43 ?_
                refine lv_lushr hx hb d_De_put_44 rfl ?_
                refine zz_l2i hx hb d_De_put_45 ?_
                refine z_v (wr := [(d0, .inr (6, [.int (iZ N), .ref r0, .ref a0, .ref w0, .ref p0, .ref i0, .int (iZ bg), .int (iZ en), .int (iZ fl), .int (iZ rs)]))]) (va_runV (As := [.int (iZ ((((v).toUInt64 >>> (((iZ (8 * i))).toInt64.toUInt64 &&& Int64.toUInt64 63)).toInt64).toInt32.toInt))]) (rest := []) ⟨hx, hb, hml, hown, htg⟩ (c_Ha_add l dC dI cB cI cJ cZ cQ a0 a1 H.size k w ((((v).toUInt64 >>> (((iZ (8 * i))).toInt64.toUInt64 &&& Int64.toUInt64 63)).toInt64).toInt32.toInt) (by omega)) (cwV 1 htg (gw_V k_129 k_130 k_131 k_3 k_132) rfl rfl rfl (by decide +kernel) ⟨Nat.le_of_ble_eq_true rfl, Nat.le_of_ble_eq_true rfl⟩) (zPreV hK hP hD hZ [1, 2] rfl (by decide) 1 (ci := 2) rfl rfl) rfl rfl hl.1 rfl (lv_room (Nat.le_of_ble_eq_true rfl)) d_De_put_46 ⟨by omega, by omega⟩) hP hD hS hA [1, 2] [0] rfl rfl (by decide) (by decide) (fun H locs hP hD hS => ?_)
                have hP : va_P (dC, dI) vwCl [(d0, .inr (6, [.int (iZ N), .ref r0, .ref a0, .ref w0, .ref p0, .ref i0, .int (iZ bg), .int (iZ en), .int (iZ fl), .int (iZ rs)])), (a0, .inr (2, [.ref a1, .int (iZ (k + 1))])), (a1, .inl (cB, 600, .inl (fun j => iZ (Int.bmod ((va_up w k.toNat (Int.bmod ((((v).toUInt64 >>> (((iZ (8 * i))).toInt64.toUInt64 &&& Int64.toUInt64 63)).toInt64).toInt32.toInt) 256)) j) 256))))] H := hP
                have hD : va_D A [(d0, .inr (6, [.int (iZ N), .ref r0, .ref a0, .ref w0, .ref p0, .ref i0, .int (iZ bg), .int (iZ en), .int (iZ fl), .int (iZ rs)])), (a0, .inr (2, [.ref a1, .int (iZ (k + 1))])), (a1, .inl (cB, 600, .inl (fun j => iZ (Int.bmod ((va_up w k.toNat (Int.bmod ((((v).toUInt64 >>> (((iZ (8 * i))).toInt64.toUInt64 &&& Int64.toUInt64 63)).toInt64).toInt32.toInt) 256)) j) 256))))] := hD
                refine lv_iinc (v := iZ (i + (-1))) (lv' := [(4, .int (iZ (i + (-1)))), (0, .ref d0), (1, .long v), (3, .int (iZ n))]) hx hb d_De_put_49 hl (k := 3) rfl (iZ_add _ _) (by decide) rfl (fun ls hl => ?_)
                refine lv_goto (tgt := 29) hx hb d_De_put_52 (by decide) ?_
                exact ih (i + (-1)) (k + 1) (va_up w k.toNat (Int.bmod ((((v).toUInt64 >>> (((iZ (8 * i))).toInt64.toUInt64 &&& Int64.toUInt64 63)).toInt64).toInt32.toInt) 256)) H _ ls (by omega) (by omega) (by rw [← hw, pU_succ (i := i) (k := k) (w := w) (by omega), show (i + -1 + 1).toNat = i.toNat by omega]; rfl) (by omega) hP hD hS (lv_sub hl [1, 2, 3, 0] rfl)
          exact loop29 (Int.toNat ((n - 1) + 1) + 1) (n - 1) cnt uh H _ ls (by omega) (by omega) (by congr 1; omega) (by omega) hP hD hS (lv_sub hl [1, 2, 3, 0] rfl)
        · exfalso; omega
      · rw [if_neg b_3]
        refine zz_if_ne (tgt := 24) hx hb d_De_put_19 (by decide) ⟨by omega, by omega⟩ (fun c_6 => ?_) (fun c_6 => ?_)
        · exfalso; omega
        · refine lv_iconst (v := iZ 0) hx hb d_De_put_22 rfl ?_
          have eW : ∀ (x0 y0 : Int) (x1 y1 : Nat → Int), x0 = y0 → x1 = y1 → ([(d0, .inr (6, [.int (iZ N), .ref r0, .ref a0, .ref w0, .ref p0, .ref i0, .int (iZ bg), .int (iZ en), .int (iZ fl), .int (iZ rs)])), (a0, .inr (2, [.ref a1, .int (iZ x0)])), (a1, .inl (cB, 600, .inl (fun j => iZ (Int.bmod (x1 j) 256))))] : va_W) = [(d0, .inr (6, [.int (iZ N), .ref r0, .ref a0, .ref w0, .ref p0, .ref i0, .int (iZ bg), .int (iZ en), .int (iZ fl), .int (iZ rs)])), (a0, .inr (2, [.ref a1, .int (iZ y0)])), (a1, .inl (cB, 600, .inl (fun j => iZ (Int.bmod (y1 j) 256))))] := by intros; subst_vars; rfl
          have eW := eW cnt (if ((1 ≤ n ∧ n ≤ 8) ∧ n ≤ 600 - cnt) then cnt + n else cnt) uh (if ((1 ≤ n ∧ n ≤ 8) ∧ n ≤ 600 - cnt) then pU v n.toNat cnt uh else uh) ((if_neg (fun h => by omega)).symm) ((if_neg (fun h => by omega)).symm)
          have hP : va_P (dC, dI) vwCl [(d0, .inr (6, [.int (iZ N), .ref r0, .ref a0, .ref w0, .ref p0, .ref i0, .int (iZ bg), .int (iZ en), .int (iZ fl), .int (iZ rs)])), (a0, .inr (2, [.ref a1, .int (iZ (if ((1 ≤ n ∧ n ≤ 8) ∧ n ≤ 600 - cnt) then cnt + n else cnt))])), (a1, .inl (cB, 600, .inl (fun j => iZ (Int.bmod ((if ((1 ≤ n ∧ n ≤ 8) ∧ n ≤ 600 - cnt) then pU v n.toNat cnt uh else uh) j) 256))))] H := eW ▸ hP
          have hD : va_D A [(d0, .inr (6, [.int (iZ N), .ref r0, .ref a0, .ref w0, .ref p0, .ref i0, .int (iZ bg), .int (iZ en), .int (iZ fl), .int (iZ rs)])), (a0, .inr (2, [.ref a1, .int (iZ (if ((1 ≤ n ∧ n ≤ 8) ∧ n ≤ 600 - cnt) then cnt + n else cnt))])), (a1, .inl (cB, 600, .inl (fun j => iZ (Int.bmod ((if ((1 ≤ n ∧ n ≤ 8) ∧ n ≤ 600 - cnt) then pU v n.toNat cnt uh else uh) j) 256))))] := eW ▸ hD
          subst hQ
          exact W.zret (v := (iZ 0)) hx hb hr rfl (fun t ht hW => ⟨⟨_, (), rfl, (congrArg iZ (if_neg (fun h => by omega)).symm), by rw [ht]; exact hP, va_K.moved hW.alike hK, hAe ▸ hD⟩, hAe ▸ hS.F ht⟩) (hAe ▸ hS.2.2) d_De_put_23
set_option maxHeartbeats 4000000 in
set_option maxRecDepth 100000 in
/-- fill -/
theorem c_De_fill (l : Launch) (dC : Nat → ClassId) (dI : Nat → Nat → Nat) (cB : ClassId) (cI : ClassId) (cJ : ClassId) (cZ : ClassId) (cQ : ClassId) (d0 r0 a0 w0 p0 i0 a1 : Nat) (sz : Nat) (N : Int) (bg : Int) (en : Int) (fl : Int) (rs : Int) (cnt : Int) (uh : Nat → Int) (v : Int) (n : Int) (hc : 0 ≤ cnt ∧ cnt ≤ 600) (hn0 : iB n) : Met l y_De_fill ((Cond.code y_De_fill prog_1_method_3_code 4 (some .boolean)) :: gw) ({ frames := 1, cells := 0, slots := 0, locals := 21 } : Room) (zPc (dC, dI) [(cB, .byte), (cI, .int), (cJ, .long), (cZ, .boolean), (cQ, .object "LogDesk$Block")] [.ref d0, .int (iZ v), .int (iZ n)] [(d0, .inr (6, [.int (iZ N), .ref r0, .ref a0, .ref w0, .ref p0, .ref i0, .int (iZ bg), .int (iZ en), .int (iZ fl), .int (iZ rs)])), (a0, .inr (2, [.ref a1, .int (iZ cnt)])), (a1, .inl (cB, 600, .inl (fun j => iZ (Int.bmod (uh j) 256))))] sz) (va_Qi (fun (r : Int32) (_ : Unit) => r = iZ (if ((1 ≤ n ∧ n ≤ 600) ∧ n ≤ 600 - cnt) then 1 else 0)) (zB (dC, dI) [(cB, .byte), (cI, .int), (cJ, .long), (cZ, .boolean), (cQ, .object "LogDesk$Block")] (va_A [(d0, .inr (6, [.int (iZ N), .ref r0, .ref a0, .ref w0, .ref p0, .ref i0, .int (iZ bg), .int (iZ en), .int (iZ fl), .int (iZ rs)])), (a0, .inr (2, [.ref a1, .int (iZ cnt)])), (a1, .inl (cB, 600, .inl (fun j => iZ (Int.bmod (uh j) 256))))] sz) [(d0, .inr (6, [.int (iZ N), .ref r0, .ref a0, .ref w0, .ref p0, .ref i0, .int (iZ bg), .int (iZ en), .int (iZ fl), .int (iZ rs)])), (a0, .inr (2, [.ref a1, .int (iZ (if ((1 ≤ n ∧ n ≤ 600) ∧ n ≤ 600 - cnt) then cnt + n else cnt))])), (a1, .inl (cB, 600, .inl (fun j => iZ (Int.bmod ((if ((1 ≤ n ∧ n ≤ 600) ∧ n ≤ 600 - cnt) then (fun j : Nat => if cnt ≤ (j : Int) ∧ (j : Int) < cnt + n then Int.bmod v 256 else uh j) else uh) j) 256))))]) (va_A [(d0, .inr (6, [.int (iZ N), .ref r0, .ref a0, .ref w0, .ref p0, .ref i0, .int (iZ bg), .int (iZ en), .int (iZ fl), .int (iZ rs)])), (a0, .inr (2, [.ref a1, .int (iZ cnt)])), (a1, .inl (cB, 600, .inl (fun j => iZ (Int.bmod (uh j) 256))))] sz)) 0 0 (va_A [(d0, .inr (6, [.int (iZ N), .ref r0, .ref a0, .ref w0, .ref p0, .ref i0, .int (iZ bg), .int (iZ en), .int (iZ fl), .int (iZ rs)])), (a0, .inr (2, [.ref a1, .int (iZ cnt)])), (a1, .inl (cB, 600, .inl (fun j => iZ (Int.bmod (uh j) 256))))] sz) := by
  refine Met.ofW (cc := prog_1_method_3_code) (maxL := 4) (ret := (some .boolean)) (by decide) rfl ?_
  intro p e s m args below meth c s₁ B hml hv
  obtain ⟨rfl, hsz, hP, hK, hD0, hZ⟩ := hv
  have hx := B.exec
  have hb := B.bytes
  have hr := B.returns
  have hts := atoms_spec (ws := (Cond.code y_De_fill prog_1_method_3_code 4 (some .boolean)) :: gw) B.pre
  have htg : ∀ w ∈ gw, w.before _ s = true := fun w h => hts w (List.mem_cons_of_mem _ h)
  have hown : s.vm.findClass "LogDesk" = some m.cls := findClass_of_methodNamed B.named
  have hlocks := B.notSynchronized
  subst hsz
  have hD := hD0.self (sz := s.heap.size)
  generalize hAe : va_A [(d0, .inr (6, [.int (iZ N), .ref r0, .ref a0, .ref w0, .ref p0, .ref i0, .int (iZ bg), .int (iZ en), .int (iZ fl), .int (iZ rs)])), (a0, .inr (2, [.ref a1, .int (iZ cnt)])), (a1, .inl (cB, 600, .inl (fun j => iZ (Int.bmod (uh j) 256))))] s.heap.size = A at hD ⊢
  have hRc : (headSpec ((Cond.code y_De_fill prog_1_method_3_code 4 (some .boolean)) :: gw) ({ frames := 1, cells := 0, slots := 0, locals := 21 } : Room)).room.cells = 0 := rfl
  have hRs : (headSpec ((Cond.code y_De_fill prog_1_method_3_code 4 (some .boolean)) :: gw) ({ frames := 1, cells := 0, slots := 0, locals := 21 } : Room)).room.slots = 0 := rfl
  generalize hQ : MQ below (va_Qi (fun (r : Int32) (_ : Unit) => r = iZ (if ((1 ≤ n ∧ n ≤ 600) ∧ n ≤ 600 - cnt) then 1 else 0)) (zB (dC, dI) [(cB, .byte), (cI, .int), (cJ, .long), (cZ, .boolean), (cQ, .object "LogDesk$Block")] A [(d0, .inr (6, [.int (iZ N), .ref r0, .ref a0, .ref w0, .ref p0, .ref i0, .int (iZ bg), .int (iZ en), .int (iZ fl), .int (iZ rs)])), (a0, .inr (2, [.ref a1, .int (iZ (if ((1 ≤ n ∧ n ≤ 600) ∧ n ≤ 600 - cnt) then cnt + n else cnt))])), (a1, .inl (cB, 600, .inl (fun j => iZ (Int.bmod ((if ((1 ≤ n ∧ n ≤ 600) ∧ n ≤ 600 - cnt) then (fun j : Nat => if cnt ≤ (j : Int) ∧ (j : Int) < cnt + n then Int.bmod v 256 else uh j) else uh) j) 256))))]) A) [.ref d0, .int (iZ v), .int (iZ n)].toArray s 0 0 A = QQ
  have hA : ∀ q : Nat, s.heap.size ≤ q → A q := fun q h => by rw [← hAe]; exact Or.inr h
  have hS : va_S A s.heap s.heap [] := va_S.rf
  have hP : va_P (dC, dI) vwCl [(d0, .inr (6, [.int (iZ N), .ref r0, .ref a0, .ref w0, .ref p0, .ref i0, .int (iZ bg), .int (iZ en), .int (iZ fl), .int (iZ rs)])), (a0, .inr (2, [.ref a1, .int (iZ cnt)])), (a1, .inl (cB, 600, .inl (fun j => iZ (Int.bmod (uh j) 256))))] s.heap := hP
  have hl := lv_entry ([.ref d0, .int (iZ v), .int (iZ n)]) (n := 4) (Nat.le_of_ble_eq_true rfl)
  rw [lg_entry_eq]
  generalize (lg_sl ([.ref d0, .int (iZ v), .int (iZ n)]) ++ List.replicate (4 - (lg_sl ([.ref d0, .int (iZ v), .int (iZ n)])).length) Slot.unset).toArray = ls at hl ⊢
  have hl : lv_has ls 4 [(0, .ref d0), (1, .int (iZ v)), (2, .int (iZ n))] := hl
  obtain ⟨hn1, hn2⟩ := id hn0
  refine lv_iload_n hx hb d_De_fill_0 rfl (lv_at hl 2 rfl) ?_
  refine lv_iconst (v := iZ 1) hx hb d_De_fill_1 rfl ?_
  refine zz_icmp_lt (tgt := 23) hx hb d_De_fill_2 (by decide) ⟨by omega, by omega⟩ ⟨by omega, by omega⟩ (fun c_1 => ?_) (fun c_1 => ?_)
  · refine lv_iconst (v := iZ 0) hx hb d_De_fill_23 rfl ?_
    have eW : ∀ (x0 y0 : Int) (x1 y1 : Nat → Int), x0 = y0 → x1 = y1 → ([(d0, .inr (6, [.int (iZ N), .ref r0, .ref a0, .ref w0, .ref p0, .ref i0, .int (iZ bg), .int (iZ en), .int (iZ fl), .int (iZ rs)])), (a0, .inr (2, [.ref a1, .int (iZ x0)])), (a1, .inl (cB, 600, .inl (fun j => iZ (Int.bmod (x1 j) 256))))] : va_W) = [(d0, .inr (6, [.int (iZ N), .ref r0, .ref a0, .ref w0, .ref p0, .ref i0, .int (iZ bg), .int (iZ en), .int (iZ fl), .int (iZ rs)])), (a0, .inr (2, [.ref a1, .int (iZ y0)])), (a1, .inl (cB, 600, .inl (fun j => iZ (Int.bmod (y1 j) 256))))] := by intros; subst_vars; rfl
    have eW := eW cnt (if ((1 ≤ n ∧ n ≤ 600) ∧ n ≤ 600 - cnt) then cnt + n else cnt) uh (if ((1 ≤ n ∧ n ≤ 600) ∧ n ≤ 600 - cnt) then (fun j : Nat => if cnt ≤ (j : Int) ∧ (j : Int) < cnt + n then Int.bmod v 256 else uh j) else uh) ((if_neg (fun h => by omega)).symm) ((if_neg (fun h => by omega)).symm)
    have hP : va_P (dC, dI) vwCl [(d0, .inr (6, [.int (iZ N), .ref r0, .ref a0, .ref w0, .ref p0, .ref i0, .int (iZ bg), .int (iZ en), .int (iZ fl), .int (iZ rs)])), (a0, .inr (2, [.ref a1, .int (iZ (if ((1 ≤ n ∧ n ≤ 600) ∧ n ≤ 600 - cnt) then cnt + n else cnt))])), (a1, .inl (cB, 600, .inl (fun j => iZ (Int.bmod ((if ((1 ≤ n ∧ n ≤ 600) ∧ n ≤ 600 - cnt) then (fun j : Nat => if cnt ≤ (j : Int) ∧ (j : Int) < cnt + n then Int.bmod v 256 else uh j) else uh) j) 256))))] s.heap := eW ▸ hP
    have hD : va_D A [(d0, .inr (6, [.int (iZ N), .ref r0, .ref a0, .ref w0, .ref p0, .ref i0, .int (iZ bg), .int (iZ en), .int (iZ fl), .int (iZ rs)])), (a0, .inr (2, [.ref a1, .int (iZ (if ((1 ≤ n ∧ n ≤ 600) ∧ n ≤ 600 - cnt) then cnt + n else cnt))])), (a1, .inl (cB, 600, .inl (fun j => iZ (Int.bmod ((if ((1 ≤ n ∧ n ≤ 600) ∧ n ≤ 600 - cnt) then (fun j : Nat => if cnt ≤ (j : Int) ∧ (j : Int) < cnt + n then Int.bmod v 256 else uh j) else uh) j) 256))))] := eW ▸ hD
    subst hQ
    exact W.zret (v := (iZ 0)) hx hb hr rfl (fun t ht hW => ⟨⟨_, (), rfl, (congrArg iZ (if_neg (fun h => by omega)).symm), by rw [ht]; exact hP, va_K.moved hW.alike hK, hAe ▸ hD⟩, hAe ▸ hS.F ht⟩) (hAe ▸ hS.2.2) d_De_fill_24
  · refine lv_iload_n hx hb d_De_fill_5 rfl (lv_at hl 2 rfl) ?_
    refine lv_sipush (v := iZ 600) hx hb d_De_fill_6 (by decide) ?_
    refine zz_icmp_gt (tgt := 23) hx hb d_De_fill_9 (by decide) ⟨by omega, by omega⟩ ⟨by omega, by omega⟩ (fun c_2 => ?_) (fun c_2 => ?_)
    · refine lv_iconst (v := iZ 0) hx hb d_De_fill_23 rfl ?_
      have eW : ∀ (x0 y0 : Int) (x1 y1 : Nat → Int), x0 = y0 → x1 = y1 → ([(d0, .inr (6, [.int (iZ N), .ref r0, .ref a0, .ref w0, .ref p0, .ref i0, .int (iZ bg), .int (iZ en), .int (iZ fl), .int (iZ rs)])), (a0, .inr (2, [.ref a1, .int (iZ x0)])), (a1, .inl (cB, 600, .inl (fun j => iZ (Int.bmod (x1 j) 256))))] : va_W) = [(d0, .inr (6, [.int (iZ N), .ref r0, .ref a0, .ref w0, .ref p0, .ref i0, .int (iZ bg), .int (iZ en), .int (iZ fl), .int (iZ rs)])), (a0, .inr (2, [.ref a1, .int (iZ y0)])), (a1, .inl (cB, 600, .inl (fun j => iZ (Int.bmod (y1 j) 256))))] := by intros; subst_vars; rfl
      have eW := eW cnt (if ((1 ≤ n ∧ n ≤ 600) ∧ n ≤ 600 - cnt) then cnt + n else cnt) uh (if ((1 ≤ n ∧ n ≤ 600) ∧ n ≤ 600 - cnt) then (fun j : Nat => if cnt ≤ (j : Int) ∧ (j : Int) < cnt + n then Int.bmod v 256 else uh j) else uh) ((if_neg (fun h => by omega)).symm) ((if_neg (fun h => by omega)).symm)
      have hP : va_P (dC, dI) vwCl [(d0, .inr (6, [.int (iZ N), .ref r0, .ref a0, .ref w0, .ref p0, .ref i0, .int (iZ bg), .int (iZ en), .int (iZ fl), .int (iZ rs)])), (a0, .inr (2, [.ref a1, .int (iZ (if ((1 ≤ n ∧ n ≤ 600) ∧ n ≤ 600 - cnt) then cnt + n else cnt))])), (a1, .inl (cB, 600, .inl (fun j => iZ (Int.bmod ((if ((1 ≤ n ∧ n ≤ 600) ∧ n ≤ 600 - cnt) then (fun j : Nat => if cnt ≤ (j : Int) ∧ (j : Int) < cnt + n then Int.bmod v 256 else uh j) else uh) j) 256))))] s.heap := eW ▸ hP
      have hD : va_D A [(d0, .inr (6, [.int (iZ N), .ref r0, .ref a0, .ref w0, .ref p0, .ref i0, .int (iZ bg), .int (iZ en), .int (iZ fl), .int (iZ rs)])), (a0, .inr (2, [.ref a1, .int (iZ (if ((1 ≤ n ∧ n ≤ 600) ∧ n ≤ 600 - cnt) then cnt + n else cnt))])), (a1, .inl (cB, 600, .inl (fun j => iZ (Int.bmod ((if ((1 ≤ n ∧ n ≤ 600) ∧ n ≤ 600 - cnt) then (fun j : Nat => if cnt ≤ (j : Int) ∧ (j : Int) < cnt + n then Int.bmod v 256 else uh j) else uh) j) 256))))] := eW ▸ hD
      subst hQ
      exact W.zret (v := (iZ 0)) hx hb hr rfl (fun t ht hW => ⟨⟨_, (), rfl, (congrArg iZ (if_neg (fun h => by omega)).symm), by rw [ht]; exact hP, va_K.moved hW.alike hK, hAe ▸ hD⟩, hAe ▸ hS.F ht⟩) (hAe ▸ hS.2.2) d_De_fill_24
    · refine lv_aload_n hx hb d_De_fill_12 rfl (lv_at hl 0 rfl) ?_
      refine va_get (D := (dC, dI)) (ci := 6) (v := .ref a0) (C := "LogDesk") (T := F_De) (N := 10) hx hb htg hin_De hown hK hP 0 rfl rfl 2 (by decide) (htg _ k_92) (fun _ h9 => h9) rfl d_De_fill_13 ?_
      refine lv_iload_n hx hb d_De_fill_16 rfl (lv_at hl 2 rfl) ?_
      refine z_i (wr := [(d0, .inr (6, [.int (iZ N), .ref r0, .ref a0, .ref w0, .ref p0, .ref i0, .int (iZ bg), .int (iZ en), .int (iZ fl), .int (iZ rs)]))]) (va_runV (As := [.int (iZ n)]) (rest := []) ⟨hx, hb, hml, hown, htg⟩ (c_Ha_hasRoomFor l dC dI cB cI cJ cZ cQ a0 a1 s.heap.size cnt uh n hc hn0) (cwV 1 htg (gw_V k_125 k_126 k_127 k_3 k_128) rfl rfl rfl (by decide +kernel) ⟨Nat.le_of_ble_eq_true rfl, Nat.le_of_ble_eq_true rfl⟩) (zPreV hK hP hD hZ [1, 2] rfl (by decide) 1 (ci := 2) rfl rfl) rfl rfl hl.1 rfl (lv_room (Nat.le_of_ble_eq_true rfl)) d_De_fill_17 ⟨by omega, by omega⟩) hP hD hS hA [1, 2] [0] rfl rfl (by decide) (by decide) (fun H locs hP hD hS => ?_)
      have hP : va_P (dC, dI) vwCl [(d0, .inr (6, [.int (iZ N), .ref r0, .ref a0, .ref w0, .ref p0, .ref i0, .int (iZ bg), .int (iZ en), .int (iZ fl), .int (iZ rs)])), (a0, .inr (2, [.ref a1, .int (iZ cnt)])), (a1, .inl (cB, 600, .inl (fun j => iZ (Int.bmod (uh j) 256))))] H := hP
      have hD : va_D A [(d0, .inr (6, [.int (iZ N), .ref r0, .ref a0, .ref w0, .ref p0, .ref i0, .int (iZ bg), .int (iZ en), .int (iZ fl), .int (iZ rs)])), (a0, .inr (2, [.ref a1, .int (iZ cnt)])), (a1, .inl (cB, 600, .inl (fun j => iZ (Int.bmod (uh j) 256))))] := hD
      rcases Classical.em (n ≤ 600 - cnt) with b_3 | b_3
      · rw [if_pos b_3]
        refine zz_if_ne (tgt := 25) hx hb d_De_fill_20 (by decide) ⟨by omega, by omega⟩ (fun c_4 => ?_) (fun c_4 => ?_)
        · refine lv_iconst (v := iZ 0) hx hb d_De_fill_25 rfl ?_
          refine lv_istore_n (lv' := [(3, .int (iZ 0)), (0, .ref d0), (1, .int (iZ v)), (2, .int (iZ n))]) hx hb d_De_fill_26 rfl hl (by decide) rfl (fun ls hl => ?_)
          have loop27 : ∀ (nn : Nat) (i : Int) (k : Int) (w : Nat → Int) (H : Heap) (locs : List Loc) (ls : Array Slot), (0 ≤ i ∧ i ≤ n) → (k = cnt + i) → (∀ j : Nat, w j = if cnt ≤ (j : Int) ∧ (j : Int) < k then Int.bmod v 256 else uh j) → (n - i < (nn : Int)) → va_P (dC, dI) vwCl [(d0, .inr (6, [.int (iZ N), .ref r0, .ref a0, .ref w0, .ref p0, .ref i0, .int (iZ bg), .int (iZ en), .int (iZ fl), .int (iZ rs)])), (a0, .inr (2, [.ref a1, .int (iZ k)])), (a1, .inl (cB, 600, .inl (fun j => iZ (Int.bmod (w j) 256))))] H → va_D A [(d0, .inr (6, [.int (iZ N), .ref r0, .ref a0, .ref w0, .ref p0, .ref i0, .int (iZ bg), .int (iZ en), .int (iZ fl), .int (iZ rs)])), (a0, .inr (2, [.ref a1, .int (iZ k)])), (a1, .inl (cB, 600, .inl (fun j => iZ (Int.bmod (w j) 256))))] → va_S A s.heap H locs → lv_has ls 4 [(0, .ref d0), (1, .int (iZ v)), (2, .int (iZ n)), (3, .int (iZ i))] → W p l e (headSpec ((Cond.code y_De_fill prog_1_method_3_code 4 (some .boolean)) :: gw) ({ frames := 1, cells := 0, slots := 0, locals := 21 } : Room)).room s m [.ref d0, .int (iZ v), .int (iZ n)].toArray below meth c H locs 0 0 QQ (F0 m 27 ls []) := by
            intro nn
            induction nn with
            | zero => intro i k w H locs ls hi hk hw hm hP hD hS hl; exfalso; omega
            | succ nn ih =>
              intro i k w H locs ls hi hk hw hm hP hD hS hl
              refine lv_iload_n hx hb d_De_fill_27 rfl (lv_at hl 3 rfl) ?_
              refine lv_iload_n hx hb d_De_fill_28 rfl (lv_at hl 2 rfl) ?_
              refine zz_icmp_ge (tgt := 46) hx hb d_De_fill_29 (by decide) ⟨by omega, by omega⟩ ⟨by omega, by omega⟩ (fun c_5 => ?_) (fun c_5 => ?_)
              · refine lv_iconst (v := iZ 1) hx hb d_De_fill_46 rfl ?_
                have eW : ∀ (x0 y0 : Int) (x1 y1 : Nat → Int), x0 = y0 → x1 = y1 → ([(d0, .inr (6, [.int (iZ N), .ref r0, .ref a0, .ref w0, .ref p0, .ref i0, .int (iZ bg), .int (iZ en), .int (iZ fl), .int (iZ rs)])), (a0, .inr (2, [.ref a1, .int (iZ x0)])), (a1, .inl (cB, 600, .inl (fun j => iZ (Int.bmod (x1 j) 256))))] : va_W) = [(d0, .inr (6, [.int (iZ N), .ref r0, .ref a0, .ref w0, .ref p0, .ref i0, .int (iZ bg), .int (iZ en), .int (iZ fl), .int (iZ rs)])), (a0, .inr (2, [.ref a1, .int (iZ y0)])), (a1, .inl (cB, 600, .inl (fun j => iZ (Int.bmod (y1 j) 256))))] := by intros; subst_vars; rfl
                have eW := eW k (if ((1 ≤ n ∧ n ≤ 600) ∧ n ≤ 600 - cnt) then cnt + n else cnt) w (if ((1 ≤ n ∧ n ≤ 600) ∧ n ≤ 600 - cnt) then (fun j : Nat => if cnt ≤ (j : Int) ∧ (j : Int) < cnt + n then Int.bmod v 256 else uh j) else uh) (by rw [if_pos (show ((1 ≤ n ∧ n ≤ 600) ∧ n ≤ 600 - cnt) from ⟨⟨by omega, by omega⟩, by omega⟩)]; omega) (by rw [if_pos (show ((1 ≤ n ∧ n ≤ 600) ∧ n ≤ 600 - cnt) from ⟨⟨by omega, by omega⟩, by omega⟩)]; funext j; rw [hw j, show k = cnt + n by omega])
                have hP : va_P (dC, dI) vwCl [(d0, .inr (6, [.int (iZ N), .ref r0, .ref a0, .ref w0, .ref p0, .ref i0, .int (iZ bg), .int (iZ en), .int (iZ fl), .int (iZ rs)])), (a0, .inr (2, [.ref a1, .int (iZ (if ((1 ≤ n ∧ n ≤ 600) ∧ n ≤ 600 - cnt) then cnt + n else cnt))])), (a1, .inl (cB, 600, .inl (fun j => iZ (Int.bmod ((if ((1 ≤ n ∧ n ≤ 600) ∧ n ≤ 600 - cnt) then (fun j : Nat => if cnt ≤ (j : Int) ∧ (j : Int) < cnt + n then Int.bmod v 256 else uh j) else uh) j) 256))))] H := eW ▸ hP
                have hD : va_D A [(d0, .inr (6, [.int (iZ N), .ref r0, .ref a0, .ref w0, .ref p0, .ref i0, .int (iZ bg), .int (iZ en), .int (iZ fl), .int (iZ rs)])), (a0, .inr (2, [.ref a1, .int (iZ (if ((1 ≤ n ∧ n ≤ 600) ∧ n ≤ 600 - cnt) then cnt + n else cnt))])), (a1, .inl (cB, 600, .inl (fun j => iZ (Int.bmod ((if ((1 ≤ n ∧ n ≤ 600) ∧ n ≤ 600 - cnt) then (fun j : Nat => if cnt ≤ (j : Int) ∧ (j : Int) < cnt + n then Int.bmod v 256 else uh j) else uh) j) 256))))] := eW ▸ hD
                subst hQ
                exact W.zret (v := (iZ 1)) hx hb hr rfl (fun t ht hW => ⟨⟨_, (), rfl, (congrArg iZ (if_pos (show ((1 ≤ n ∧ n ≤ 600) ∧ n ≤ 600 - cnt) from ⟨⟨by omega, by omega⟩, by omega⟩)).symm), by rw [ht]; exact hP, va_K.moved hW.alike hK, hAe ▸ hD⟩, hAe ▸ hS.F ht⟩) (hAe ▸ hS.2.2) d_De_fill_47
              · refine lv_aload_n hx hb d_De_fill_32 rfl (lv_at hl 0 rfl) ?_
                refine va_get (D := (dC, dI)) (ci := 6) (v := .ref a0) (C := "LogDesk") (T := F_De) (N := 10) hx hb htg hin_De hown hK hP 0 rfl rfl 2 (by decide) (htg _ k_92) (fun _ h9 => h9) rfl d_De_fill_33 ?_
                refine lv_iload_n hx hb d_De_fill_36 rfl (lv_at hl 1 rfl) ?_
                refine z_v (wr := [(d0, .inr (6, [.int (iZ N), .ref r0, .ref a0, .ref w0, .ref p0, .ref i0, .int (iZ bg), .int (iZ en), .int (iZ fl), .int (iZ rs)]))]) (va_runV (As := [.int (iZ v)]) (rest := []) ⟨hx, hb, hml, hown, htg⟩ (c_Ha_add l dC dI cB cI cJ cZ cQ a0 a1 H.size k w v (by omega)) (cwV 1 htg (gw_V k_129 k_130 k_131 k_3 k_132) rfl rfl rfl (by decide +kernel) ⟨Nat.le_of_ble_eq_true rfl, Nat.le_of_ble_eq_true rfl⟩) (zPreV hK hP hD hZ [1, 2] rfl (by decide) 1 (ci := 2) rfl rfl) rfl rfl hl.1 rfl (lv_room (Nat.le_of_ble_eq_true rfl)) d_De_fill_37 ⟨by omega, by omega⟩) hP hD hS hA [1, 2] [0] rfl rfl (by decide) (by decide) (fun H locs hP hD hS => ?_)
                have hP : va_P (dC, dI) vwCl [(d0, .inr (6, [.int (iZ N), .ref r0, .ref a0, .ref w0, .ref p0, .ref i0, .int (iZ bg), .int (iZ en), .int (iZ fl), .int (iZ rs)])), (a0, .inr (2, [.ref a1, .int (iZ (k + 1))])), (a1, .inl (cB, 600, .inl (fun j => iZ (Int.bmod ((va_up w k.toNat (Int.bmod v 256)) j) 256))))] H := hP
                have hD : va_D A [(d0, .inr (6, [.int (iZ N), .ref r0, .ref a0, .ref w0, .ref p0, .ref i0, .int (iZ bg), .int (iZ en), .int (iZ fl), .int (iZ rs)])), (a0, .inr (2, [.ref a1, .int (iZ (k + 1))])), (a1, .inl (cB, 600, .inl (fun j => iZ (Int.bmod ((va_up w k.toNat (Int.bmod v 256)) j) 256))))] := hD
                refine lv_iinc (v := iZ (i + 1)) (lv' := [(3, .int (iZ (i + 1))), (0, .ref d0), (1, .int (iZ v)), (2, .int (iZ n))]) hx hb d_De_fill_40 hl (k := 3) rfl (iZ_add _ _) (by decide) rfl (fun ls hl => ?_)
                refine lv_goto (tgt := 27) hx hb d_De_fill_43 (by decide) ?_
                exact ih (i + 1) (k + 1) (va_up w k.toNat (Int.bmod v 256)) H _ ls (by omega) (by omega) (fU_step (by omega) (by omega) hw) (by omega) hP hD hS (lv_sub hl [1, 2, 3, 0] rfl)
          exact loop27 (Int.toNat (n - 0) + 1) 0 cnt uh H _ ls (by omega) (by omega) (fun j => (if_neg (by omega)).symm) (by omega) hP hD hS (lv_sub hl [1, 2, 3, 0] rfl)
        · exfalso; omega
      · rw [if_neg b_3]
        refine zz_if_ne (tgt := 25) hx hb d_De_fill_20 (by decide) ⟨by omega, by omega⟩ (fun c_6 => ?_) (fun c_6 => ?_)
        · exfalso; omega
        · refine lv_iconst (v := iZ 0) hx hb d_De_fill_23 rfl ?_
          have eW : ∀ (x0 y0 : Int) (x1 y1 : Nat → Int), x0 = y0 → x1 = y1 → ([(d0, .inr (6, [.int (iZ N), .ref r0, .ref a0, .ref w0, .ref p0, .ref i0, .int (iZ bg), .int (iZ en), .int (iZ fl), .int (iZ rs)])), (a0, .inr (2, [.ref a1, .int (iZ x0)])), (a1, .inl (cB, 600, .inl (fun j => iZ (Int.bmod (x1 j) 256))))] : va_W) = [(d0, .inr (6, [.int (iZ N), .ref r0, .ref a0, .ref w0, .ref p0, .ref i0, .int (iZ bg), .int (iZ en), .int (iZ fl), .int (iZ rs)])), (a0, .inr (2, [.ref a1, .int (iZ y0)])), (a1, .inl (cB, 600, .inl (fun j => iZ (Int.bmod (y1 j) 256))))] := by intros; subst_vars; rfl
          have eW := eW cnt (if ((1 ≤ n ∧ n ≤ 600) ∧ n ≤ 600 - cnt) then cnt + n else cnt) uh (if ((1 ≤ n ∧ n ≤ 600) ∧ n ≤ 600 - cnt) then (fun j : Nat => if cnt ≤ (j : Int) ∧ (j : Int) < cnt + n then Int.bmod v 256 else uh j) else uh) ((if_neg (fun h => by omega)).symm) ((if_neg (fun h => by omega)).symm)
          have hP : va_P (dC, dI) vwCl [(d0, .inr (6, [.int (iZ N), .ref r0, .ref a0, .ref w0, .ref p0, .ref i0, .int (iZ bg), .int (iZ en), .int (iZ fl), .int (iZ rs)])), (a0, .inr (2, [.ref a1, .int (iZ (if ((1 ≤ n ∧ n ≤ 600) ∧ n ≤ 600 - cnt) then cnt + n else cnt))])), (a1, .inl (cB, 600, .inl (fun j => iZ (Int.bmod ((if ((1 ≤ n ∧ n ≤ 600) ∧ n ≤ 600 - cnt) then (fun j : Nat => if cnt ≤ (j : Int) ∧ (j : Int) < cnt + n then Int.bmod v 256 else uh j) else uh) j) 256))))] H := eW ▸ hP
          have hD : va_D A [(d0, .inr (6, [.int (iZ N), .ref r0, .ref a0, .ref w0, .ref p0, .ref i0, .int (iZ bg), .int (iZ en), .int (iZ fl), .int (iZ rs)])), (a0, .inr (2, [.ref a1, .int (iZ (if ((1 ≤ n ∧ n ≤ 600) ∧ n ≤ 600 - cnt) then cnt + n else cnt))])), (a1, .inl (cB, 600, .inl (fun j => iZ (Int.bmod ((if ((1 ≤ n ∧ n ≤ 600) ∧ n ≤ 600 - cnt) then (fun j : Nat => if cnt ≤ (j : Int) ∧ (j : Int) < cnt + n then Int.bmod v 256 else uh j) else uh) j) 256))))] := eW ▸ hD
          subst hQ
          exact W.zret (v := (iZ 0)) hx hb hr rfl (fun t ht hW => ⟨⟨_, (), rfl, (congrArg iZ (if_neg (fun h => by omega)).symm), by rw [ht]; exact hP, va_K.moved hW.alike hK, hAe ▸ hD⟩, hAe ▸ hS.F ht⟩) (hAe ▸ hS.2.2) d_De_fill_24
set_option maxHeartbeats 4000000 in
set_option maxRecDepth 100000 in
/-- told -/
theorem c_De_told (l : Launch) (dC : Nat → ClassId) (dI : Nat → Nat → Nat) (cB : ClassId) (cI : ClassId) (cJ : ClassId) (cZ : ClassId) (cQ : ClassId) (d0 r0 a0 w0 p0 i0 w1 : Nat) (sz : Nat) (N : Int) (bg : Int) (en : Int) (fl : Int) (rs : Int) (ge : Nat → Int) (hge : ∀ j : Nat, 0 ≤ ge j ∧ ge j < 1000000000) (hpl : 0 ≤ bg ∧ bg ≤ en ∧ en ≤ 1000000000 ∧ 0 ≤ fl ∧ fl ≤ 1000000000) : Met l y_De_told ((Cond.code y_De_told prog_1_method_7_code 2 (some .int)) :: gw) ({ frames := 3, cells := 0, slots := 0, locals := 70 } : Room) (zPc (dC, dI) [(cB, .byte), (cI, .int), (cJ, .long), (cZ, .boolean), (cQ, .object "LogDesk$Block")] [.ref d0] [(d0, .inr (6, [.int (iZ N), .ref r0, .ref a0, .ref w0, .ref p0, .ref i0, .int (iZ bg), .int (iZ en), .int (iZ fl), .int (iZ rs)])), (w0, .inr (5, [.ref w1])), (w1, .inl (cI, 6, .inl (fun j => iZ (ge j))))] sz) (va_Qi (fun (r : Int32) (_ : Unit) => r = iZ (if (wfst ge 6 = -1 ∨ fl < ge (wfst ge 6).toNat) then -1 else wfst ge 6)) (zB (dC, dI) [(cB, .byte), (cI, .int), (cJ, .long), (cZ, .boolean), (cQ, .object "LogDesk$Block")] (va_A [(d0, .inr (6, [.int (iZ N), .ref r0, .ref a0, .ref w0, .ref p0, .ref i0, .int (iZ bg), .int (iZ en), .int (iZ fl), .int (iZ rs)])), (w0, .inr (5, [.ref w1])), (w1, .inl (cI, 6, .inl (fun j => iZ (ge j))))] sz) [(d0, .inr (6, [.int (iZ N), .ref r0, .ref a0, .ref w0, .ref p0, .ref i0, .int (iZ bg), .int (iZ en), .int (iZ fl), .int (iZ rs)])), (w0, .inr (5, [.ref w1])), (w1, .inl (cI, 6, .inl (fun j => iZ ((if (wfst ge 6 = -1 ∨ fl < ge (wfst ge 6).toNat) then ge else va_up ge (wfst ge 6).toNat 0) j))))]) (va_A [(d0, .inr (6, [.int (iZ N), .ref r0, .ref a0, .ref w0, .ref p0, .ref i0, .int (iZ bg), .int (iZ en), .int (iZ fl), .int (iZ rs)])), (w0, .inr (5, [.ref w1])), (w1, .inl (cI, 6, .inl (fun j => iZ (ge j))))] sz)) 0 0 (va_A [(d0, .inr (6, [.int (iZ N), .ref r0, .ref a0, .ref w0, .ref p0, .ref i0, .int (iZ bg), .int (iZ en), .int (iZ fl), .int (iZ rs)])), (w0, .inr (5, [.ref w1])), (w1, .inl (cI, 6, .inl (fun j => iZ (ge j))))] sz) := by
  refine Met.ofW (cc := prog_1_method_7_code) (maxL := 2) (ret := (some .int)) (by decide) rfl ?_
  intro p e s m args below meth c s₁ B hml hv
  obtain ⟨rfl, hsz, hP, hK, hD0, hZ⟩ := hv
  have hx := B.exec
  have hb := B.bytes
  have hr := B.returns
  have hts := atoms_spec (ws := (Cond.code y_De_told prog_1_method_7_code 2 (some .int)) :: gw) B.pre
  have htg : ∀ w ∈ gw, w.before _ s = true := fun w h => hts w (List.mem_cons_of_mem _ h)
  have hown : s.vm.findClass "LogDesk" = some m.cls := findClass_of_methodNamed B.named
  have hlocks := B.notSynchronized
  subst hsz
  have hD := hD0.self (sz := s.heap.size)
  generalize hAe : va_A [(d0, .inr (6, [.int (iZ N), .ref r0, .ref a0, .ref w0, .ref p0, .ref i0, .int (iZ bg), .int (iZ en), .int (iZ fl), .int (iZ rs)])), (w0, .inr (5, [.ref w1])), (w1, .inl (cI, 6, .inl (fun j => iZ (ge j))))] s.heap.size = A at hD ⊢
  have hRc : (headSpec ((Cond.code y_De_told prog_1_method_7_code 2 (some .int)) :: gw) ({ frames := 3, cells := 0, slots := 0, locals := 70 } : Room)).room.cells = 0 := rfl
  have hRs : (headSpec ((Cond.code y_De_told prog_1_method_7_code 2 (some .int)) :: gw) ({ frames := 3, cells := 0, slots := 0, locals := 70 } : Room)).room.slots = 0 := rfl
  have hA : ∀ q : Nat, s.heap.size ≤ q → A q := fun q h => by rw [← hAe]; exact Or.inr h
  have hS : va_S A s.heap s.heap [] := va_S.rf
  have hP : va_P (dC, dI) vwCl [(d0, .inr (6, [.int (iZ N), .ref r0, .ref a0, .ref w0, .ref p0, .ref i0, .int (iZ bg), .int (iZ en), .int (iZ fl), .int (iZ rs)])), (w0, .inr (5, [.ref w1])), (w1, .inl (cI, 6, .inl (fun j => iZ (ge j))))] s.heap := hP
  have hl := lv_entry ([.ref d0]) (n := 2) (Nat.le_of_ble_eq_true rfl)
  rw [lg_entry_eq]
  generalize (lg_sl ([.ref d0]) ++ List.replicate (2 - (lg_sl ([.ref d0])).length) Slot.unset).toArray = ls at hl ⊢
  have hl : lv_has ls 2 [(0, .ref d0)] := hl
  have hf := wfst_in ge 6
  have hg1 := hge (wfst ge 6).toNat
  refine lv_aload_n hx hb d_De_told_0 rfl (lv_at hl 0 rfl) ?_
  refine va_get (D := (dC, dI)) (ci := 6) (v := .ref w0) (C := "LogDesk") (T := F_De) (N := 10) hx hb htg hin_De hown hK hP 0 rfl rfl 3 (by decide) (htg _ k_93) (fun _ h9 => h9) rfl d_De_told_1 ?_
  refine z_i (wr := [(d0, .inr (6, [.int (iZ N), .ref r0, .ref a0, .ref w0, .ref p0, .ref i0, .int (iZ bg), .int (iZ en), .int (iZ fl), .int (iZ rs)]))]) (va_runV (As := []) (rest := []) ⟨hx, hb, hml, hown, htg⟩ (c_Wa_first l dC dI cB cI cJ cZ cQ w0 w1 s.heap.size ge hge) (cwV 0 htg (gw_V k_141 k_142 k_143 k_4 k_144) rfl rfl rfl (by decide +kernel) ⟨Nat.le_of_ble_eq_true rfl, Nat.le_of_ble_eq_true rfl⟩) (zPreV hK hP hD hZ [1, 2] rfl (by decide) 1 (ci := 5) rfl rfl) rfl rfl hl.1 rfl (lv_room (Nat.le_of_ble_eq_true rfl)) d_De_told_4 ⟨by omega, by omega⟩) hP hD hS hA [1, 2] [0] rfl rfl (by decide) (by decide) (fun H locs hP hD hS => ?_)
  have hP : va_P (dC, dI) vwCl [(d0, .inr (6, [.int (iZ N), .ref r0, .ref a0, .ref w0, .ref p0, .ref i0, .int (iZ bg), .int (iZ en), .int (iZ fl), .int (iZ rs)])), (w0, .inr (5, [.ref w1])), (w1, .inl (cI, 6, .inl (fun j => iZ (ge j))))] H := hP
  have hD : va_D A [(d0, .inr (6, [.int (iZ N), .ref r0, .ref a0, .ref w0, .ref p0, .ref i0, .int (iZ bg), .int (iZ en), .int (iZ fl), .int (iZ rs)])), (w0, .inr (5, [.ref w1])), (w1, .inl (cI, 6, .inl (fun j => iZ (ge j))))] := hD
  refine lv_istore_n (lv' := [(1, .int (iZ (wfst ge 6))), (0, .ref d0)]) hx hb d_De_told_7 rfl hl (by decide) rfl (fun ls hl => ?_)
  refine lv_iload_n hx hb d_De_told_8 rfl (lv_at hl 0 rfl) ?_
  refine lv_iconst (v := iZ (-1)) hx hb d_De_told_9 rfl ?_
  refine zz_icmp_eq (tgt := 28) hx hb d_De_told_10 (by decide) ⟨by omega, by omega⟩ ⟨by omega, by omega⟩ (fun c_1 => ?_) (fun c_1 => ?_)
  · refine lv_iconst (v := iZ (-1)) hx hb d_De_told_28 rfl ?_
    have eW : ∀ (x0 y0 : Nat → Int), x0 = y0 → ([(d0, .inr (6, [.int (iZ N), .ref r0, .ref a0, .ref w0, .ref p0, .ref i0, .int (iZ bg), .int (iZ en), .int (iZ fl), .int (iZ rs)])), (w0, .inr (5, [.ref w1])), (w1, .inl (cI, 6, .inl (fun j => iZ (x0 j))))] : va_W) = [(d0, .inr (6, [.int (iZ N), .ref r0, .ref a0, .ref w0, .ref p0, .ref i0, .int (iZ bg), .int (iZ en), .int (iZ fl), .int (iZ rs)])), (w0, .inr (5, [.ref w1])), (w1, .inl (cI, 6, .inl (fun j => iZ (y0 j))))] := by intros; subst_vars; rfl
    have eW := eW ge (if (wfst ge 6 = -1 ∨ fl < ge (wfst ge 6).toNat) then ge else va_up ge (wfst ge 6).toNat 0) ((if_pos (by omega)).symm)
    have hP : va_P (dC, dI) vwCl [(d0, .inr (6, [.int (iZ N), .ref r0, .ref a0, .ref w0, .ref p0, .ref i0, .int (iZ bg), .int (iZ en), .int (iZ fl), .int (iZ rs)])), (w0, .inr (5, [.ref w1])), (w1, .inl (cI, 6, .inl (fun j => iZ ((if (wfst ge 6 = -1 ∨ fl < ge (wfst ge 6).toNat) then ge else va_up ge (wfst ge 6).toNat 0) j))))] H := eW ▸ hP
    have hD : va_D A [(d0, .inr (6, [.int (iZ N), .ref r0, .ref a0, .ref w0, .ref p0, .ref i0, .int (iZ bg), .int (iZ en), .int (iZ fl), .int (iZ rs)])), (w0, .inr (5, [.ref w1])), (w1, .inl (cI, 6, .inl (fun j => iZ ((if (wfst ge 6 = -1 ∨ fl < ge (wfst ge 6).toNat) then ge else va_up ge (wfst ge 6).toNat 0) j))))] := eW ▸ hD
    exact W.iret (v := (iZ (-1))) hx hb hr (fun t ht hW => ⟨⟨_, (), rfl, (congrArg iZ (if_pos (by omega)).symm), by rw [ht]; exact hP, va_K.moved hW.alike hK, hAe ▸ hD⟩, hAe ▸ hS.F ht⟩) (hAe ▸ hS.2.2) d_De_told_29
  · refine lv_aload_n hx hb d_De_told_13 rfl (lv_at hl 1 rfl) ?_
    refine va_get (D := (dC, dI)) (ci := 6) (v := .ref w0) (C := "LogDesk") (T := F_De) (N := 10) hx hb htg hin_De hown hK hP 0 rfl rfl 3 (by decide) (htg _ k_93) (fun _ h9 => h9) rfl d_De_told_14 ?_
    refine lv_iload_n hx hb d_De_told_17 rfl (lv_at hl 0 rfl) ?_
    refine z_i (wr := [(d0, .inr (6, [.int (iZ N), .ref r0, .ref a0, .ref w0, .ref p0, .ref i0, .int (iZ bg), .int (iZ en), .int (iZ fl), .int (iZ rs)]))]) (va_runV (As := [.int (iZ (wfst ge 6))]) (rest := []) ⟨hx, hb, hml, hown, htg⟩ (c_Wa_endOf l dC dI cB cI cJ cZ cQ w0 w1 H.size ge (wfst ge 6) hge (⟨by omega, by omega⟩)) (cwV 1 htg (gw_V k_156 k_153 k_154 k_4 k_155) rfl rfl rfl (by decide +kernel) ⟨Nat.le_of_ble_eq_true rfl, Nat.le_of_ble_eq_true rfl⟩) (zPreV hK hP hD hZ [1, 2] rfl (by decide) 1 (ci := 5) rfl rfl) rfl rfl hl.1 rfl (lv_room (Nat.le_of_ble_eq_true rfl)) d_De_told_18 ⟨by omega, by omega⟩) hP hD hS hA [1, 2] [0] rfl rfl (by decide) (by decide) (fun H locs hP hD hS => ?_)
    have hP : va_P (dC, dI) vwCl [(d0, .inr (6, [.int (iZ N), .ref r0, .ref a0, .ref w0, .ref p0, .ref i0, .int (iZ bg), .int (iZ en), .int (iZ fl), .int (iZ rs)])), (w0, .inr (5, [.ref w1])), (w1, .inl (cI, 6, .inl (fun j => iZ (ge j))))] H := hP
    have hD : va_D A [(d0, .inr (6, [.int (iZ N), .ref r0, .ref a0, .ref w0, .ref p0, .ref i0, .int (iZ bg), .int (iZ en), .int (iZ fl), .int (iZ rs)])), (w0, .inr (5, [.ref w1])), (w1, .inl (cI, 6, .inl (fun j => iZ (ge j))))] := hD
    refine lv_aload_n hx hb d_De_told_21 rfl (lv_at hl 1 rfl) ?_
    refine va_get (D := (dC, dI)) (ci := 6) (v := .int (iZ fl)) (C := "LogDesk") (T := F_De) (N := 10) hx hb htg hin_De hown hK hP 0 rfl rfl 8 (by decide) (htg _ k_98) (fun _ h9 => h9) rfl d_De_told_22 ?_
    refine zz_icmp_le (tgt := 30) hx hb d_De_told_25 (by decide) ⟨by omega, by omega⟩ ⟨by omega, by omega⟩ (fun c_2 => ?_) (fun c_2 => ?_)
    · refine lv_aload_n hx hb d_De_told_30 rfl (lv_at hl 1 rfl) ?_
      refine va_get (D := (dC, dI)) (ci := 6) (v := .ref w0) (C := "LogDesk") (T := F_De) (N := 10) hx hb htg hin_De hown hK hP 0 rfl rfl 3 (by decide) (htg _ k_93) (fun _ h9 => h9) rfl d_De_told_31 ?_
      refine lv_iload_n hx hb d_De_told_34 rfl (lv_at hl 0 rfl) ?_
      refine z_v (wr := [(d0, .inr (6, [.int (iZ N), .ref r0, .ref a0, .ref w0, .ref p0, .ref i0, .int (iZ bg), .int (iZ en), .int (iZ fl), .int (iZ rs)]))]) (va_runV (As := [.int (iZ (wfst ge 6))]) (rest := []) ⟨hx, hb, hml, hown, htg⟩ (c_Wa_remove l dC dI cB cI cJ cZ cQ w0 w1 H.size ge (wfst ge 6) (by omega)) (cwV 1 htg (gw_V k_157 k_158 k_159 k_4 k_160) rfl rfl rfl (by decide +kernel) ⟨Nat.le_of_ble_eq_true rfl, Nat.le_of_ble_eq_true rfl⟩) (zPreV hK hP hD hZ [1, 2] rfl (by decide) 1 (ci := 5) rfl rfl) rfl rfl hl.1 rfl (lv_room (Nat.le_of_ble_eq_true rfl)) d_De_told_35 ⟨by omega, by omega⟩) hP hD hS hA [1, 2] [0] rfl rfl (by decide) (by decide) (fun H locs hP hD hS => ?_)
      have hP : va_P (dC, dI) vwCl [(d0, .inr (6, [.int (iZ N), .ref r0, .ref a0, .ref w0, .ref p0, .ref i0, .int (iZ bg), .int (iZ en), .int (iZ fl), .int (iZ rs)])), (w0, .inr (5, [.ref w1])), (w1, .inl (cI, 6, .inl (fun j => iZ ((va_up ge (wfst ge 6).toNat 0) j))))] H := hP
      have hD : va_D A [(d0, .inr (6, [.int (iZ N), .ref r0, .ref a0, .ref w0, .ref p0, .ref i0, .int (iZ bg), .int (iZ en), .int (iZ fl), .int (iZ rs)])), (w0, .inr (5, [.ref w1])), (w1, .inl (cI, 6, .inl (fun j => iZ ((va_up ge (wfst ge 6).toNat 0) j))))] := hD
      refine lv_iload_n hx hb d_De_told_38 rfl (lv_at hl 0 rfl) ?_
      have eW : ∀ (x0 y0 : Nat → Int), x0 = y0 → ([(d0, .inr (6, [.int (iZ N), .ref r0, .ref a0, .ref w0, .ref p0, .ref i0, .int (iZ bg), .int (iZ en), .int (iZ fl), .int (iZ rs)])), (w0, .inr (5, [.ref w1])), (w1, .inl (cI, 6, .inl (fun j => iZ (x0 j))))] : va_W) = [(d0, .inr (6, [.int (iZ N), .ref r0, .ref a0, .ref w0, .ref p0, .ref i0, .int (iZ bg), .int (iZ en), .int (iZ fl), .int (iZ rs)])), (w0, .inr (5, [.ref w1])), (w1, .inl (cI, 6, .inl (fun j => iZ (y0 j))))] := by intros; subst_vars; rfl
      have eW := eW (va_up ge (wfst ge 6).toNat 0) (if (wfst ge 6 = -1 ∨ fl < ge (wfst ge 6).toNat) then ge else va_up ge (wfst ge 6).toNat 0) ((if_neg (by omega)).symm)
      have hP : va_P (dC, dI) vwCl [(d0, .inr (6, [.int (iZ N), .ref r0, .ref a0, .ref w0, .ref p0, .ref i0, .int (iZ bg), .int (iZ en), .int (iZ fl), .int (iZ rs)])), (w0, .inr (5, [.ref w1])), (w1, .inl (cI, 6, .inl (fun j => iZ ((if (wfst ge 6 = -1 ∨ fl < ge (wfst ge 6).toNat) then ge else va_up ge (wfst ge 6).toNat 0) j))))] H := eW ▸ hP
      have hD : va_D A [(d0, .inr (6, [.int (iZ N), .ref r0, .ref a0, .ref w0, .ref p0, .ref i0, .int (iZ bg), .int (iZ en), .int (iZ fl), .int (iZ rs)])), (w0, .inr (5, [.ref w1])), (w1, .inl (cI, 6, .inl (fun j => iZ ((if (wfst ge 6 = -1 ∨ fl < ge (wfst ge 6).toNat) then ge else va_up ge (wfst ge 6).toNat 0) j))))] := eW ▸ hD
      exact W.iret (v := (iZ (wfst ge 6))) hx hb hr (fun t ht hW => ⟨⟨_, (), rfl, (congrArg iZ (if_neg (by omega)).symm), by rw [ht]; exact hP, va_K.moved hW.alike hK, hAe ▸ hD⟩, hAe ▸ hS.F ht⟩) (hAe ▸ hS.2.2) d_De_told_39
    · refine lv_iconst (v := iZ (-1)) hx hb d_De_told_28 rfl ?_
      have eW : ∀ (x0 y0 : Nat → Int), x0 = y0 → ([(d0, .inr (6, [.int (iZ N), .ref r0, .ref a0, .ref w0, .ref p0, .ref i0, .int (iZ bg), .int (iZ en), .int (iZ fl), .int (iZ rs)])), (w0, .inr (5, [.ref w1])), (w1, .inl (cI, 6, .inl (fun j => iZ (x0 j))))] : va_W) = [(d0, .inr (6, [.int (iZ N), .ref r0, .ref a0, .ref w0, .ref p0, .ref i0, .int (iZ bg), .int (iZ en), .int (iZ fl), .int (iZ rs)])), (w0, .inr (5, [.ref w1])), (w1, .inl (cI, 6, .inl (fun j => iZ (y0 j))))] := by intros; subst_vars; rfl
      have eW := eW ge (if (wfst ge 6 = -1 ∨ fl < ge (wfst ge 6).toNat) then ge else va_up ge (wfst ge 6).toNat 0) ((if_pos (by omega)).symm)
      have hP : va_P (dC, dI) vwCl [(d0, .inr (6, [.int (iZ N), .ref r0, .ref a0, .ref w0, .ref p0, .ref i0, .int (iZ bg), .int (iZ en), .int (iZ fl), .int (iZ rs)])), (w0, .inr (5, [.ref w1])), (w1, .inl (cI, 6, .inl (fun j => iZ ((if (wfst ge 6 = -1 ∨ fl < ge (wfst ge 6).toNat) then ge else va_up ge (wfst ge 6).toNat 0) j))))] H := eW ▸ hP
      have hD : va_D A [(d0, .inr (6, [.int (iZ N), .ref r0, .ref a0, .ref w0, .ref p0, .ref i0, .int (iZ bg), .int (iZ en), .int (iZ fl), .int (iZ rs)])), (w0, .inr (5, [.ref w1])), (w1, .inl (cI, 6, .inl (fun j => iZ ((if (wfst ge 6 = -1 ∨ fl < ge (wfst ge 6).toNat) then ge else va_up ge (wfst ge 6).toNat 0) j))))] := eW ▸ hD
      exact W.iret (v := (iZ (-1))) hx hb hr (fun t ht hW => ⟨⟨_, (), rfl, (congrArg iZ (if_pos (by omega)).symm), by rw [ht]; exact hP, va_K.moved hW.alike hK, hAe ▸ hD⟩, hAe ▸ hS.F ht⟩) (hAe ▸ hS.2.2) d_De_told_29
set_option maxHeartbeats 4000000 in
set_option maxRecDepth 100000 in
/-- touch -/
theorem c_De_touch (l : Launch) (dC : Nat → ClassId) (dI : Nat → Nat → Nat) (cB : ClassId) (cI : ClassId) (cJ : ClassId) (cZ : ClassId) (cQ : ClassId) (d0 r0 a0 w0 p0 i0 p1 : Nat) (sz : Nat) (N : Int) (bg : Int) (en : Int) (fl : Int) (rs : Int) (pf : Nat → Int64) (pn : Int) (x : Int) (hx0 : iB x) (hb0 : 0 ≤ pn ∧ pn < 1000000000) : Met l y_De_touch ((Cond.code y_De_touch prog_1_method_8_code 2 (some .boolean)) :: gw) ({ frames := 1, cells := 0, slots := 0, locals := 24 } : Room) (zPc (dC, dI) [(cB, .byte), (cI, .int), (cJ, .long), (cZ, .boolean), (cQ, .object "LogDesk$Block")] [.ref d0, .int (iZ x)] [(d0, .inr (6, [.int (iZ N), .ref r0, .ref a0, .ref w0, .ref p0, .ref i0, .int (iZ bg), .int (iZ en), .int (iZ fl), .int (iZ rs)])), (p0, .inr (3, [.ref p1, .int (iZ pn)])), (p1, .inl (cJ, 32, .inr (.inl pf)))] sz) (va_Qi (fun (r : Int32) (_ : Unit) => r = iZ (if (0 ≤ x ∧ x < 2048) ∧ (pf (x / 64).toNat &&& (1 <<< ((iZ (x % 64)).toInt64 &&& 63))) = 0 then 1 else 0)) (zB (dC, dI) [(cB, .byte), (cI, .int), (cJ, .long), (cZ, .boolean), (cQ, .object "LogDesk$Block")] (va_A [(d0, .inr (6, [.int (iZ N), .ref r0, .ref a0, .ref w0, .ref p0, .ref i0, .int (iZ bg), .int (iZ en), .int (iZ fl), .int (iZ rs)])), (p0, .inr (3, [.ref p1, .int (iZ pn)])), (p1, .inl (cJ, 32, .inr (.inl pf)))] sz) [(d0, .inr (6, [.int (iZ N), .ref r0, .ref a0, .ref w0, .ref p0, .ref i0, .int (iZ bg), .int (iZ en), .int (iZ fl), .int (iZ rs)])), (p0, .inr (3, [.ref p1, .int (iZ (if (0 ≤ x ∧ x < 2048) ∧ (pf (x / 64).toNat &&& (1 <<< ((iZ (x % 64)).toInt64 &&& 63))) = 0 then pn + 1 else pn))])), (p1, .inl (cJ, 32, .inr (.inl (if (0 ≤ x ∧ x < 2048) ∧ (pf (x / 64).toNat &&& (1 <<< ((iZ (x % 64)).toInt64 &&& 63))) = 0 then va_up pf (x / 64).toNat (pf (x / 64).toNat ||| (1 <<< ((iZ (x % 64)).toInt64 &&& 63))) else pf))))]) (va_A [(d0, .inr (6, [.int (iZ N), .ref r0, .ref a0, .ref w0, .ref p0, .ref i0, .int (iZ bg), .int (iZ en), .int (iZ fl), .int (iZ rs)])), (p0, .inr (3, [.ref p1, .int (iZ pn)])), (p1, .inl (cJ, 32, .inr (.inl pf)))] sz)) 0 0 (va_A [(d0, .inr (6, [.int (iZ N), .ref r0, .ref a0, .ref w0, .ref p0, .ref i0, .int (iZ bg), .int (iZ en), .int (iZ fl), .int (iZ rs)])), (p0, .inr (3, [.ref p1, .int (iZ pn)])), (p1, .inl (cJ, 32, .inr (.inl pf)))] sz) := by
  refine Met.ofW (cc := prog_1_method_8_code) (maxL := 2) (ret := (some .boolean)) (by decide) rfl ?_
  intro p e s m args below meth c s₁ B hml hv
  obtain ⟨rfl, hsz, hP, hK, hD0, hZ⟩ := hv
  have hx := B.exec
  have hb := B.bytes
  have hr := B.returns
  have hts := atoms_spec (ws := (Cond.code y_De_touch prog_1_method_8_code 2 (some .boolean)) :: gw) B.pre
  have htg : ∀ w ∈ gw, w.before _ s = true := fun w h => hts w (List.mem_cons_of_mem _ h)
  have hown : s.vm.findClass "LogDesk" = some m.cls := findClass_of_methodNamed B.named
  have hlocks := B.notSynchronized
  subst hsz
  have hD := hD0.self (sz := s.heap.size)
  generalize hAe : va_A [(d0, .inr (6, [.int (iZ N), .ref r0, .ref a0, .ref w0, .ref p0, .ref i0, .int (iZ bg), .int (iZ en), .int (iZ fl), .int (iZ rs)])), (p0, .inr (3, [.ref p1, .int (iZ pn)])), (p1, .inl (cJ, 32, .inr (.inl pf)))] s.heap.size = A at hD ⊢
  have hRc : (headSpec ((Cond.code y_De_touch prog_1_method_8_code 2 (some .boolean)) :: gw) ({ frames := 1, cells := 0, slots := 0, locals := 24 } : Room)).room.cells = 0 := rfl
  have hRs : (headSpec ((Cond.code y_De_touch prog_1_method_8_code 2 (some .boolean)) :: gw) ({ frames := 1, cells := 0, slots := 0, locals := 24 } : Room)).room.slots = 0 := rfl
  have hA : ∀ q : Nat, s.heap.size ≤ q → A q := fun q h => by rw [← hAe]; exact Or.inr h
  have hS : va_S A s.heap s.heap [] := va_S.rf
  have hP : va_P (dC, dI) vwCl [(d0, .inr (6, [.int (iZ N), .ref r0, .ref a0, .ref w0, .ref p0, .ref i0, .int (iZ bg), .int (iZ en), .int (iZ fl), .int (iZ rs)])), (p0, .inr (3, [.ref p1, .int (iZ pn)])), (p1, .inl (cJ, 32, .inr (.inl pf)))] s.heap := hP
  have hl := lv_entry ([.ref d0, .int (iZ x)]) (n := 2) (Nat.le_of_ble_eq_true rfl)
  rw [lg_entry_eq]
  generalize (lg_sl ([.ref d0, .int (iZ x)]) ++ List.replicate (2 - (lg_sl ([.ref d0, .int (iZ x)])).length) Slot.unset).toArray = ls at hl ⊢
  have hl : lv_has ls 2 [(0, .ref d0), (1, .int (iZ x))] := hl
  refine lv_aload_n hx hb d_De_touch_0 rfl (lv_at hl 0 rfl) ?_
  refine va_get (D := (dC, dI)) (ci := 6) (v := .ref p0) (C := "LogDesk") (T := F_De) (N := 10) hx hb htg hin_De hown hK hP 0 rfl rfl 4 (by decide) (htg _ k_94) (fun _ h9 => h9) rfl d_De_touch_1 ?_
  refine lv_iload_n hx hb d_De_touch_4 rfl (lv_at hl 1 rfl) ?_
  refine z_i (wr := [(d0, .inr (6, [.int (iZ N), .ref r0, .ref a0, .ref w0, .ref p0, .ref i0, .int (iZ bg), .int (iZ en), .int (iZ fl), .int (iZ rs)]))]) (va_runV (As := [.int (iZ x)]) (rest := []) ⟨hx, hb, hml, hown, htg⟩ (c_Pa_add l dC dI cB cI cJ cZ cQ p0 p1 s.heap.size pf pn x hx0 hb0) (cwV 1 htg (gw_V k_165 k_166 k_167 k_5 k_168) rfl rfl rfl (by decide +kernel) ⟨Nat.le_of_ble_eq_true rfl, Nat.le_of_ble_eq_true rfl⟩) (zPreV hK hP hD hZ [1, 2] rfl (by decide) 1 (ci := 3) rfl rfl) rfl rfl hl.1 rfl (lv_room (Nat.le_of_ble_eq_true rfl)) d_De_touch_5 ⟨by omega, by omega⟩) hP hD hS hA [1, 2] [0] rfl rfl (by decide) (by decide) (fun H locs hP hD hS => ?_)
  have hP : va_P (dC, dI) vwCl [(d0, .inr (6, [.int (iZ N), .ref r0, .ref a0, .ref w0, .ref p0, .ref i0, .int (iZ bg), .int (iZ en), .int (iZ fl), .int (iZ rs)])), (p0, .inr (3, [.ref p1, .int (iZ (if (0 ≤ x ∧ x < 2048) ∧ (pf (x / 64).toNat &&& (1 <<< ((iZ (x % 64)).toInt64 &&& 63))) = 0 then pn + 1 else pn))])), (p1, .inl (cJ, 32, .inr (.inl (if (0 ≤ x ∧ x < 2048) ∧ (pf (x / 64).toNat &&& (1 <<< ((iZ (x % 64)).toInt64 &&& 63))) = 0 then va_up pf (x / 64).toNat (pf (x / 64).toNat ||| (1 <<< ((iZ (x % 64)).toInt64 &&& 63))) else pf))))] H := hP
  have hD : va_D A [(d0, .inr (6, [.int (iZ N), .ref r0, .ref a0, .ref w0, .ref p0, .ref i0, .int (iZ bg), .int (iZ en), .int (iZ fl), .int (iZ rs)])), (p0, .inr (3, [.ref p1, .int (iZ (if (0 ≤ x ∧ x < 2048) ∧ (pf (x / 64).toNat &&& (1 <<< ((iZ (x % 64)).toInt64 &&& 63))) = 0 then pn + 1 else pn))])), (p1, .inl (cJ, 32, .inr (.inl (if (0 ≤ x ∧ x < 2048) ∧ (pf (x / 64).toNat &&& (1 <<< ((iZ (x % 64)).toInt64 &&& 63))) = 0 then va_up pf (x / 64).toNat (pf (x / 64).toNat ||| (1 <<< ((iZ (x % 64)).toInt64 &&& 63))) else pf))))] := hD
  exact W.zret (v := (iZ (if (0 ≤ x ∧ x < 2048) ∧ (pf (x / 64).toNat &&& (1 <<< ((iZ (x % 64)).toInt64 &&& 63))) = 0 then 1 else 0))) hx hb hr (by split <;> rfl) (fun t ht hW => ⟨⟨_, (), rfl, rfl, by rw [ht]; exact hP, va_K.moved hW.alike hK, hAe ▸ hD⟩, hAe ▸ hS.F ht⟩) (hAe ▸ hS.2.2) d_De_touch_8
set_option maxHeartbeats 4000000 in
set_option maxRecDepth 100000 in
/-- mark -/
theorem c_De_mark (l : Launch) (dC : Nat → ClassId) (dI : Nat → Nat → Nat) (cB : ClassId) (cI : ClassId) (cJ : ClassId) (cZ : ClassId) (cQ : ClassId) (d0 r0 a0 w0 p0 i0 p1 : Nat) (sz : Nat) (N : Int) (bg : Int) (en : Int) (fl : Int) (rs : Int) (pf : Nat → Int64) (pn : Int) : Met l y_De_mark ((Cond.code y_De_mark prog_1_method_9_code 1 (some .int)) :: gw) ({ frames := 2, cells := 0, slots := 0, locals := 44 } : Room) (zPc (dC, dI) [(cB, .byte), (cI, .int), (cJ, .long), (cZ, .boolean), (cQ, .object "LogDesk$Block")] [.ref d0] [(d0, .inr (6, [.int (iZ N), .ref r0, .ref a0, .ref w0, .ref p0, .ref i0, .int (iZ bg), .int (iZ en), .int (iZ fl), .int (iZ rs)])), (p0, .inr (3, [.ref p1, .int (iZ pn)])), (p1, .inl (cJ, 32, .inr (.inl pf)))] sz) (va_Qi (fun (r : Int32) (_ : Unit) => r = iZ en) (zB (dC, dI) [(cB, .byte), (cI, .int), (cJ, .long), (cZ, .boolean), (cQ, .object "LogDesk$Block")] (va_A [(d0, .inr (6, [.int (iZ N), .ref r0, .ref a0, .ref w0, .ref p0, .ref i0, .int (iZ bg), .int (iZ en), .int (iZ fl), .int (iZ rs)])), (p0, .inr (3, [.ref p1, .int (iZ pn)])), (p1, .inl (cJ, 32, .inr (.inl pf)))] sz) [(d0, .inr (6, [.int (iZ N), .ref r0, .ref a0, .ref w0, .ref p0, .ref i0, .int (iZ bg), .int (iZ en), .int (iZ fl), .int (iZ rs)])), (p0, .inr (3, [.ref p1, .int (iZ 0)])), (p1, .inl (cJ, 32, .inr (.inl (fun j => if j < 32 then 0 else pf j))))]) (va_A [(d0, .inr (6, [.int (iZ N), .ref r0, .ref a0, .ref w0, .ref p0, .ref i0, .int (iZ bg), .int (iZ en), .int (iZ fl), .int (iZ rs)])), (p0, .inr (3, [.ref p1, .int (iZ pn)])), (p1, .inl (cJ, 32, .inr (.inl pf)))] sz)) 0 0 (va_A [(d0, .inr (6, [.int (iZ N), .ref r0, .ref a0, .ref w0, .ref p0, .ref i0, .int (iZ bg), .int (iZ en), .int (iZ fl), .int (iZ rs)])), (p0, .inr (3, [.ref p1, .int (iZ pn)])), (p1, .inl (cJ, 32, .inr (.inl pf)))] sz) := by
  refine Met.ofW (cc := prog_1_method_9_code) (maxL := 1) (ret := (some .int)) (by decide) rfl ?_
  intro p e s m args below meth c s₁ B hml hv
  obtain ⟨rfl, hsz, hP, hK, hD0, hZ⟩ := hv
  have hx := B.exec
  have hb := B.bytes
  have hr := B.returns
  have hts := atoms_spec (ws := (Cond.code y_De_mark prog_1_method_9_code 1 (some .int)) :: gw) B.pre
  have htg : ∀ w ∈ gw, w.before _ s = true := fun w h => hts w (List.mem_cons_of_mem _ h)
  have hown : s.vm.findClass "LogDesk" = some m.cls := findClass_of_methodNamed B.named
  have hlocks := B.notSynchronized
  subst hsz
  have hD := hD0.self (sz := s.heap.size)
  generalize hAe : va_A [(d0, .inr (6, [.int (iZ N), .ref r0, .ref a0, .ref w0, .ref p0, .ref i0, .int (iZ bg), .int (iZ en), .int (iZ fl), .int (iZ rs)])), (p0, .inr (3, [.ref p1, .int (iZ pn)])), (p1, .inl (cJ, 32, .inr (.inl pf)))] s.heap.size = A at hD ⊢
  have hRc : (headSpec ((Cond.code y_De_mark prog_1_method_9_code 1 (some .int)) :: gw) ({ frames := 2, cells := 0, slots := 0, locals := 44 } : Room)).room.cells = 0 := rfl
  have hRs : (headSpec ((Cond.code y_De_mark prog_1_method_9_code 1 (some .int)) :: gw) ({ frames := 2, cells := 0, slots := 0, locals := 44 } : Room)).room.slots = 0 := rfl
  have hA : ∀ q : Nat, s.heap.size ≤ q → A q := fun q h => by rw [← hAe]; exact Or.inr h
  have hS : va_S A s.heap s.heap [] := va_S.rf
  have hP : va_P (dC, dI) vwCl [(d0, .inr (6, [.int (iZ N), .ref r0, .ref a0, .ref w0, .ref p0, .ref i0, .int (iZ bg), .int (iZ en), .int (iZ fl), .int (iZ rs)])), (p0, .inr (3, [.ref p1, .int (iZ pn)])), (p1, .inl (cJ, 32, .inr (.inl pf)))] s.heap := hP
  have hl := lv_entry ([.ref d0]) (n := 1) (Nat.le_of_ble_eq_true rfl)
  rw [lg_entry_eq]
  generalize (lg_sl ([.ref d0]) ++ List.replicate (1 - (lg_sl ([.ref d0])).length) Slot.unset).toArray = ls at hl ⊢
  have hl : lv_has ls 1 [(0, .ref d0)] := hl
  refine lv_aload_n hx hb d_De_mark_0 rfl (lv_at hl 0 rfl) ?_
  refine va_get (D := (dC, dI)) (ci := 6) (v := .ref p0) (C := "LogDesk") (T := F_De) (N := 10) hx hb htg hin_De hown hK hP 0 rfl rfl 4 (by decide) (htg _ k_94) (fun _ h9 => h9) rfl d_De_mark_1 ?_
  refine z_v (wr := [(d0, .inr (6, [.int (iZ N), .ref r0, .ref a0, .ref w0, .ref p0, .ref i0, .int (iZ bg), .int (iZ en), .int (iZ fl), .int (iZ rs)]))]) (va_runV (As := []) (rest := []) ⟨hx, hb, hml, hown, htg⟩ (c_Pa_clear l dC dI cB cI cJ cZ cQ p0 p1 s.heap.size pf pn) (cwV 0 htg (gw_V k_173 k_174 k_175 k_5 k_176) rfl rfl rfl (by decide +kernel) ⟨Nat.le_of_ble_eq_true rfl, Nat.le_of_ble_eq_true rfl⟩) (zPreV hK hP hD hZ [1, 2] rfl (by decide) 1 (ci := 3) rfl rfl) rfl rfl hl.1 rfl (lv_room (Nat.le_of_ble_eq_true rfl)) d_De_mark_4 ⟨by omega, by omega⟩) hP hD hS hA [1, 2] [0] rfl rfl (by decide) (by decide) (fun H locs hP hD hS => ?_)
  have hP : va_P (dC, dI) vwCl [(d0, .inr (6, [.int (iZ N), .ref r0, .ref a0, .ref w0, .ref p0, .ref i0, .int (iZ bg), .int (iZ en), .int (iZ fl), .int (iZ rs)])), (p0, .inr (3, [.ref p1, .int (iZ 0)])), (p1, .inl (cJ, 32, .inr (.inl (fun j => if j < 32 then 0 else pf j))))] H := hP
  have hD : va_D A [(d0, .inr (6, [.int (iZ N), .ref r0, .ref a0, .ref w0, .ref p0, .ref i0, .int (iZ bg), .int (iZ en), .int (iZ fl), .int (iZ rs)])), (p0, .inr (3, [.ref p1, .int (iZ 0)])), (p1, .inl (cJ, 32, .inr (.inl (fun j => if j < 32 then 0 else pf j))))] := hD
  refine lv_aload_n hx hb d_De_mark_7 rfl (lv_at hl 0 rfl) ?_
  refine va_get (D := (dC, dI)) (ci := 6) (v := .int (iZ en)) (C := "LogDesk") (T := F_De) (N := 10) hx hb htg hin_De hown hK hP 0 rfl rfl 7 (by decide) (htg _ k_97) (fun _ h9 => h9) rfl d_De_mark_8 ?_
  exact W.iret (v := (iZ en)) hx hb hr (fun t ht hW => ⟨⟨_, (), rfl, rfl, by rw [ht]; exact hP, va_K.moved hW.alike hK, hAe ▸ hD⟩, hAe ▸ hS.F ht⟩) (hAe ▸ hS.2.2) d_De_mark_11
set_option maxHeartbeats 4000000 in
set_option maxRecDepth 100000 in
/-- isFullFor -/
theorem c_De_isFullFor (l : Launch) (dC : Nat → ClassId) (dI : Nat → Nat → Nat) (cB : ClassId) (cI : ClassId) (cJ : ClassId) (cZ : ClassId) (cQ : ClassId) (d0 r0 a0 w0 p0 i0 : Nat) (sz : Nat) (N : Int) (bg : Int) (en : Int) (fl : Int) (rs : Int) (n : Int) (hpl : 0 ≤ bg ∧ bg ≤ en ∧ en ≤ 1000000000 ∧ 0 ≤ fl ∧ fl ≤ 1000000000) (hn0 : 0 ≤ n ∧ n ≤ 600) (hN : 3 ≤ N ∧ N ≤ 32) : Met l y_De_isFullFor ((Cond.code y_De_isFullFor prog_1_method_18_code 3 (some .boolean)) :: gw) ({ frames := 1, cells := 0, slots := 0, locals := 20 } : Room) (zPc (dC, dI) [(cB, .byte), (cI, .int), (cJ, .long), (cZ, .boolean), (cQ, .object "LogDesk$Block")] [.ref d0, .int (iZ n)] [(d0, .inr (6, [.int (iZ N), .ref r0, .ref a0, .ref w0, .ref p0, .ref i0, .int (iZ bg), .int (iZ en), .int (iZ fl), .int (iZ rs)]))] sz) (va_Qi (fun (r : Int32) (_ : Unit) => r = iZ (if 1000000000 < en + 3 + n ∨ N ≤ (en + 3 + n - 1) / 500 - bg / 500 then 1 else 0)) (zB (dC, dI) [(cB, .byte), (cI, .int), (cJ, .long), (cZ, .boolean), (cQ, .object "LogDesk$Block")] (va_A [(d0, .inr (6, [.int (iZ N), .ref r0, .ref a0, .ref w0, .ref p0, .ref i0, .int (iZ bg), .int (iZ en), .int (iZ fl), .int (iZ rs)]))] sz) [(d0, .inr (6, [.int (iZ N), .ref r0, .ref a0, .ref w0, .ref p0, .ref i0, .int (iZ bg), .int (iZ en), .int (iZ fl), .int (iZ rs)]))]) (va_A [(d0, .inr (6, [.int (iZ N), .ref r0, .ref a0, .ref w0, .ref p0, .ref i0, .int (iZ bg), .int (iZ en), .int (iZ fl), .int (iZ rs)]))] sz)) 0 0 (va_A [(d0, .inr (6, [.int (iZ N), .ref r0, .ref a0, .ref w0, .ref p0, .ref i0, .int (iZ bg), .int (iZ en), .int (iZ fl), .int (iZ rs)]))] sz) := by
  refine Met.ofW (cc := prog_1_method_18_code) (maxL := 3) (ret := (some .boolean)) (by decide) rfl ?_
  intro p e s m args below meth c s₁ B hml hv
  obtain ⟨rfl, hsz, hP, hK, hD0, hZ⟩ := hv
  have hx := B.exec
  have hb := B.bytes
  have hr := B.returns
  have hts := atoms_spec (ws := (Cond.code y_De_isFullFor prog_1_method_18_code 3 (some .boolean)) :: gw) B.pre
  have htg : ∀ w ∈ gw, w.before _ s = true := fun w h => hts w (List.mem_cons_of_mem _ h)
  have hown : s.vm.findClass "LogDesk" = some m.cls := findClass_of_methodNamed B.named
  have hlocks := B.notSynchronized
  subst hsz
  have hD := hD0.self (sz := s.heap.size)
  generalize hAe : va_A [(d0, .inr (6, [.int (iZ N), .ref r0, .ref a0, .ref w0, .ref p0, .ref i0, .int (iZ bg), .int (iZ en), .int (iZ fl), .int (iZ rs)]))] s.heap.size = A at hD ⊢
  have hRc : (headSpec ((Cond.code y_De_isFullFor prog_1_method_18_code 3 (some .boolean)) :: gw) ({ frames := 1, cells := 0, slots := 0, locals := 20 } : Room)).room.cells = 0 := rfl
  have hRs : (headSpec ((Cond.code y_De_isFullFor prog_1_method_18_code 3 (some .boolean)) :: gw) ({ frames := 1, cells := 0, slots := 0, locals := 20 } : Room)).room.slots = 0 := rfl
  have hA : ∀ q : Nat, s.heap.size ≤ q → A q := fun q h => by rw [← hAe]; exact Or.inr h
  have hS : va_S A s.heap s.heap [] := va_S.rf
  have hP : va_P (dC, dI) vwCl [(d0, .inr (6, [.int (iZ N), .ref r0, .ref a0, .ref w0, .ref p0, .ref i0, .int (iZ bg), .int (iZ en), .int (iZ fl), .int (iZ rs)]))] s.heap := hP
  have hl := lv_entry ([.ref d0, .int (iZ n)]) (n := 3) (Nat.le_of_ble_eq_true rfl)
  rw [lg_entry_eq]
  generalize (lg_sl ([.ref d0, .int (iZ n)]) ++ List.replicate (3 - (lg_sl ([.ref d0, .int (iZ n)])).length) Slot.unset).toArray = ls at hl ⊢
  have hl : lv_has ls 3 [(0, .ref d0), (1, .int (iZ n))] := hl
  refine lv_aload_n hx hb d_De_isFullFor_0 rfl (lv_at hl 0 rfl) ?_
  refine va_get (D := (dC, dI)) (ci := 6) (v := .int (iZ en)) (C := "LogDesk") (T := F_De) (N := 10) hx hb htg hin_De hown hK hP 0 rfl rfl 7 (by decide) (htg _ k_97) (fun _ h9 => h9) rfl d_De_isFullFor_1 ?_
  refine lv_iconst (v := iZ 3) hx hb d_De_isFullFor_4 rfl ?_
  refine zz_iadd hx hb d_De_isFullFor_5 ?_
  refine lv_iload_n hx hb d_De_isFullFor_6 rfl (lv_at hl 1 rfl) ?_
  refine zz_iadd hx hb d_De_isFullFor_7 ?_
  refine lv_istore_n (lv' := [(2, .int (iZ ((en + 3) + n))), (0, .ref d0), (1, .int (iZ n))]) hx hb d_De_isFullFor_8 rfl hl (by decide) rfl (fun ls hl => ?_)
  refine lv_iload_n hx hb d_De_isFullFor_9 rfl (lv_at hl 0 rfl) ?_
  refine lv_ldc hx hb hown (htg _ k_326) d_De_isFullFor_10 ?_
  refine zz_num (z := 1000000000) (by decide) ?_
  refine zz_icmp_gt (tgt := 36) hx hb d_De_isFullFor_12 (by decide) ⟨by omega, by omega⟩ ⟨by omega, by omega⟩ (fun c_1 => ?_) (fun c_1 => ?_)
  · refine lv_iconst (v := iZ 1) hx hb d_De_isFullFor_36 rfl ?_
    refine lv_goto (tgt := 41) hx hb d_De_isFullFor_37 (by decide) ?_
    exact W.zret (v := (iZ 1)) hx hb hr rfl (fun t ht hW => ⟨⟨_, (), rfl, (congrArg iZ (by omega)), by rw [ht]; exact hP, va_K.moved hW.alike hK, hAe ▸ hD⟩, hAe ▸ hS.F ht⟩) (hAe ▸ hS.2.2) d_De_isFullFor_41
  · refine lv_iload_n hx hb d_De_isFullFor_15 rfl (lv_at hl 0 rfl) ?_
    refine lv_iconst (v := iZ 1) hx hb d_De_isFullFor_16 rfl ?_
    refine zz_isub hx hb d_De_isFullFor_17 ?_
    refine z_i (wr := [(d0, .inr (6, [.int (iZ N), .ref r0, .ref a0, .ref w0, .ref p0, .ref i0, .int (iZ bg), .int (iZ en), .int (iZ fl), .int (iZ rs)]))]) (va_runS (As := [.int (iZ (((en + 3) + n) - 1))]) (rest := []) ⟨hx, hb, hml, hown, htg⟩ (c_De_blockOf l dC dI cB cI cJ cZ cQ s.heap.size (((en + 3) + n) - 1) (by omega)) (va_cwS 1 htg (gw_S k_327 k_201 k_1 k_202) rfl rfl rfl (by decide +kernel) ⟨Nat.le_of_ble_eq_true rfl, Nat.le_of_ble_eq_true rfl⟩) (zPreS hK hP hD hZ [] rfl (by decide)) rfl rfl hl.1 rfl (lv_room (Nat.le_of_ble_eq_true rfl)) d_De_isFullFor_18 ⟨by omega, by omega⟩) hP hD hS hA [] [0] rfl rfl (by decide) (by decide) (fun H locs hP hD hS => ?_)
    have hP : va_P (dC, dI) vwCl [(d0, .inr (6, [.int (iZ N), .ref r0, .ref a0, .ref w0, .ref p0, .ref i0, .int (iZ bg), .int (iZ en), .int (iZ fl), .int (iZ rs)]))] H := hP
    have hD : va_D A [(d0, .inr (6, [.int (iZ N), .ref r0, .ref a0, .ref w0, .ref p0, .ref i0, .int (iZ bg), .int (iZ en), .int (iZ fl), .int (iZ rs)]))] := hD
    refine lv_aload_n hx hb d_De_isFullFor_21 rfl (lv_at hl 1 rfl) ?_
    refine va_get (D := (dC, dI)) (ci := 6) (v := .int (iZ bg)) (C := "LogDesk") (T := F_De) (N := 10) hx hb htg hin_De hown hK hP 0 rfl rfl 6 (by decide) (htg _ k_96) (fun _ h9 => h9) rfl d_De_isFullFor_22 ?_
    refine z_i (wr := [(d0, .inr (6, [.int (iZ N), .ref r0, .ref a0, .ref w0, .ref p0, .ref i0, .int (iZ bg), .int (iZ en), .int (iZ fl), .int (iZ rs)]))]) (va_runS (As := [.int (iZ bg)]) (rest := [.int (iZ ((((en + 3) + n) - 1) / 500))]) ⟨hx, hb, hml, hown, htg⟩ (c_De_blockOf l dC dI cB cI cJ cZ cQ H.size bg (by omega)) (va_cwS 1 htg (gw_S k_327 k_201 k_1 k_202) rfl rfl rfl (by decide +kernel) ⟨Nat.le_of_ble_eq_true rfl, Nat.le_of_ble_eq_true rfl⟩) (zPreS hK hP hD hZ [] rfl (by decide)) rfl rfl hl.1 rfl (lv_room (Nat.le_of_ble_eq_true rfl)) d_De_isFullFor_25 ⟨by omega, by omega⟩) hP hD hS hA [] [0] rfl rfl (by decide) (by decide) (fun H locs hP hD hS => ?_)
    have hP : va_P (dC, dI) vwCl [(d0, .inr (6, [.int (iZ N), .ref r0, .ref a0, .ref w0, .ref p0, .ref i0, .int (iZ bg), .int (iZ en), .int (iZ fl), .int (iZ rs)]))] H := hP
    have hD : va_D A [(d0, .inr (6, [.int (iZ N), .ref r0, .ref a0, .ref w0, .ref p0, .ref i0, .int (iZ bg), .int (iZ en), .int (iZ fl), .int (iZ rs)]))] := hD
    refine zz_isub hx hb d_De_isFullFor_28 ?_
    refine lv_aload_n hx hb d_De_isFullFor_29 rfl (lv_at hl 1 rfl) ?_
    refine va_get (D := (dC, dI)) (ci := 6) (v := .int (iZ N)) (C := "LogDesk") (T := F_De) (N := 10) hx hb htg hin_De hown hK hP 0 rfl rfl 0 (by decide) (htg _ k_90) (fun _ h9 => h9) rfl d_De_isFullFor_30 ?_
    refine zz_icmp_lt (tgt := 40) hx hb d_De_isFullFor_33 (by decide) ⟨by omega, by omega⟩ ⟨by omega, by omega⟩ (fun c_2 => ?_) (fun c_2 => ?_)
    · refine lv_iconst (v := iZ 0) hx hb d_De_isFullFor_40 rfl ?_
      exact W.zret (v := (iZ 0)) hx hb hr rfl (fun t ht hW => ⟨⟨_, (), rfl, (congrArg iZ (by omega)), by rw [ht]; exact hP, va_K.moved hW.alike hK, hAe ▸ hD⟩, hAe ▸ hS.F ht⟩) (hAe ▸ hS.2.2) d_De_isFullFor_41
    · refine lv_iconst (v := iZ 1) hx hb d_De_isFullFor_36 rfl ?_
      refine lv_goto (tgt := 41) hx hb d_De_isFullFor_37 (by decide) ?_
      exact W.zret (v := (iZ 1)) hx hb hr rfl (fun t ht hW => ⟨⟨_, (), rfl, (congrArg iZ (by omega)), by rw [ht]; exact hP, va_K.moved hW.alike hK, hAe ▸ hD⟩, hAe ▸ hS.F ht⟩) (hAe ▸ hS.2.2) d_De_isFullFor_41
end
section
set_option maxHeartbeats 4000000 in
set_option maxRecDepth 100000 in
/-- bytesOfRecord -/
theorem c_De_bytesOfRecord (l : Launch) (dC : Nat → ClassId) (dI : Nat → Nat → Nat) (cB : ClassId) (cI : ClassId) (cJ : ClassId) (cZ : ClassId) (cQ : ClassId) (d0 r0 a0 w0 p0 i0 r1 : Nat) (sz : Nat) (N : Int) (bg : Int) (en : Int) (fl : Int) (rs : Int) (pl : va_W) (g : Nat → Option Nat) (al : Nat → Bool) (u : Nat → Int) (x : Int) (hR : RK cB pl g al u) (hx0 : 0 ≤ x ∧ x ≤ 1000070000) : Met l y_De_bytesOfRecord ((Cond.code y_De_bytesOfRecord prog_1_method_20_code 2 (some .int)) :: gw) ({ frames := 2, cells := 0, slots := 0, locals := 42 } : Room) (zPc (dC, dI) [(cB, .byte), (cI, .int), (cJ, .long), (cZ, .boolean), (cQ, .object "LogDesk$Block")] [.ref d0, .int (iZ x)] ([(d0, .inr (6, [.int (iZ N), .ref r0, .ref a0, .ref w0, .ref p0, .ref i0, .int (iZ bg), .int (iZ en), .int (iZ fl), .int (iZ rs)])), (r0, .inr (4, [.ref r1])), (r1, .inl (cQ, 32, .inr (.inr (.inr (.inr g)))))] ++ pl) sz) (va_Qi (fun (r : Int32) (_ : Unit) => r = iZ (bl u x)) (zB (dC, dI) [(cB, .byte), (cI, .int), (cJ, .long), (cZ, .boolean), (cQ, .object "LogDesk$Block")] (va_A ([(d0, .inr (6, [.int (iZ N), .ref r0, .ref a0, .ref w0, .ref p0, .ref i0, .int (iZ bg), .int (iZ en), .int (iZ fl), .int (iZ rs)])), (r0, .inr (4, [.ref r1])), (r1, .inl (cQ, 32, .inr (.inr (.inr (.inr g)))))] ++ pl) sz) ([(d0, .inr (6, [.int (iZ N), .ref r0, .ref a0, .ref w0, .ref p0, .ref i0, .int (iZ bg), .int (iZ en), .int (iZ fl), .int (iZ rs)])), (r0, .inr (4, [.ref r1])), (r1, .inl (cQ, 32, .inr (.inr (.inr (.inr g)))))] ++ pl)) (va_A ([(d0, .inr (6, [.int (iZ N), .ref r0, .ref a0, .ref w0, .ref p0, .ref i0, .int (iZ bg), .int (iZ en), .int (iZ fl), .int (iZ rs)])), (r0, .inr (4, [.ref r1])), (r1, .inl (cQ, 32, .inr (.inr (.inr (.inr g)))))] ++ pl) sz)) 0 0 (va_A ([(d0, .inr (6, [.int (iZ N), .ref r0, .ref a0, .ref w0, .ref p0, .ref i0, .int (iZ bg), .int (iZ en), .int (iZ fl), .int (iZ rs)])), (r0, .inr (4, [.ref r1])), (r1, .inl (cQ, 32, .inr (.inr (.inr (.inr g)))))] ++ pl) sz) := by
  refine Met.ofW (cc := prog_1_method_20_code) (maxL := 2) (ret := (some .int)) (by decide) rfl ?_
  intro p e s m args below meth c s₁ B hml hv
  obtain ⟨rfl, hsz, hP, hK, hD0, hZ⟩ := hv
  have hx := B.exec
  have hb := B.bytes
  have hr := B.returns
  have hts := atoms_spec (ws := (Cond.code y_De_bytesOfRecord prog_1_method_20_code 2 (some .int)) :: gw) B.pre
  have htg : ∀ w ∈ gw, w.before _ s = true := fun w h => hts w (List.mem_cons_of_mem _ h)
  have hown : s.vm.findClass "LogDesk" = some m.cls := findClass_of_methodNamed B.named
  have hlocks := B.notSynchronized
  subst hsz
  have hD := hD0.self (sz := s.heap.size)
  generalize hAe : va_A ([(d0, .inr (6, [.int (iZ N), .ref r0, .ref a0, .ref w0, .ref p0, .ref i0, .int (iZ bg), .int (iZ en), .int (iZ fl), .int (iZ rs)])), (r0, .inr (4, [.ref r1])), (r1, .inl (cQ, 32, .inr (.inr (.inr (.inr g)))))] ++ pl) s.heap.size = A at hD ⊢
  have hRc : (headSpec ((Cond.code y_De_bytesOfRecord prog_1_method_20_code 2 (some .int)) :: gw) ({ frames := 2, cells := 0, slots := 0, locals := 42 } : Room)).room.cells = 0 := rfl
  have hRs : (headSpec ((Cond.code y_De_bytesOfRecord prog_1_method_20_code 2 (some .int)) :: gw) ({ frames := 2, cells := 0, slots := 0, locals := 42 } : Room)).room.slots = 0 := rfl
  have hA : ∀ q : Nat, s.heap.size ≤ q → A q := fun q h => by rw [← hAe]; exact Or.inr h
  have hS : va_S A s.heap s.heap [] := va_S.rf
  have hP : va_P (dC, dI) vwCl ([(d0, .inr (6, [.int (iZ N), .ref r0, .ref a0, .ref w0, .ref p0, .ref i0, .int (iZ bg), .int (iZ en), .int (iZ fl), .int (iZ rs)])), (r0, .inr (4, [.ref r1])), (r1, .inl (cQ, 32, .inr (.inr (.inr (.inr g)))))] ++ pl) s.heap := hP
  have hl := lv_entry ([.ref d0, .int (iZ x)]) (n := 2) (Nat.le_of_ble_eq_true rfl)
  rw [lg_entry_eq]
  generalize (lg_sl ([.ref d0, .int (iZ x)]) ++ List.replicate (2 - (lg_sl ([.ref d0, .int (iZ x)])).length) Slot.unset).toArray = ls at hl ⊢
  have hl : lv_has ls 2 [(0, .ref d0), (1, .int (iZ x))] := hl
  refine lv_aload_n hx hb d_De_bytesOfRecord_0 rfl (lv_at hl 0 rfl) ?_
  refine va_get (D := (dC, dI)) (ci := 6) (v := .ref r0) (C := "LogDesk") (T := F_De) (N := 10) hx hb htg hin_De hown hK hP 0 rfl rfl 1 (by decide) (htg _ k_91) (fun _ h9 => h9) rfl d_De_bytesOfRecord_1 ?_
  refine lv_iload_n hx hb d_De_bytesOfRecord_4 rfl (lv_at hl 1 rfl) ?_
  refine lv_iconst (v := iZ 1) hx hb d_De_bytesOfRecord_5 rfl ?_
  refine zz_iadd hx hb d_De_bytesOfRecord_6 ?_
  refine zp_i (wr := [(d0, .inr (6, [.int (iZ N), .ref r0, .ref a0, .ref w0, .ref p0, .ref i0, .int (iZ bg), .int (iZ en), .int (iZ fl), .int (iZ rs)]))]) (va_runV (As := [.int (iZ (x + 1))]) (rest := []) ⟨hx, hb, hml, hown, htg⟩ (c_Ri_get l dC dI cB cI cJ cZ cQ r0 r1 s.heap.size pl g al u (x + 1) hR (by omega)) (cwV 1 htg (gw_V k_196 k_197 k_198 k_2 k_199) rfl rfl rfl (by decide +kernel) ⟨Nat.le_of_ble_eq_true rfl, Nat.le_of_ble_eq_true rfl⟩) (zPreVP hK hP hD hZ [1, 2] rfl (by decide) 1 (ci := 4) rfl rfl) rfl rfl hl.1 rfl (lv_room (Nat.le_of_ble_eq_true rfl)) d_De_bytesOfRecord_7 ⟨by omega, by omega⟩) hP hD hS hA [1, 2] [0] rfl rfl (by decide) (by decide) (fun H locs hP hD hS => ?_)
  have hP : va_P (dC, dI) vwCl ([(d0, .inr (6, [.int (iZ N), .ref r0, .ref a0, .ref w0, .ref p0, .ref i0, .int (iZ bg), .int (iZ en), .int (iZ fl), .int (iZ rs)])), (r0, .inr (4, [.ref r1])), (r1, .inl (cQ, 32, .inr (.inr (.inr (.inr g)))))] ++ pl) H := hP
  have hD : va_D A ([(d0, .inr (6, [.int (iZ N), .ref r0, .ref a0, .ref w0, .ref p0, .ref i0, .int (iZ bg), .int (iZ en), .int (iZ fl), .int (iZ rs)])), (r0, .inr (4, [.ref r1])), (r1, .inl (cQ, 32, .inr (.inr (.inr (.inr g)))))] ++ pl) := hD
  refine lv_bipush (v := iZ 8) hx hb d_De_bytesOfRecord_10 (by decide) ?_
  refine zz_shl8 hx hb (by omega) (by omega) d_De_bytesOfRecord_12 ?_
  refine lv_aload_n hx hb d_De_bytesOfRecord_13 rfl (lv_at hl 0 rfl) ?_
  refine va_get (D := (dC, dI)) (ci := 6) (v := .ref r0) (C := "LogDesk") (T := F_De) (N := 10) hx hb htg hin_De hown hK hP 0 rfl rfl 1 (by decide) (htg _ k_91) (fun _ h9 => h9) rfl d_De_bytesOfRecord_14 ?_
  refine lv_iload_n hx hb d_De_bytesOfRecord_17 rfl (lv_at hl 1 rfl) ?_
  refine lv_iconst (v := iZ 2) hx hb d_De_bytesOfRecord_18 rfl ?_
  refine zz_iadd hx hb d_De_bytesOfRecord_19 ?_
  refine zp_i (wr := [(d0, .inr (6, [.int (iZ N), .ref r0, .ref a0, .ref w0, .ref p0, .ref i0, .int (iZ bg), .int (iZ en), .int (iZ fl), .int (iZ rs)]))]) (va_runV (As := [.int (iZ (x + 2))]) (rest := [.int (iZ ((u ((x + 1) % 16000).toNat % 256) * 256))]) ⟨hx, hb, hml, hown, htg⟩ (c_Ri_get l dC dI cB cI cJ cZ cQ r0 r1 H.size pl g al u (x + 2) hR (by omega)) (cwV 1 htg (gw_V k_196 k_197 k_198 k_2 k_199) rfl rfl rfl (by decide +kernel) ⟨Nat.le_of_ble_eq_true rfl, Nat.le_of_ble_eq_true rfl⟩) (zPreVP hK hP hD hZ [1, 2] rfl (by decide) 1 (ci := 4) rfl rfl) rfl rfl hl.1 rfl (lv_room (Nat.le_of_ble_eq_true rfl)) d_De_bytesOfRecord_20 ⟨by omega, by omega⟩) hP hD hS hA [1, 2] [0] rfl rfl (by decide) (by decide) (fun H locs hP hD hS => ?_)
  have hP : va_P (dC, dI) vwCl ([(d0, .inr (6, [.int (iZ N), .ref r0, .ref a0, .ref w0, .ref p0, .ref i0, .int (iZ bg), .int (iZ en), .int (iZ fl), .int (iZ rs)])), (r0, .inr (4, [.ref r1])), (r1, .inl (cQ, 32, .inr (.inr (.inr (.inr g)))))] ++ pl) H := hP
  have hD : va_D A ([(d0, .inr (6, [.int (iZ N), .ref r0, .ref a0, .ref w0, .ref p0, .ref i0, .int (iZ bg), .int (iZ en), .int (iZ fl), .int (iZ rs)])), (r0, .inr (4, [.ref r1])), (r1, .inl (cQ, 32, .inr (.inr (.inr (.inr g)))))] ++ pl) := hD
  refine zz_or8 hx hb (by omega) (by omega) (by omega) (by omega) d_De_bytesOfRecord_23 ?_
  exact W.iret (v := (iZ ((u ((x + 1) % 16000).toNat % 256) * 256 + (u ((x + 2) % 16000).toNat % 256)))) hx hb hr (fun t ht hW => ⟨⟨_, (), rfl, rfl, by rw [ht]; exact hP, va_K.moved hW.alike hK, hAe ▸ hD⟩, hAe ▸ hS.F ht⟩) (hAe ▸ hS.2.2) d_De_bytesOfRecord_24
set_option maxHeartbeats 4000000 in
set_option maxRecDepth 100000 in
/-- endOfRecord -/
theorem c_De_endOfRecord (l : Launch) (dC : Nat → ClassId) (dI : Nat → Nat → Nat) (cB : ClassId) (cI : ClassId) (cJ : ClassId) (cZ : ClassId) (cQ : ClassId) (d0 r0 a0 w0 p0 i0 r1 : Nat) (sz : Nat) (N : Int) (bg : Int) (en : Int) (fl : Int) (rs : Int) (pl : va_W) (g : Nat → Option Nat) (al : Nat → Bool) (u : Nat → Int) (x : Int) (hR : RK cB pl g al u) (hx0 : 0 ≤ x ∧ x ≤ 1000070000) : Met l y_De_endOfRecord ((Cond.code y_De_endOfRecord prog_1_method_21_code 2 (some .int)) :: gw) ({ frames := 3, cells := 0, slots := 0, locals := 63 } : Room) (zPc (dC, dI) [(cB, .byte), (cI, .int), (cJ, .long), (cZ, .boolean), (cQ, .object "LogDesk$Block")] [.ref d0, .int (iZ x)] ([(d0, .inr (6, [.int (iZ N), .ref r0, .ref a0, .ref w0, .ref p0, .ref i0, .int (iZ bg), .int (iZ en), .int (iZ fl), .int (iZ rs)])), (r0, .inr (4, [.ref r1])), (r1, .inl (cQ, 32, .inr (.inr (.inr (.inr g)))))] ++ pl) sz) (va_Qi (fun (r : Int32) (_ : Unit) => r = iZ (er u x)) (zB (dC, dI) [(cB, .byte), (cI, .int), (cJ, .long), (cZ, .boolean), (cQ, .object "LogDesk$Block")] (va_A ([(d0, .inr (6, [.int (iZ N), .ref r0, .ref a0, .ref w0, .ref p0, .ref i0, .int (iZ bg), .int (iZ en), .int (iZ fl), .int (iZ rs)])), (r0, .inr (4, [.ref r1])), (r1, .inl (cQ, 32, .inr (.inr (.inr (.inr g)))))] ++ pl) sz) ([(d0, .inr (6, [.int (iZ N), .ref r0, .ref a0, .ref w0, .ref p0, .ref i0, .int (iZ bg), .int (iZ en), .int (iZ fl), .int (iZ rs)])), (r0, .inr (4, [.ref r1])), (r1, .inl (cQ, 32, .inr (.inr (.inr (.inr g)))))] ++ pl)) (va_A ([(d0, .inr (6, [.int (iZ N), .ref r0, .ref a0, .ref w0, .ref p0, .ref i0, .int (iZ bg), .int (iZ en), .int (iZ fl), .int (iZ rs)])), (r0, .inr (4, [.ref r1])), (r1, .inl (cQ, 32, .inr (.inr (.inr (.inr g)))))] ++ pl) sz)) 0 0 (va_A ([(d0, .inr (6, [.int (iZ N), .ref r0, .ref a0, .ref w0, .ref p0, .ref i0, .int (iZ bg), .int (iZ en), .int (iZ fl), .int (iZ rs)])), (r0, .inr (4, [.ref r1])), (r1, .inl (cQ, 32, .inr (.inr (.inr (.inr g)))))] ++ pl) sz) := by
  refine Met.ofW (cc := prog_1_method_21_code) (maxL := 2) (ret := (some .int)) (by decide) rfl ?_
  intro p e s m args below meth c s₁ B hml hv
  obtain ⟨rfl, hsz, hP, hK, hD0, hZ⟩ := hv
  have hx := B.exec
  have hb := B.bytes
  have hr := B.returns
  have hts := atoms_spec (ws := (Cond.code y_De_endOfRecord prog_1_method_21_code 2 (some .int)) :: gw) B.pre
  have htg : ∀ w ∈ gw, w.before _ s = true := fun w h => hts w (List.mem_cons_of_mem _ h)
  have hown : s.vm.findClass "LogDesk" = some m.cls := findClass_of_methodNamed B.named
  have hlocks := B.notSynchronized
  subst hsz
  have hD := hD0.self (sz := s.heap.size)
  generalize hAe : va_A ([(d0, .inr (6, [.int (iZ N), .ref r0, .ref a0, .ref w0, .ref p0, .ref i0, .int (iZ bg), .int (iZ en), .int (iZ fl), .int (iZ rs)])), (r0, .inr (4, [.ref r1])), (r1, .inl (cQ, 32, .inr (.inr (.inr (.inr g)))))] ++ pl) s.heap.size = A at hD ⊢
  have hRc : (headSpec ((Cond.code y_De_endOfRecord prog_1_method_21_code 2 (some .int)) :: gw) ({ frames := 3, cells := 0, slots := 0, locals := 63 } : Room)).room.cells = 0 := rfl
  have hRs : (headSpec ((Cond.code y_De_endOfRecord prog_1_method_21_code 2 (some .int)) :: gw) ({ frames := 3, cells := 0, slots := 0, locals := 63 } : Room)).room.slots = 0 := rfl
  have hA : ∀ q : Nat, s.heap.size ≤ q → A q := fun q h => by rw [← hAe]; exact Or.inr h
  have hS : va_S A s.heap s.heap [] := va_S.rf
  have hP : va_P (dC, dI) vwCl ([(d0, .inr (6, [.int (iZ N), .ref r0, .ref a0, .ref w0, .ref p0, .ref i0, .int (iZ bg), .int (iZ en), .int (iZ fl), .int (iZ rs)])), (r0, .inr (4, [.ref r1])), (r1, .inl (cQ, 32, .inr (.inr (.inr (.inr g)))))] ++ pl) s.heap := hP
  have hl := lv_entry ([.ref d0, .int (iZ x)]) (n := 2) (Nat.le_of_ble_eq_true rfl)
  rw [lg_entry_eq]
  generalize (lg_sl ([.ref d0, .int (iZ x)]) ++ List.replicate (2 - (lg_sl ([.ref d0, .int (iZ x)])).length) Slot.unset).toArray = ls at hl ⊢
  have hl : lv_has ls 2 [(0, .ref d0), (1, .int (iZ x))] := hl
  refine lv_iload_n hx hb d_De_endOfRecord_0 rfl (lv_at hl 1 rfl) ?_
  refine lv_iconst (v := iZ 3) hx hb d_De_endOfRecord_1 rfl ?_
  refine zz_iadd hx hb d_De_endOfRecord_2 ?_
  refine lv_aload_n hx hb d_De_endOfRecord_3 rfl (lv_at hl 0 rfl) ?_
  refine lv_iload_n hx hb d_De_endOfRecord_4 rfl (lv_at hl 1 rfl) ?_
  refine zp_i (wr := []) (va_runV (As := [.int (iZ x)]) (rest := [.int (iZ (x + 3))]) ⟨hx, hb, hml, hown, htg⟩ (c_De_bytesOfRecord l dC dI cB cI cJ cZ cQ d0 r0 a0 w0 p0 i0 r1 s.heap.size N bg en fl rs pl g al u x hR (by omega)) (cwV 1 htg (gw_V k_192 k_194 k_p2 k_1 k_195) rfl rfl rfl (by decide +kernel) ⟨Nat.le_of_ble_eq_true rfl, Nat.le_of_ble_eq_true rfl⟩) (zPreVP hK hP hD hZ [0, 1, 2] rfl (by decide) 0 (ci := 6) rfl rfl) rfl rfl hl.1 rfl (lv_room (Nat.le_of_ble_eq_true rfl)) d_De_endOfRecord_5 ⟨by omega, by omega⟩) hP hD hS hA [0, 1, 2] [] rfl rfl (by decide) (by decide) (fun H locs hP hD hS => ?_)
  have hP : va_P (dC, dI) vwCl ([(d0, .inr (6, [.int (iZ N), .ref r0, .ref a0, .ref w0, .ref p0, .ref i0, .int (iZ bg), .int (iZ en), .int (iZ fl), .int (iZ rs)])), (r0, .inr (4, [.ref r1])), (r1, .inl (cQ, 32, .inr (.inr (.inr (.inr g)))))] ++ pl) H := hP
  have hD : va_D A ([(d0, .inr (6, [.int (iZ N), .ref r0, .ref a0, .ref w0, .ref p0, .ref i0, .int (iZ bg), .int (iZ en), .int (iZ fl), .int (iZ rs)])), (r0, .inr (4, [.ref r1])), (r1, .inl (cQ, 32, .inr (.inr (.inr (.inr g)))))] ++ pl) := hD
  refine zz_iadd hx hb d_De_endOfRecord_8 ?_
  exact W.iret (v := (iZ ((x + 3) + (bl u x)))) hx hb hr (fun t ht hW => ⟨⟨_, (), rfl, rfl, by rw [ht]; exact hP, va_K.moved hW.alike hK, hAe ▸ hD⟩, hAe ▸ hS.F ht⟩) (hAe ▸ hS.2.2) d_De_endOfRecord_9
set_option maxHeartbeats 4000000 in
set_option maxRecDepth 100000 in
/-- length -/
theorem c_De_length (l : Launch) (dC : Nat → ClassId) (dI : Nat → Nat → Nat) (cB : ClassId) (cI : ClassId) (cJ : ClassId) (cZ : ClassId) (cQ : ClassId) (d0 r0 a0 w0 p0 i0 r1 : Nat) (sz : Nat) (N : Int) (bg : Int) (en : Int) (fl : Int) (rs : Int) (pl : va_W) (g : Nat → Option Nat) (al : Nat → Bool) (u : Nat → Int) (hR : RK cB pl g al u) (hrs : -1 ≤ rs ∧ rs ≤ 1000000000) : Met l y_De_length ((Cond.code y_De_length prog_1_method_13_code 1 (some .int)) :: gw) ({ frames := 3, cells := 0, slots := 0, locals := 63 } : Room) (zPc (dC, dI) [(cB, .byte), (cI, .int), (cJ, .long), (cZ, .boolean), (cQ, .object "LogDesk$Block")] [.ref d0] ([(d0, .inr (6, [.int (iZ N), .ref r0, .ref a0, .ref w0, .ref p0, .ref i0, .int (iZ bg), .int (iZ en), .int (iZ fl), .int (iZ rs)])), (r0, .inr (4, [.ref r1])), (r1, .inl (cQ, 32, .inr (.inr (.inr (.inr g)))))] ++ pl) sz) (va_Qi (fun (r : Int32) (_ : Unit) => r = iZ (if rs = -1 then -1 else bl u rs)) (zB (dC, dI) [(cB, .byte), (cI, .int), (cJ, .long), (cZ, .boolean), (cQ, .object "LogDesk$Block")] (va_A ([(d0, .inr (6, [.int (iZ N), .ref r0, .ref a0, .ref w0, .ref p0, .ref i0, .int (iZ bg), .int (iZ en), .int (iZ fl), .int (iZ rs)])), (r0, .inr (4, [.ref r1])), (r1, .inl (cQ, 32, .inr (.inr (.inr (.inr g)))))] ++ pl) sz) ([(d0, .inr (6, [.int (iZ N), .ref r0, .ref a0, .ref w0, .ref p0, .ref i0, .int (iZ bg), .int (iZ en), .int (iZ fl), .int (iZ rs)])), (r0, .inr (4, [.ref r1])), (r1, .inl (cQ, 32, .inr (.inr (.inr (.inr g)))))] ++ pl)) (va_A ([(d0, .inr (6, [.int (iZ N), .ref r0, .ref a0, .ref w0, .ref p0, .ref i0, .int (iZ bg), .int (iZ en), .int (iZ fl), .int (iZ rs)])), (r0, .inr (4, [.ref r1])), (r1, .inl (cQ, 32, .inr (.inr (.inr (.inr g)))))] ++ pl) sz)) 0 0 (va_A ([(d0, .inr (6, [.int (iZ N), .ref r0, .ref a0, .ref w0, .ref p0, .ref i0, .int (iZ bg), .int (iZ en), .int (iZ fl), .int (iZ rs)])), (r0, .inr (4, [.ref r1])), (r1, .inl (cQ, 32, .inr (.inr (.inr (.inr g)))))] ++ pl) sz) := by
  refine Met.ofW (cc := prog_1_method_13_code) (maxL := 1) (ret := (some .int)) (by decide) rfl ?_
  intro p e s m args below meth c s₁ B hml hv
  obtain ⟨rfl, hsz, hP, hK, hD0, hZ⟩ := hv
  have hx := B.exec
  have hb := B.bytes
  have hr := B.returns
  have hts := atoms_spec (ws := (Cond.code y_De_length prog_1_method_13_code 1 (some .int)) :: gw) B.pre
  have htg : ∀ w ∈ gw, w.before _ s = true := fun w h => hts w (List.mem_cons_of_mem _ h)
  have hown : s.vm.findClass "LogDesk" = some m.cls := findClass_of_methodNamed B.named
  have hlocks := B.notSynchronized
  subst hsz
  have hD := hD0.self (sz := s.heap.size)
  generalize hAe : va_A ([(d0, .inr (6, [.int (iZ N), .ref r0, .ref a0, .ref w0, .ref p0, .ref i0, .int (iZ bg), .int (iZ en), .int (iZ fl), .int (iZ rs)])), (r0, .inr (4, [.ref r1])), (r1, .inl (cQ, 32, .inr (.inr (.inr (.inr g)))))] ++ pl) s.heap.size = A at hD ⊢
  have hRc : (headSpec ((Cond.code y_De_length prog_1_method_13_code 1 (some .int)) :: gw) ({ frames := 3, cells := 0, slots := 0, locals := 63 } : Room)).room.cells = 0 := rfl
  have hRs : (headSpec ((Cond.code y_De_length prog_1_method_13_code 1 (some .int)) :: gw) ({ frames := 3, cells := 0, slots := 0, locals := 63 } : Room)).room.slots = 0 := rfl
  have hA : ∀ q : Nat, s.heap.size ≤ q → A q := fun q h => by rw [← hAe]; exact Or.inr h
  have hS : va_S A s.heap s.heap [] := va_S.rf
  have hP : va_P (dC, dI) vwCl ([(d0, .inr (6, [.int (iZ N), .ref r0, .ref a0, .ref w0, .ref p0, .ref i0, .int (iZ bg), .int (iZ en), .int (iZ fl), .int (iZ rs)])), (r0, .inr (4, [.ref r1])), (r1, .inl (cQ, 32, .inr (.inr (.inr (.inr g)))))] ++ pl) s.heap := hP
  have hl := lv_entry ([.ref d0]) (n := 1) (Nat.le_of_ble_eq_true rfl)
  rw [lg_entry_eq]
  generalize (lg_sl ([.ref d0]) ++ List.replicate (1 - (lg_sl ([.ref d0])).length) Slot.unset).toArray = ls at hl ⊢
  have hl : lv_has ls 1 [(0, .ref d0)] := hl
  refine lv_aload_n hx hb d_De_length_0 rfl (lv_at hl 0 rfl) ?_
  refine va_get (D := (dC, dI)) (ci := 6) (v := .int (iZ rs)) (C := "LogDesk") (T := F_De) (N := 10) hx hb htg hin_De hown hK hP 0 rfl rfl 9 (by decide) (htg _ k_99) (fun _ h9 => h9) rfl d_De_length_1 ?_
  refine lv_iconst (v := iZ (-1)) hx hb d_De_length_4 rfl ?_
  refine zz_icmp_ne (tgt := 12) hx hb d_De_length_5 (by decide) ⟨by omega, by omega⟩ ⟨by omega, by omega⟩ (fun c_1 => ?_) (fun c_1 => ?_)
  · refine lv_aload_n hx hb d_De_length_12 rfl (lv_at hl 0 rfl) ?_
    refine lv_aload_n hx hb d_De_length_13 rfl (lv_at hl 0 rfl) ?_
    refine va_get (D := (dC, dI)) (ci := 6) (v := .int (iZ rs)) (C := "LogDesk") (T := F_De) (N := 10) hx hb htg hin_De hown hK hP 0 rfl rfl 9 (by decide) (htg _ k_99) (fun _ h9 => h9) rfl d_De_length_14 ?_
    refine zp_i (wr := []) (va_runV (As := [.int (iZ rs)]) (rest := []) ⟨hx, hb, hml, hown, htg⟩ (c_De_bytesOfRecord l dC dI cB cI cJ cZ cQ d0 r0 a0 w0 p0 i0 r1 s.heap.size N bg en fl rs pl g al u rs hR (by omega)) (cwV 1 htg (gw_V k_192 k_194 k_p2 k_1 k_195) rfl rfl rfl (by decide +kernel) ⟨Nat.le_of_ble_eq_true rfl, Nat.le_of_ble_eq_true rfl⟩) (zPreVP hK hP hD hZ [0, 1, 2] rfl (by decide) 0 (ci := 6) rfl rfl) rfl rfl hl.1 rfl (lv_room (Nat.le_of_ble_eq_true rfl)) d_De_length_17 ⟨by omega, by omega⟩) hP hD hS hA [0, 1, 2] [] rfl rfl (by decide) (by decide) (fun H locs hP hD hS => ?_)
    have hP : va_P (dC, dI) vwCl ([(d0, .inr (6, [.int (iZ N), .ref r0, .ref a0, .ref w0, .ref p0, .ref i0, .int (iZ bg), .int (iZ en), .int (iZ fl), .int (iZ rs)])), (r0, .inr (4, [.ref r1])), (r1, .inl (cQ, 32, .inr (.inr (.inr (.inr g)))))] ++ pl) H := hP
    have hD : va_D A ([(d0, .inr (6, [.int (iZ N), .ref r0, .ref a0, .ref w0, .ref p0, .ref i0, .int (iZ bg), .int (iZ en), .int (iZ fl), .int (iZ rs)])), (r0, .inr (4, [.ref r1])), (r1, .inl (cQ, 32, .inr (.inr (.inr (.inr g)))))] ++ pl) := hD
    exact W.iret (v := (iZ (bl u rs))) hx hb hr (fun t ht hW => ⟨⟨_, (), rfl, (congrArg iZ (by omega)), by rw [ht]; exact hP, va_K.moved hW.alike hK, hAe ▸ hD⟩, hAe ▸ hS.F ht⟩) (hAe ▸ hS.2.2) d_De_length_20
  · refine lv_iconst (v := iZ (-1)) hx hb d_De_length_8 rfl ?_
    refine lv_goto (tgt := 20) hx hb d_De_length_9 (by decide) ?_
    exact W.iret (v := (iZ (-1))) hx hb hr (fun t ht hW => ⟨⟨_, (), rfl, (congrArg iZ (by omega)), by rw [ht]; exact hP, va_K.moved hW.alike hK, hAe ▸ hD⟩, hAe ▸ hS.F ht⟩) (hAe ▸ hS.2.2) d_De_length_20
set_option maxHeartbeats 4000000 in
set_option maxRecDepth 100000 in
/-- byteOf -/
theorem c_De_byteOf (l : Launch) (dC : Nat → ClassId) (dI : Nat → Nat → Nat) (cB : ClassId) (cI : ClassId) (cJ : ClassId) (cZ : ClassId) (cQ : ClassId) (d0 r0 a0 w0 p0 i0 r1 : Nat) (sz : Nat) (N : Int) (bg : Int) (en : Int) (fl : Int) (rs : Int) (pl : va_W) (g : Nat → Option Nat) (al : Nat → Bool) (u : Nat → Int) (x : Int) (hR : RK cB pl g al u) (hrs : -1 ≤ rs ∧ rs ≤ 1000000000) (hx0 : iB x) : Met l y_De_byteOf ((Cond.code y_De_byteOf prog_1_method_14_code 2 (some .int)) :: gw) ({ frames := 3, cells := 0, slots := 0, locals := 63 } : Room) (zPc (dC, dI) [(cB, .byte), (cI, .int), (cJ, .long), (cZ, .boolean), (cQ, .object "LogDesk$Block")] [.ref d0, .int (iZ x)] ([(d0, .inr (6, [.int (iZ N), .ref r0, .ref a0, .ref w0, .ref p0, .ref i0, .int (iZ bg), .int (iZ en), .int (iZ fl), .int (iZ rs)])), (r0, .inr (4, [.ref r1])), (r1, .inl (cQ, 32, .inr (.inr (.inr (.inr g)))))] ++ pl) sz) (va_Qi (fun (r : Int32) (_ : Unit) => r = iZ (if rs = -1 ∨ x < 0 ∨ bl u rs ≤ x then -1 else rb u (rs + 3 + x))) (zB (dC, dI) [(cB, .byte), (cI, .int), (cJ, .long), (cZ, .boolean), (cQ, .object "LogDesk$Block")] (va_A ([(d0, .inr (6, [.int (iZ N), .ref r0, .ref a0, .ref w0, .ref p0, .ref i0, .int (iZ bg), .int (iZ en), .int (iZ fl), .int (iZ rs)])), (r0, .inr (4, [.ref r1])), (r1, .inl (cQ, 32, .inr (.inr (.inr (.inr g)))))] ++ pl) sz) ([(d0, .inr (6, [.int (iZ N), .ref r0, .ref a0, .ref w0, .ref p0, .ref i0, .int (iZ bg), .int (iZ en), .int (iZ fl), .int (iZ rs)])), (r0, .inr (4, [.ref r1])), (r1, .inl (cQ, 32, .inr (.inr (.inr (.inr g)))))] ++ pl)) (va_A ([(d0, .inr (6, [.int (iZ N), .ref r0, .ref a0, .ref w0, .ref p0, .ref i0, .int (iZ bg), .int (iZ en), .int (iZ fl), .int (iZ rs)])), (r0, .inr (4, [.ref r1])), (r1, .inl (cQ, 32, .inr (.inr (.inr (.inr g)))))] ++ pl) sz)) 0 0 (va_A ([(d0, .inr (6, [.int (iZ N), .ref r0, .ref a0, .ref w0, .ref p0, .ref i0, .int (iZ bg), .int (iZ en), .int (iZ fl), .int (iZ rs)])), (r0, .inr (4, [.ref r1])), (r1, .inl (cQ, 32, .inr (.inr (.inr (.inr g)))))] ++ pl) sz) := by
  refine Met.ofW (cc := prog_1_method_14_code) (maxL := 2) (ret := (some .int)) (by decide) rfl ?_
  intro p e s m args below meth c s₁ B hml hv
  obtain ⟨rfl, hsz, hP, hK, hD0, hZ⟩ := hv
  have hx := B.exec
  have hb := B.bytes
  have hr := B.returns
  have hts := atoms_spec (ws := (Cond.code y_De_byteOf prog_1_method_14_code 2 (some .int)) :: gw) B.pre
  have htg : ∀ w ∈ gw, w.before _ s = true := fun w h => hts w (List.mem_cons_of_mem _ h)
  have hown : s.vm.findClass "LogDesk" = some m.cls := findClass_of_methodNamed B.named
  have hlocks := B.notSynchronized
  subst hsz
  have hD := hD0.self (sz := s.heap.size)
  generalize hAe : va_A ([(d0, .inr (6, [.int (iZ N), .ref r0, .ref a0, .ref w0, .ref p0, .ref i0, .int (iZ bg), .int (iZ en), .int (iZ fl), .int (iZ rs)])), (r0, .inr (4, [.ref r1])), (r1, .inl (cQ, 32, .inr (.inr (.inr (.inr g)))))] ++ pl) s.heap.size = A at hD ⊢
  have hRc : (headSpec ((Cond.code y_De_byteOf prog_1_method_14_code 2 (some .int)) :: gw) ({ frames := 3, cells := 0, slots := 0, locals := 63 } : Room)).room.cells = 0 := rfl
  have hRs : (headSpec ((Cond.code y_De_byteOf prog_1_method_14_code 2 (some .int)) :: gw) ({ frames := 3, cells := 0, slots := 0, locals := 63 } : Room)).room.slots = 0 := rfl
  have hA : ∀ q : Nat, s.heap.size ≤ q → A q := fun q h => by rw [← hAe]; exact Or.inr h
  have hS : va_S A s.heap s.heap [] := va_S.rf
  have hP : va_P (dC, dI) vwCl ([(d0, .inr (6, [.int (iZ N), .ref r0, .ref a0, .ref w0, .ref p0, .ref i0, .int (iZ bg), .int (iZ en), .int (iZ fl), .int (iZ rs)])), (r0, .inr (4, [.ref r1])), (r1, .inl (cQ, 32, .inr (.inr (.inr (.inr g)))))] ++ pl) s.heap := hP
  have hl := lv_entry ([.ref d0, .int (iZ x)]) (n := 2) (Nat.le_of_ble_eq_true rfl)
  rw [lg_entry_eq]
  generalize (lg_sl ([.ref d0, .int (iZ x)]) ++ List.replicate (2 - (lg_sl ([.ref d0, .int (iZ x)])).length) Slot.unset).toArray = ls at hl ⊢
  have hl : lv_has ls 2 [(0, .ref d0), (1, .int (iZ x))] := hl
  obtain ⟨hx1, hx2⟩ := hx0
  have hbl := bl_in u rs
  refine lv_aload_n hx hb d_De_byteOf_0 rfl (lv_at hl 0 rfl) ?_
  refine va_get (D := (dC, dI)) (ci := 6) (v := .int (iZ rs)) (C := "LogDesk") (T := F_De) (N := 10) hx hb htg hin_De hown hK hP 0 rfl rfl 9 (by decide) (htg _ k_99) (fun _ h9 => h9) rfl d_De_byteOf_1 ?_
  refine lv_iconst (v := iZ (-1)) hx hb d_De_byteOf_4 rfl ?_
  refine zz_icmp_eq (tgt := 24) hx hb d_De_byteOf_5 (by decide) ⟨by omega, by omega⟩ ⟨by omega, by omega⟩ (fun c_1 => ?_) (fun c_1 => ?_)
  · refine lv_iconst (v := iZ (-1)) hx hb d_De_byteOf_24 rfl ?_
    exact W.iret (v := (iZ (-1))) hx hb hr (fun t ht hW => ⟨⟨_, (), rfl, (congrArg iZ (by omega)), by rw [ht]; exact hP, va_K.moved hW.alike hK, hAe ▸ hD⟩, hAe ▸ hS.F ht⟩) (hAe ▸ hS.2.2) d_De_byteOf_25
  · refine lv_iload_n hx hb d_De_byteOf_8 rfl (lv_at hl 1 rfl) ?_
    refine zz_if_lt (tgt := 24) hx hb d_De_byteOf_9 (by decide) ⟨by omega, by omega⟩ (fun c_2 => ?_) (fun c_2 => ?_)
    · refine lv_iconst (v := iZ (-1)) hx hb d_De_byteOf_24 rfl ?_
      exact W.iret (v := (iZ (-1))) hx hb hr (fun t ht hW => ⟨⟨_, (), rfl, (congrArg iZ (by omega)), by rw [ht]; exact hP, va_K.moved hW.alike hK, hAe ▸ hD⟩, hAe ▸ hS.F ht⟩) (hAe ▸ hS.2.2) d_De_byteOf_25
    · refine lv_iload_n hx hb d_De_byteOf_12 rfl (lv_at hl 1 rfl) ?_
      refine lv_aload_n hx hb d_De_byteOf_13 rfl (lv_at hl 0 rfl) ?_
      refine lv_aload_n hx hb d_De_byteOf_14 rfl (lv_at hl 0 rfl) ?_
      refine va_get (D := (dC, dI)) (ci := 6) (v := .int (iZ rs)) (C := "LogDesk") (T := F_De) (N := 10) hx hb htg hin_De hown hK hP 0 rfl rfl 9 (by decide) (htg _ k_99) (fun _ h9 => h9) rfl d_De_byteOf_15 ?_
      refine zp_i (wr := []) (va_runV (As := [.int (iZ rs)]) (rest := [.int (iZ x)]) ⟨hx, hb, hml, hown, htg⟩ (c_De_bytesOfRecord l dC dI cB cI cJ cZ cQ d0 r0 a0 w0 p0 i0 r1 s.heap.size N bg en fl rs pl g al u rs hR (by omega)) (cwV 1 htg (gw_V k_192 k_194 k_p2 k_1 k_195) rfl rfl rfl (by decide +kernel) ⟨Nat.le_of_ble_eq_true rfl, Nat.le_of_ble_eq_true rfl⟩) (zPreVP hK hP hD hZ [0, 1, 2] rfl (by decide) 0 (ci := 6) rfl rfl) rfl rfl hl.1 rfl (lv_room (Nat.le_of_ble_eq_true rfl)) d_De_byteOf_18 ⟨by omega, by omega⟩) hP hD hS hA [0, 1, 2] [] rfl rfl (by decide) (by decide) (fun H locs hP hD hS => ?_)
      have hP : va_P (dC, dI) vwCl ([(d0, .inr (6, [.int (iZ N), .ref r0, .ref a0, .ref w0, .ref p0, .ref i0, .int (iZ bg), .int (iZ en), .int (iZ fl), .int (iZ rs)])), (r0, .inr (4, [.ref r1])), (r1, .inl (cQ, 32, .inr (.inr (.inr (.inr g)))))] ++ pl) H := hP
      have hD : va_D A ([(d0, .inr (6, [.int (iZ N), .ref r0, .ref a0, .ref w0, .ref p0, .ref i0, .int (iZ bg), .int (iZ en), .int (iZ fl), .int (iZ rs)])), (r0, .inr (4, [.ref r1])), (r1, .inl (cQ, 32, .inr (.inr (.inr (.inr g)))))] ++ pl) := hD
      refine zz_icmp_lt (tgt := 26) hx hb d_De_byteOf_21 (by decide) ⟨by omega, by omega⟩ ⟨by omega, by omega⟩ (fun c_3 => ?_) (fun c_3 => ?_)
      · refine lv_aload_n hx hb d_De_byteOf_26 rfl (lv_at hl 0 rfl) ?_
        refine va_get (D := (dC, dI)) (ci := 6) (v := .ref r0) (C := "LogDesk") (T := F_De) (N := 10) hx hb htg hin_De hown hK hP 0 rfl rfl 1 (by decide) (htg _ k_91) (fun _ h9 => h9) rfl d_De_byteOf_27 ?_
        refine lv_aload_n hx hb d_De_byteOf_30 rfl (lv_at hl 0 rfl) ?_
        refine va_get (D := (dC, dI)) (ci := 6) (v := .int (iZ rs)) (C := "LogDesk") (T := F_De) (N := 10) hx hb htg hin_De hown hK hP 0 rfl rfl 9 (by decide) (htg _ k_99) (fun _ h9 => h9) rfl d_De_byteOf_31 ?_
        refine lv_iconst (v := iZ 3) hx hb d_De_byteOf_34 rfl ?_
        refine zz_iadd hx hb d_De_byteOf_35 ?_
        refine lv_iload_n hx hb d_De_byteOf_36 rfl (lv_at hl 1 rfl) ?_
        refine zz_iadd hx hb d_De_byteOf_37 ?_
        refine zp_i (wr := [(d0, .inr (6, [.int (iZ N), .ref r0, .ref a0, .ref w0, .ref p0, .ref i0, .int (iZ bg), .int (iZ en), .int (iZ fl), .int (iZ rs)]))]) (va_runV (As := [.int (iZ ((rs + 3) + x))]) (rest := []) ⟨hx, hb, hml, hown, htg⟩ (c_Ri_get l dC dI cB cI cJ cZ cQ r0 r1 H.size pl g al u ((rs + 3) + x) hR (by omega)) (cwV 1 htg (gw_V k_196 k_197 k_198 k_2 k_199) rfl rfl rfl (by decide +kernel) ⟨Nat.le_of_ble_eq_true rfl, Nat.le_of_ble_eq_true rfl⟩) (zPreVP hK hP hD hZ [1, 2] rfl (by decide) 1 (ci := 4) rfl rfl) rfl rfl hl.1 rfl (lv_room (Nat.le_of_ble_eq_true rfl)) d_De_byteOf_38 ⟨by omega, by omega⟩) hP hD hS hA [1, 2] [0] rfl rfl (by decide) (by decide) (fun H locs hP hD hS => ?_)
        have hP : va_P (dC, dI) vwCl ([(d0, .inr (6, [.int (iZ N), .ref r0, .ref a0, .ref w0, .ref p0, .ref i0, .int (iZ bg), .int (iZ en), .int (iZ fl), .int (iZ rs)])), (r0, .inr (4, [.ref r1])), (r1, .inl (cQ, 32, .inr (.inr (.inr (.inr g)))))] ++ pl) H := hP
        have hD : va_D A ([(d0, .inr (6, [.int (iZ N), .ref r0, .ref a0, .ref w0, .ref p0, .ref i0, .int (iZ bg), .int (iZ en), .int (iZ fl), .int (iZ rs)])), (r0, .inr (4, [.ref r1])), (r1, .inl (cQ, 32, .inr (.inr (.inr (.inr g)))))] ++ pl) := hD
        exact W.iret (v := (iZ (u (((rs + 3) + x) % 16000).toNat % 256))) hx hb hr (fun t ht hW => ⟨⟨_, (), rfl, (congrArg iZ (if_neg (by omega)).symm), by rw [ht]; exact hP, va_K.moved hW.alike hK, hAe ▸ hD⟩, hAe ▸ hS.F ht⟩) (hAe ▸ hS.2.2) d_De_byteOf_41
      · refine lv_iconst (v := iZ (-1)) hx hb d_De_byteOf_24 rfl ?_
        exact W.iret (v := (iZ (-1))) hx hb hr (fun t ht hW => ⟨⟨_, (), rfl, (congrArg iZ (by omega)), by rw [ht]; exact hP, va_K.moved hW.alike hK, hAe ▸ hD⟩, hAe ▸ hS.F ht⟩) (hAe ▸ hS.2.2) d_De_byteOf_25
set_option maxHeartbeats 4000000 in
set_option maxRecDepth 100000 in
/-- isEdge -/
theorem c_De_isEdge (l : Launch) (dC : Nat → ClassId) (dI : Nat → Nat → Nat) (cB : ClassId) (cI : ClassId) (cJ : ClassId) (cZ : ClassId) (cQ : ClassId) (d0 r0 a0 w0 p0 i0 r1 : Nat) (sz : Nat) (N : Int) (bg : Int) (en : Int) (fl : Int) (rs : Int) (pl : va_W) (g : Nat → Option Nat) (al : Nat → Bool) (u : Nat → Int) (x : Int) (hR : RK cB pl g al u) (hpl : 0 ≤ bg ∧ bg ≤ en ∧ en ≤ 1000000000 ∧ 0 ≤ fl ∧ fl ≤ 1000000000) (hx0 : iB x) : Met l y_De_isEdge ((Cond.code y_De_isEdge prog_1_method_22_code 4 (some .boolean)) :: gw) ({ frames := 4, cells := 0, slots := 0, locals := 84 } : Room) (zPc (dC, dI) [(cB, .byte), (cI, .int), (cJ, .long), (cZ, .boolean), (cQ, .object "LogDesk$Block")] [.ref d0, .int (iZ x)] ([(d0, .inr (6, [.int (iZ N), .ref r0, .ref a0, .ref w0, .ref p0, .ref i0, .int (iZ bg), .int (iZ en), .int (iZ fl), .int (iZ rs)])), (r0, .inr (4, [.ref r1])), (r1, .inl (cQ, 32, .inr (.inr (.inr (.inr g)))))] ++ pl) sz) (va_Qi (fun (r : Int32) (_ : Unit) => r = iZ (if eg u en x 5334 bg = x then 1 else 0)) (zB (dC, dI) [(cB, .byte), (cI, .int), (cJ, .long), (cZ, .boolean), (cQ, .object "LogDesk$Block")] (va_A ([(d0, .inr (6, [.int (iZ N), .ref r0, .ref a0, .ref w0, .ref p0, .ref i0, .int (iZ bg), .int (iZ en), .int (iZ fl), .int (iZ rs)])), (r0, .inr (4, [.ref r1])), (r1, .inl (cQ, 32, .inr (.inr (.inr (.inr g)))))] ++ pl) sz) ([(d0, .inr (6, [.int (iZ N), .ref r0, .ref a0, .ref w0, .ref p0, .ref i0, .int (iZ bg), .int (iZ en), .int (iZ fl), .int (iZ rs)])), (r0, .inr (4, [.ref r1])), (r1, .inl (cQ, 32, .inr (.inr (.inr (.inr g)))))] ++ pl)) (va_A ([(d0, .inr (6, [.int (iZ N), .ref r0, .ref a0, .ref w0, .ref p0, .ref i0, .int (iZ bg), .int (iZ en), .int (iZ fl), .int (iZ rs)])), (r0, .inr (4, [.ref r1])), (r1, .inl (cQ, 32, .inr (.inr (.inr (.inr g)))))] ++ pl) sz)) 0 0 (va_A ([(d0, .inr (6, [.int (iZ N), .ref r0, .ref a0, .ref w0, .ref p0, .ref i0, .int (iZ bg), .int (iZ en), .int (iZ fl), .int (iZ rs)])), (r0, .inr (4, [.ref r1])), (r1, .inl (cQ, 32, .inr (.inr (.inr (.inr g)))))] ++ pl) sz) := by
  refine Met.ofW (cc := prog_1_method_22_code) (maxL := 4) (ret := (some .boolean)) (by decide) rfl ?_
  intro p e s m args below meth c s₁ B hml hv
  obtain ⟨rfl, hsz, hP, hK, hD0, hZ⟩ := hv
  have hx := B.exec
  have hb := B.bytes
  have hr := B.returns
  have hts := atoms_spec (ws := (Cond.code y_De_isEdge prog_1_method_22_code 4 (some .boolean)) :: gw) B.pre
  have htg : ∀ w ∈ gw, w.before _ s = true := fun w h => hts w (List.mem_cons_of_mem _ h)
  have hown : s.vm.findClass "LogDesk" = some m.cls := findClass_of_methodNamed B.named
  have hlocks := B.notSynchronized
  subst hsz
  have hD := hD0.self (sz := s.heap.size)
  generalize hAe : va_A ([(d0, .inr (6, [.int (iZ N), .ref r0, .ref a0, .ref w0, .ref p0, .ref i0, .int (iZ bg), .int (iZ en), .int (iZ fl), .int (iZ rs)])), (r0, .inr (4, [.ref r1])), (r1, .inl (cQ, 32, .inr (.inr (.inr (.inr g)))))] ++ pl) s.heap.size = A at hD ⊢
  have hRc : (headSpec ((Cond.code y_De_isEdge prog_1_method_22_code 4 (some .boolean)) :: gw) ({ frames := 4, cells := 0, slots := 0, locals := 84 } : Room)).room.cells = 0 := rfl
  have hRs : (headSpec ((Cond.code y_De_isEdge prog_1_method_22_code 4 (some .boolean)) :: gw) ({ frames := 4, cells := 0, slots := 0, locals := 84 } : Room)).room.slots = 0 := rfl
  generalize hQ : MQ below (va_Qi (fun (r : Int32) (_ : Unit) => r = iZ (if eg u en x 5334 bg = x then 1 else 0)) (zB (dC, dI) [(cB, .byte), (cI, .int), (cJ, .long), (cZ, .boolean), (cQ, .object "LogDesk$Block")] A ([(d0, .inr (6, [.int (iZ N), .ref r0, .ref a0, .ref w0, .ref p0, .ref i0, .int (iZ bg), .int (iZ en), .int (iZ fl), .int (iZ rs)])), (r0, .inr (4, [.ref r1])), (r1, .inl (cQ, 32, .inr (.inr (.inr (.inr g)))))] ++ pl)) A) [.ref d0, .int (iZ x)].toArray s 0 0 A = QQ
  have hA : ∀ q : Nat, s.heap.size ≤ q → A q := fun q h => by rw [← hAe]; exact Or.inr h
  have hS : va_S A s.heap s.heap [] := va_S.rf
  have hP : va_P (dC, dI) vwCl ([(d0, .inr (6, [.int (iZ N), .ref r0, .ref a0, .ref w0, .ref p0, .ref i0, .int (iZ bg), .int (iZ en), .int (iZ fl), .int (iZ rs)])), (r0, .inr (4, [.ref r1])), (r1, .inl (cQ, 32, .inr (.inr (.inr (.inr g)))))] ++ pl) s.heap := hP
  have hl := lv_entry ([.ref d0, .int (iZ x)]) (n := 4) (Nat.le_of_ble_eq_true rfl)
  rw [lg_entry_eq]
  generalize (lg_sl ([.ref d0, .int (iZ x)]) ++ List.replicate (4 - (lg_sl ([.ref d0, .int (iZ x)])).length) Slot.unset).toArray = ls at hl ⊢
  have hl : lv_has ls 4 [(0, .ref d0), (1, .int (iZ x))] := hl
  obtain ⟨hx1, hx2⟩ := hx0
  refine lv_aload_n hx hb d_De_isEdge_0 rfl (lv_at hl 0 rfl) ?_
  refine va_get (D := (dC, dI)) (ci := 6) (v := .int (iZ bg)) (C := "LogDesk") (T := F_De) (N := 10) hx hb htg hin_De hown hK hP 0 rfl rfl 6 (by decide) (htg _ k_96) (fun _ h9 => h9) rfl d_De_isEdge_1 ?_
  refine lv_istore_n (lv' := [(2, .int (iZ bg)), (0, .ref d0), (1, .int (iZ x))]) hx hb d_De_isEdge_4 rfl hl (by decide) rfl (fun ls hl => ?_)
  refine lv_iconst (v := iZ 0) hx hb d_De_isEdge_5 rfl ?_
  refine lv_istore_n (lv' := [(3, .int (iZ 0)), (2, .int (iZ bg)), (0, .ref d0), (1, .int (iZ x))]) hx hb d_De_isEdge_6 rfl hl (by decide) rfl (fun ls hl => ?_)
  have loop7 : ∀ (nn : Nat) (i : Int) (q : Int) (H : Heap) (locs : List Loc) (ls : Array Slot), (0 ≤ i ∧ i ≤ 5334) → (0 ≤ q ∧ q ≤ 1000070000) → (eg u en x (5334 - i).toNat q = eg u en x 5334 bg) → (5334 - i < (nn : Int)) → va_P (dC, dI) vwCl ([(d0, .inr (6, [.int (iZ N), .ref r0, .ref a0, .ref w0, .ref p0, .ref i0, .int (iZ bg), .int (iZ en), .int (iZ fl), .int (iZ rs)])), (r0, .inr (4, [.ref r1])), (r1, .inl (cQ, 32, .inr (.inr (.inr (.inr g)))))] ++ pl) H → va_D A ([(d0, .inr (6, [.int (iZ N), .ref r0, .ref a0, .ref w0, .ref p0, .ref i0, .int (iZ bg), .int (iZ en), .int (iZ fl), .int (iZ rs)])), (r0, .inr (4, [.ref r1])), (r1, .inl (cQ, 32, .inr (.inr (.inr (.inr g)))))] ++ pl) → va_S A s.heap H locs → lv_has ls 4 [(0, .ref d0), (1, .int (iZ x)), (2, .int (iZ q)), (3, .int (iZ i))] → W p l e (headSpec ((Cond.code y_De_isEdge prog_1_method_22_code 4 (some .boolean)) :: gw) ({ frames := 4, cells := 0, slots := 0, locals := 84 } : Room)).room s m [.ref d0, .int (iZ x)].toArray below meth c H locs 0 0 QQ (F0 m 7 ls []) := by
    intro nn
    induction nn with
    | zero => intro i q H locs ls hi hq hw hm hP hD hS hl; exfalso; omega
    | succ nn ih =>
      intro i q H locs ls hi hq hw hm hP hD hS hl
      have hbl := bl_in u q
      refine lv_iload_n hx hb d_De_isEdge_7 rfl (lv_at hl 3 rfl) ?_
      refine lv_sipush (v := iZ 5334) hx hb d_De_isEdge_8 (by decide) ?_
      refine zz_icmp_ge (tgt := 39) hx hb d_De_isEdge_11 (by decide) ⟨by omega, by omega⟩ ⟨by omega, by omega⟩ (fun c_1 => ?_) (fun c_1 => ?_)
      · have he : eg u en x 5334 bg = q := by rw [← hw]; exact eg_stop (by omega)
        refine lv_iload_n hx hb d_De_isEdge_39 rfl (lv_at hl 2 rfl) ?_
        refine lv_iload_n hx hb d_De_isEdge_40 rfl (lv_at hl 1 rfl) ?_
        refine zz_icmp_ne (tgt := 48) hx hb d_De_isEdge_41 (by decide) ⟨by omega, by omega⟩ ⟨by omega, by omega⟩ (fun c_2 => ?_) (fun c_2 => ?_)
        · refine lv_iconst (v := iZ 0) hx hb d_De_isEdge_48 rfl ?_
          subst hQ
          exact W.zret (v := (iZ 0)) hx hb hr rfl (fun t ht hW => ⟨⟨_, (), rfl, (congrArg iZ (by omega)), by rw [ht]; exact hP, va_K.moved hW.alike hK, hAe ▸ hD⟩, hAe ▸ hS.F ht⟩) (hAe ▸ hS.2.2) d_De_isEdge_49
        · refine lv_iconst (v := iZ 1) hx hb d_De_isEdge_44 rfl ?_
          refine lv_goto (tgt := 49) hx hb d_De_isEdge_45 (by decide) ?_
          subst hQ
          exact W.zret (v := (iZ 1)) hx hb hr rfl (fun t ht hW => ⟨⟨_, (), rfl, (congrArg iZ (by omega)), by rw [ht]; exact hP, va_K.moved hW.alike hK, hAe ▸ hD⟩, hAe ▸ hS.F ht⟩) (hAe ▸ hS.2.2) d_De_isEdge_49
      · refine lv_iload_n hx hb d_De_isEdge_14 rfl (lv_at hl 2 rfl) ?_
        refine lv_iload_n hx hb d_De_isEdge_15 rfl (lv_at hl 1 rfl) ?_
        refine zz_icmp_ge (tgt := 39) hx hb d_De_isEdge_16 (by decide) ⟨by omega, by omega⟩ ⟨by omega, by omega⟩ (fun c_3 => ?_) (fun c_3 => ?_)
        · have he : eg u en x 5334 bg = q := by rw [← hw]; exact eg_stop (by omega)
          refine lv_iload_n hx hb d_De_isEdge_39 rfl (lv_at hl 2 rfl) ?_
          refine lv_iload_n hx hb d_De_isEdge_40 rfl (lv_at hl 1 rfl) ?_
          refine zz_icmp_ne (tgt := 48) hx hb d_De_isEdge_41 (by decide) ⟨by omega, by omega⟩ ⟨by omega, by omega⟩ (fun c_4 => ?_) (fun c_4 => ?_)
          · refine lv_iconst (v := iZ 0) hx hb d_De_isEdge_48 rfl ?_
            subst hQ
            exact W.zret (v := (iZ 0)) hx hb hr rfl (fun t ht hW => ⟨⟨_, (), rfl, (congrArg iZ (by omega)), by rw [ht]; exact hP, va_K.moved hW.alike hK, hAe ▸ hD⟩, hAe ▸ hS.F ht⟩) (hAe ▸ hS.2.2) d_De_isEdge_49
          · refine lv_iconst (v := iZ 1) hx hb d_De_isEdge_44 rfl ?_
            refine lv_goto (tgt := 49) hx hb d_De_isEdge_45 (by decide) ?_
            subst hQ
            exact W.zret (v := (iZ 1)) hx hb hr rfl (fun t ht hW => ⟨⟨_, (), rfl, (congrArg iZ (by omega)), by rw [ht]; exact hP, va_K.moved hW.alike hK, hAe ▸ hD⟩, hAe ▸ hS.F ht⟩) (hAe ▸ hS.2.2) d_De_isEdge_49
        · refine lv_iload_n hx hb d_De_isEdge_19 rfl (lv_at hl 2 rfl) ?_
          refine lv_aload_n hx hb d_De_isEdge_20 rfl (lv_at hl 0 rfl) ?_
          refine va_get (D := (dC, dI)) (ci := 6) (v := .int (iZ en)) (C := "LogDesk") (T := F_De) (N := 10) hx hb htg hin_De hown hK hP 0 rfl rfl 7 (by decide) (htg _ k_97) (fun _ h9 => h9) rfl d_De_isEdge_21 ?_
          refine zz_icmp_ge (tgt := 39) hx hb d_De_isEdge_24 (by decide) ⟨by omega, by omega⟩ ⟨by omega, by omega⟩ (fun c_5 => ?_) (fun c_5 => ?_)
          · have he : eg u en x 5334 bg = q := by rw [← hw]; exact eg_stop (by omega)
            refine lv_iload_n hx hb d_De_isEdge_39 rfl (lv_at hl 2 rfl) ?_
            refine lv_iload_n hx hb d_De_isEdge_40 rfl (lv_at hl 1 rfl) ?_
            refine zz_icmp_ne (tgt := 48) hx hb d_De_isEdge_41 (by decide) ⟨by omega, by omega⟩ ⟨by omega, by omega⟩ (fun c_6 => ?_) (fun c_6 => ?_)
            · refine lv_iconst (v := iZ 0) hx hb d_De_isEdge_48 rfl ?_
              subst hQ
              exact W.zret (v := (iZ 0)) hx hb hr rfl (fun t ht hW => ⟨⟨_, (), rfl, (congrArg iZ (by omega)), by rw [ht]; exact hP, va_K.moved hW.alike hK, hAe ▸ hD⟩, hAe ▸ hS.F ht⟩) (hAe ▸ hS.2.2) d_De_isEdge_49
            · refine lv_iconst (v := iZ 1) hx hb d_De_isEdge_44 rfl ?_
              refine lv_goto (tgt := 49) hx hb d_De_isEdge_45 (by decide) ?_
              subst hQ
              exact W.zret (v := (iZ 1)) hx hb hr rfl (fun t ht hW => ⟨⟨_, (), rfl, (congrArg iZ (by omega)), by rw [ht]; exact hP, va_K.moved hW.alike hK, hAe ▸ hD⟩, hAe ▸ hS.F ht⟩) (hAe ▸ hS.2.2) d_De_isEdge_49
          · refine lv_aload_n hx hb d_De_isEdge_27 rfl (lv_at hl 0 rfl) ?_
            refine lv_iload_n hx hb d_De_isEdge_28 rfl (lv_at hl 2 rfl) ?_
            refine zp_i (wr := []) (va_runV (As := [.int (iZ q)]) (rest := []) ⟨hx, hb, hml, hown, htg⟩ (c_De_endOfRecord l dC dI cB cI cJ cZ cQ d0 r0 a0 w0 p0 i0 r1 H.size N bg en fl rs pl g al u q hR (by omega)) (cwV 1 htg (gw_V k_188 k_190 k_p1 k_1 k_191) rfl rfl rfl (by decide +kernel) ⟨Nat.le_of_ble_eq_true rfl, Nat.le_of_ble_eq_true rfl⟩) (zPreVP hK hP hD hZ [0, 1, 2] rfl (by decide) 0 (ci := 6) rfl rfl) rfl rfl hl.1 rfl (lv_room (Nat.le_of_ble_eq_true rfl)) d_De_isEdge_29 ⟨by omega, by omega⟩) hP hD hS hA [0, 1, 2] [] rfl rfl (by decide) (by decide) (fun H locs hP hD hS => ?_)
            have hP : va_P (dC, dI) vwCl ([(d0, .inr (6, [.int (iZ N), .ref r0, .ref a0, .ref w0, .ref p0, .ref i0, .int (iZ bg), .int (iZ en), .int (iZ fl), .int (iZ rs)])), (r0, .inr (4, [.ref r1])), (r1, .inl (cQ, 32, .inr (.inr (.inr (.inr g)))))] ++ pl) H := hP
            have hD : va_D A ([(d0, .inr (6, [.int (iZ N), .ref r0, .ref a0, .ref w0, .ref p0, .ref i0, .int (iZ bg), .int (iZ en), .int (iZ fl), .int (iZ rs)])), (r0, .inr (4, [.ref r1])), (r1, .inl (cQ, 32, .inr (.inr (.inr (.inr g)))))] ++ pl) := hD
            refine lv_istore_n (lv' := [(2, .int (iZ (er u q))), (0, .ref d0), (1, .int (iZ x)), (3, .int (iZ i))]) hx hb d_De_isEdge_32 rfl hl (by decide) rfl (fun ls hl => ?_)
            refine lv_iinc (v := iZ (i + 1)) (lv' := [(3, .int (iZ (i + 1))), (2, .int (iZ (er u q))), (0, .ref d0), (1, .int (iZ x))]) hx hb d_De_isEdge_33 hl (k := 3) rfl (iZ_add _ _) (by decide) rfl (fun ls hl => ?_)
            refine lv_goto (tgt := 7) hx hb d_De_isEdge_36 (by decide) ?_
            exact ih (i + 1) (er u q) H _ ls (by omega) (by unfold er; omega) (by rw [← hw, eg_step (q := q) (m := 5334 - i) (by omega) (by omega)]; congr 1; omega) (by omega) hP hD hS (lv_sub hl [2, 3, 1, 0] rfl)
  exact loop7 (Int.toNat (5334 - 0) + 1) 0 bg s.heap _ ls (by omega) (by omega) rfl (by omega) hP hD hS (lv_sub hl [2, 3, 1, 0] rfl)
set_option maxHeartbeats 4000000 in
set_option maxRecDepth 100000 in
/-- recover -/
theorem c_De_recover (l : Launch) (dC : Nat → ClassId) (dI : Nat → Nat → Nat) (cB : ClassId) (cI : ClassId) (cJ : ClassId) (cZ : ClassId) (cQ : ClassId) (d0 r0 a0 w0 p0 i0 r1 a1 w1 p1 : Nat) (sz : Nat) (N : Int) (bg : Int) (en : Int) (fl : Int) (rs : Int) (cnt : Int) (uh : Nat → Int) (ge : Nat → Int) (pf : Nat → Int64) (pn : Int) (pl : va_W) (g : Nat → Option Nat) (al : Nat → Bool) (u : Nat → Int) (hR : RK cB pl g al u) (hpl : 0 ≤ bg ∧ bg ≤ en ∧ en ≤ 1000000000 ∧ 0 ≤ fl ∧ fl ≤ 1000000000) : Met l y_De_recover ((Cond.code y_De_recover prog_1_method_23_code 3 (some .int)) :: gw) ({ frames := 4, cells := 0, slots := 0, locals := 84 } : Room) (zPc (dC, dI) [(cB, .byte), (cI, .int), (cJ, .long), (cZ, .boolean), (cQ, .object "LogDesk$Block")] [.ref d0] ([(d0, .inr (6, [.int (iZ N), .ref r0, .ref a0, .ref w0, .ref p0, .ref i0, .int (iZ bg), .int (iZ en), .int (iZ fl), .int (iZ rs)])), (r0, .inr (4, [.ref r1])), (r1, .inl (cQ, 32, .inr (.inr (.inr (.inr g))))), (a0, .inr (2, [.ref a1, .int (iZ cnt)])), (a1, .inl (cB, 600, .inl (fun j => iZ (Int.bmod (uh j) 256)))), (w0, .inr (5, [.ref w1])), (w1, .inl (cI, 6, .inl (fun j => iZ (ge j)))), (p0, .inr (3, [.ref p1, .int (iZ pn)])), (p1, .inl (cJ, 32, .inr (.inl pf)))] ++ pl) sz) (va_Qi (fun (r : Int32) (_ : Unit) => r = iZ (rcN u en fl 5334 bg)) (zB (dC, dI) [(cB, .byte), (cI, .int), (cJ, .long), (cZ, .boolean), (cQ, .object "LogDesk$Block")] (va_A ([(d0, .inr (6, [.int (iZ N), .ref r0, .ref a0, .ref w0, .ref p0, .ref i0, .int (iZ bg), .int (iZ en), .int (iZ fl), .int (iZ rs)])), (r0, .inr (4, [.ref r1])), (r1, .inl (cQ, 32, .inr (.inr (.inr (.inr g))))), (a0, .inr (2, [.ref a1, .int (iZ cnt)])), (a1, .inl (cB, 600, .inl (fun j => iZ (Int.bmod (uh j) 256)))), (w0, .inr (5, [.ref w1])), (w1, .inl (cI, 6, .inl (fun j => iZ (ge j)))), (p0, .inr (3, [.ref p1, .int (iZ pn)])), (p1, .inl (cJ, 32, .inr (.inl pf)))] ++ pl) sz) ([(d0, .inr (6, [.int (iZ N), .ref r0, .ref a0, .ref w0, .ref p0, .ref i0, .int (iZ bg), .int (iZ (rcE u en fl 5334 bg)), .int (iZ (rcE u en fl 5334 bg)), .int (iZ (-1))])), (r0, .inr (4, [.ref r1])), (r1, .inl (cQ, 32, .inr (.inr (.inr (.inr g))))), (a0, .inr (2, [.ref a1, .int (iZ 0)])), (a1, .inl (cB, 600, .inl (fun j => iZ (Int.bmod (uh j) 256)))), (w0, .inr (5, [.ref w1])), (w1, .inl (cI, 6, .inl (fun j => iZ ((fun j => if j < 6 then 0 else ge j) j)))), (p0, .inr (3, [.ref p1, .int (iZ 0)])), (p1, .inl (cJ, 32, .inr (.inl (fun j => if j < 32 then 0 else pf j))))] ++ pl)) (va_A ([(d0, .inr (6, [.int (iZ N), .ref r0, .ref a0, .ref w0, .ref p0, .ref i0, .int (iZ bg), .int (iZ en), .int (iZ fl), .int (iZ rs)])), (r0, .inr (4, [.ref r1])), (r1, .inl (cQ, 32, .inr (.inr (.inr (.inr g))))), (a0, .inr (2, [.ref a1, .int (iZ cnt)])), (a1, .inl (cB, 600, .inl (fun j => iZ (Int.bmod (uh j) 256)))), (w0, .inr (5, [.ref w1])), (w1, .inl (cI, 6, .inl (fun j => iZ (ge j)))), (p0, .inr (3, [.ref p1, .int (iZ pn)])), (p1, .inl (cJ, 32, .inr (.inl pf)))] ++ pl) sz)) 0 0 (va_A ([(d0, .inr (6, [.int (iZ N), .ref r0, .ref a0, .ref w0, .ref p0, .ref i0, .int (iZ bg), .int (iZ en), .int (iZ fl), .int (iZ rs)])), (r0, .inr (4, [.ref r1])), (r1, .inl (cQ, 32, .inr (.inr (.inr (.inr g))))), (a0, .inr (2, [.ref a1, .int (iZ cnt)])), (a1, .inl (cB, 600, .inl (fun j => iZ (Int.bmod (uh j) 256)))), (w0, .inr (5, [.ref w1])), (w1, .inl (cI, 6, .inl (fun j => iZ (ge j)))), (p0, .inr (3, [.ref p1, .int (iZ pn)])), (p1, .inl (cJ, 32, .inr (.inl pf)))] ++ pl) sz) := by
  refine Met.ofW (cc := prog_1_method_23_code) (maxL := 3) (ret := (some .int)) (by decide) rfl ?_
  intro p e s m args below meth c s₁ B hml hv
  obtain ⟨rfl, hsz, hP, hK, hD0, hZ⟩ := hv
  have hx := B.exec
  have hb := B.bytes
  have hr := B.returns
  have hts := atoms_spec (ws := (Cond.code y_De_recover prog_1_method_23_code 3 (some .int)) :: gw) B.pre
  have htg : ∀ w ∈ gw, w.before _ s = true := fun w h => hts w (List.mem_cons_of_mem _ h)
  have hown : s.vm.findClass "LogDesk" = some m.cls := findClass_of_methodNamed B.named
  have hlocks := B.notSynchronized
  subst hsz
  have hD := hD0.self (sz := s.heap.size)
  generalize hAe : va_A ([(d0, .inr (6, [.int (iZ N), .ref r0, .ref a0, .ref w0, .ref p0, .ref i0, .int (iZ bg), .int (iZ en), .int (iZ fl), .int (iZ rs)])), (r0, .inr (4, [.ref r1])), (r1, .inl (cQ, 32, .inr (.inr (.inr (.inr g))))), (a0, .inr (2, [.ref a1, .int (iZ cnt)])), (a1, .inl (cB, 600, .inl (fun j => iZ (Int.bmod (uh j) 256)))), (w0, .inr (5, [.ref w1])), (w1, .inl (cI, 6, .inl (fun j => iZ (ge j)))), (p0, .inr (3, [.ref p1, .int (iZ pn)])), (p1, .inl (cJ, 32, .inr (.inl pf)))] ++ pl) s.heap.size = A at hD ⊢
  have hRc : (headSpec ((Cond.code y_De_recover prog_1_method_23_code 3 (some .int)) :: gw) ({ frames := 4, cells := 0, slots := 0, locals := 84 } : Room)).room.cells = 0 := rfl
  have hRs : (headSpec ((Cond.code y_De_recover prog_1_method_23_code 3 (some .int)) :: gw) ({ frames := 4, cells := 0, slots := 0, locals := 84 } : Room)).room.slots = 0 := rfl
  generalize hQ : MQ below (va_Qi (fun (r : Int32) (_ : Unit) => r = iZ (rcN u en fl 5334 bg)) (zB (dC, dI) [(cB, .byte), (cI, .int), (cJ, .long), (cZ, .boolean), (cQ, .object "LogDesk$Block")] A ([(d0, .inr (6, [.int (iZ N), .ref r0, .ref a0, .ref w0, .ref p0, .ref i0, .int (iZ bg), .int (iZ (rcE u en fl 5334 bg)), .int (iZ (rcE u en fl 5334 bg)), .int (iZ (-1))])), (r0, .inr (4, [.ref r1])), (r1, .inl (cQ, 32, .inr (.inr (.inr (.inr g))))), (a0, .inr (2, [.ref a1, .int (iZ 0)])), (a1, .inl (cB, 600, .inl (fun j => iZ (Int.bmod (uh j) 256)))), (w0, .inr (5, [.ref w1])), (w1, .inl (cI, 6, .inl (fun j => iZ ((fun j => if j < 6 then 0 else ge j) j)))), (p0, .inr (3, [.ref p1, .int (iZ 0)])), (p1, .inl (cJ, 32, .inr (.inl (fun j => if j < 32 then 0 else pf j))))] ++ pl)) A) [.ref d0].toArray s 0 0 A = QQ
  have hA : ∀ q : Nat, s.heap.size ≤ q → A q := fun q h => by rw [← hAe]; exact Or.inr h
  have hS : va_S A s.heap s.heap [] := va_S.rf
  have hP : va_P (dC, dI) vwCl ([(d0, .inr (6, [.int (iZ N), .ref r0, .ref a0, .ref w0, .ref p0, .ref i0, .int (iZ bg), .int (iZ en), .int (iZ fl), .int (iZ rs)])), (r0, .inr (4, [.ref r1])), (r1, .inl (cQ, 32, .inr (.inr (.inr (.inr g))))), (a0, .inr (2, [.ref a1, .int (iZ cnt)])), (a1, .inl (cB, 600, .inl (fun j => iZ (Int.bmod (uh j) 256)))), (w0, .inr (5, [.ref w1])), (w1, .inl (cI, 6, .inl (fun j => iZ (ge j)))), (p0, .inr (3, [.ref p1, .int (iZ pn)])), (p1, .inl (cJ, 32, .inr (.inl pf)))] ++ pl) s.heap := hP
  have hl := lv_entry ([.ref d0]) (n := 3) (Nat.le_of_ble_eq_true rfl)
  rw [lg_entry_eq]
  generalize (lg_sl ([.ref d0]) ++ List.replicate (3 - (lg_sl ([.ref d0])).length) Slot.unset).toArray = ls at hl ⊢
  have hl : lv_has ls 3 [(0, .ref d0)] := hl
  refine lv_iconst (v := iZ 0) hx hb d_De_recover_0 rfl ?_
  refine lv_istore_n (lv' := [(1, .int (iZ 0)), (0, .ref d0)]) hx hb d_De_recover_1 rfl hl (by decide) rfl (fun ls hl => ?_)
  refine lv_aload_n hx hb d_De_recover_2 rfl (lv_at hl 1 rfl) ?_
  refine va_get (D := (dC, dI)) (ci := 6) (v := .int (iZ bg)) (C := "LogDesk") (T := F_De) (N := 10) hx hb htg hin_De hown hK hP 0 rfl rfl 6 (by decide) (htg _ k_96) (fun _ h9 => h9) rfl d_De_recover_3 ?_
  refine lv_istore_n (lv' := [(2, .int (iZ bg)), (1, .int (iZ 0)), (0, .ref d0)]) hx hb d_De_recover_6 rfl hl (by decide) rfl (fun ls hl => ?_)
  have loop7 : ∀ (nn : Nat) (i : Int) (q : Int) (H : Heap) (locs : List Loc) (ls : Array Slot), (0 ≤ i ∧ i ≤ 5334) → (0 ≤ q ∧ q ≤ 1000070000) → (rcE u en fl (5334 - i).toNat q = rcE u en fl 5334 bg) → (rcN u en fl (5334 - i).toNat q + i = rcN u en fl 5334 bg) → (5334 - i < (nn : Int)) → va_P (dC, dI) vwCl ([(d0, .inr (6, [.int (iZ N), .ref r0, .ref a0, .ref w0, .ref p0, .ref i0, .int (iZ bg), .int (iZ en), .int (iZ fl), .int (iZ rs)])), (r0, .inr (4, [.ref r1])), (r1, .inl (cQ, 32, .inr (.inr (.inr (.inr g))))), (a0, .inr (2, [.ref a1, .int (iZ cnt)])), (a1, .inl (cB, 600, .inl (fun j => iZ (Int.bmod (uh j) 256)))), (w0, .inr (5, [.ref w1])), (w1, .inl (cI, 6, .inl (fun j => iZ (ge j)))), (p0, .inr (3, [.ref p1, .int (iZ pn)])), (p1, .inl (cJ, 32, .inr (.inl pf)))] ++ pl) H → va_D A ([(d0, .inr (6, [.int (iZ N), .ref r0, .ref a0, .ref w0, .ref p0, .ref i0, .int (iZ bg), .int (iZ en), .int (iZ fl), .int (iZ rs)])), (r0, .inr (4, [.ref r1])), (r1, .inl (cQ, 32, .inr (.inr (.inr (.inr g))))), (a0, .inr (2, [.ref a1, .int (iZ cnt)])), (a1, .inl (cB, 600, .inl (fun j => iZ (Int.bmod (uh j) 256)))), (w0, .inr (5, [.ref w1])), (w1, .inl (cI, 6, .inl (fun j => iZ (ge j)))), (p0, .inr (3, [.ref p1, .int (iZ pn)])), (p1, .inl (cJ, 32, .inr (.inl pf)))] ++ pl) → va_S A s.heap H locs → lv_has ls 3 [(0, .ref d0), (1, .int (iZ i)), (2, .int (iZ q))] → W p l e (headSpec ((Cond.code y_De_recover prog_1_method_23_code 3 (some .int)) :: gw) ({ frames := 4, cells := 0, slots := 0, locals := 84 } : Room)).room s m [.ref d0].toArray below meth c H locs 0 0 QQ (F0 m 7 ls []) := by
    intro nn
    induction nn with
    | zero => intro i q H locs ls hi hq hw hv hm hP hD hS hl; exfalso; omega
    | succ nn ih =>
      intro i q H locs ls hi hq hw hv hm hP hD hS hl
      have hbl := bl_in u q
      have her : er u q = q + 3 + bl u q := rfl
      refine lv_iload_n hx hb d_De_recover_7 rfl (lv_at hl 1 rfl) ?_
      refine lv_sipush (v := iZ 5334) hx hb d_De_recover_8 (by decide) ?_
      refine zz_icmp_ge (tgt := 46) hx hb d_De_recover_11 (by decide) ⟨by omega, by omega⟩ ⟨by omega, by omega⟩ (fun c_1 => ?_) (fun c_1 => ?_)
      · obtain ⟨he, hn⟩ := rcE_stop (u := u) (en := en) (fl := fl) (q := q) (n := (5334 - i).toNat) (by omega)
        refine lv_aload_n hx hb d_De_recover_46 rfl (lv_at hl 0 rfl) ?_
        refine lv_iload_n hx hb d_De_recover_47 rfl (lv_at hl 2 rfl) ?_
        refine va_put (D := (dC, dI)) (ci := 6) (v := .int (iZ q)) (ty := t_De 7) (C := "LogDesk") (T := F_De) (N := 10) hx hb htg hin_De t_De t_De_ok n_De hown hK hP hD hS 0 rfl rfl 7 (by decide) (htg _ k_97) (fun _ h9 => h9) rfl (by decide +kernel) rfl rfl (Nat.le_of_ble_eq_true rfl) d_De_recover_48 (fun H locs hP hD hS => ?_)
        have hP : va_P (dC, dI) vwCl ([(d0, .inr (6, [.int (iZ N), .ref r0, .ref a0, .ref w0, .ref p0, .ref i0, .int (iZ bg), .int (iZ q), .int (iZ fl), .int (iZ rs)])), (r0, .inr (4, [.ref r1])), (r1, .inl (cQ, 32, .inr (.inr (.inr (.inr g))))), (a0, .inr (2, [.ref a1, .int (iZ cnt)])), (a1, .inl (cB, 600, .inl (fun j => iZ (Int.bmod (uh j) 256)))), (w0, .inr (5, [.ref w1])), (w1, .inl (cI, 6, .inl (fun j => iZ (ge j)))), (p0, .inr (3, [.ref p1, .int (iZ pn)])), (p1, .inl (cJ, 32, .inr (.inl pf)))] ++ pl) H := hP
        have hD : va_D A ([(d0, .inr (6, [.int (iZ N), .ref r0, .ref a0, .ref w0, .ref p0, .ref i0, .int (iZ bg), .int (iZ q), .int (iZ fl), .int (iZ rs)])), (r0, .inr (4, [.ref r1])), (r1, .inl (cQ, 32, .inr (.inr (.inr (.inr g))))), (a0, .inr (2, [.ref a1, .int (iZ cnt)])), (a1, .inl (cB, 600, .inl (fun j => iZ (Int.bmod (uh j) 256)))), (w0, .inr (5, [.ref w1])), (w1, .inl (cI, 6, .inl (fun j => iZ (ge j)))), (p0, .inr (3, [.ref p1, .int (iZ pn)])), (p1, .inl (cJ, 32, .inr (.inl pf)))] ++ pl) := hD
        refine lv_aload_n hx hb d_De_recover_51 rfl (lv_at hl 0 rfl) ?_
        refine lv_iload_n hx hb d_De_recover_52 rfl (lv_at hl 2 rfl) ?_
        refine va_put (D := (dC, dI)) (ci := 6) (v := .int (iZ q)) (ty := t_De 8) (C := "LogDesk") (T := F_De) (N := 10) hx hb htg hin_De t_De t_De_ok n_De hown hK hP hD hS 0 rfl rfl 8 (by decide) (htg _ k_98) (fun _ h9 => h9) rfl (by decide +kernel) rfl rfl (Nat.le_of_ble_eq_true rfl) d_De_recover_53 (fun H locs hP hD hS => ?_)
        have hP : va_P (dC, dI) vwCl ([(d0, .inr (6, [.int (iZ N), .ref r0, .ref a0, .ref w0, .ref p0, .ref i0, .int (iZ bg), .int (iZ q), .int (iZ q), .int (iZ rs)])), (r0, .inr (4, [.ref r1])), (r1, .inl (cQ, 32, .inr (.inr (.inr (.inr g))))), (a0, .inr (2, [.ref a1, .int (iZ cnt)])), (a1, .inl (cB, 600, .inl (fun j => iZ (Int.bmod (uh j) 256)))), (w0, .inr (5, [.ref w1])), (w1, .inl (cI, 6, .inl (fun j => iZ (ge j)))), (p0, .inr (3, [.ref p1, .int (iZ pn)])), (p1, .inl (cJ, 32, .inr (.inl pf)))] ++ pl) H := hP
        have hD : va_D A ([(d0, .inr (6, [.int (iZ N), .ref r0, .ref a0, .ref w0, .ref p0, .ref i0, .int (iZ bg), .int (iZ q), .int (iZ q), .int (iZ rs)])), (r0, .inr (4, [.ref r1])), (r1, .inl (cQ, 32, .inr (.inr (.inr (.inr g))))), (a0, .inr (2, [.ref a1, .int (iZ cnt)])), (a1, .inl (cB, 600, .inl (fun j => iZ (Int.bmod (uh j) 256)))), (w0, .inr (5, [.ref w1])), (w1, .inl (cI, 6, .inl (fun j => iZ (ge j)))), (p0, .inr (3, [.ref p1, .int (iZ pn)])), (p1, .inl (cJ, 32, .inr (.inl pf)))] ++ pl) := hD
        refine lv_aload_n hx hb d_De_recover_56 rfl (lv_at hl 0 rfl) ?_
        refine lv_iconst (v := iZ (-1)) hx hb d_De_recover_57 rfl ?_
        refine va_put (D := (dC, dI)) (ci := 6) (v := .int (iZ (-1))) (ty := t_De 9) (C := "LogDesk") (T := F_De) (N := 10) hx hb htg hin_De t_De t_De_ok n_De hown hK hP hD hS 0 rfl rfl 9 (by decide) (htg _ k_99) (fun _ h9 => h9) rfl (by decide +kernel) rfl rfl (Nat.le_of_ble_eq_true rfl) d_De_recover_58 (fun H locs hP hD hS => ?_)
        have hP : va_P (dC, dI) vwCl ([(d0, .inr (6, [.int (iZ N), .ref r0, .ref a0, .ref w0, .ref p0, .ref i0, .int (iZ bg), .int (iZ q), .int (iZ q), .int (iZ (-1))])), (r0, .inr (4, [.ref r1])), (r1, .inl (cQ, 32, .inr (.inr (.inr (.inr g))))), (a0, .inr (2, [.ref a1, .int (iZ cnt)])), (a1, .inl (cB, 600, .inl (fun j => iZ (Int.bmod (uh j) 256)))), (w0, .inr (5, [.ref w1])), (w1, .inl (cI, 6, .inl (fun j => iZ (ge j)))), (p0, .inr (3, [.ref p1, .int (iZ pn)])), (p1, .inl (cJ, 32, .inr (.inl pf)))] ++ pl) H := hP
        have hD : va_D A ([(d0, .inr (6, [.int (iZ N), .ref r0, .ref a0, .ref w0, .ref p0, .ref i0, .int (iZ bg), .int (iZ q), .int (iZ q), .int (iZ (-1))])), (r0, .inr (4, [.ref r1])), (r1, .inl (cQ, 32, .inr (.inr (.inr (.inr g))))), (a0, .inr (2, [.ref a1, .int (iZ cnt)])), (a1, .inl (cB, 600, .inl (fun j => iZ (Int.bmod (uh j) 256)))), (w0, .inr (5, [.ref w1])), (w1, .inl (cI, 6, .inl (fun j => iZ (ge j)))), (p0, .inr (3, [.ref p1, .int (iZ pn)])), (p1, .inl (cJ, 32, .inr (.inl pf)))] ++ pl) := hD
        refine lv_aload_n hx hb d_De_recover_61 rfl (lv_at hl 0 rfl) ?_
        refine va_get (D := (dC, dI)) (ci := 6) (v := .ref a0) (C := "LogDesk") (T := F_De) (N := 10) hx hb htg hin_De hown hK hP 0 rfl rfl 2 (by decide) (htg _ k_92) (fun _ h9 => h9) rfl d_De_recover_62 ?_
        refine zq_v (wr := [(d0, .inr (6, [.int (iZ N), .ref r0, .ref a0, .ref w0, .ref p0, .ref i0, .int (iZ bg), .int (iZ q), .int (iZ q), .int (iZ (-1))])), (r0, .inr (4, [.ref r1])), (r1, .inl (cQ, 32, .inr (.inr (.inr (.inr g))))), (w0, .inr (5, [.ref w1])), (w1, .inl (cI, 6, .inl (fun j => iZ (ge j)))), (p0, .inr (3, [.ref p1, .int (iZ pn)])), (p1, .inl (cJ, 32, .inr (.inl pf)))]) (va_runV (As := []) (rest := []) ⟨hx, hb, hml, hown, htg⟩ (c_Ha_clear l dC dI cB cI cJ cZ cQ a0 a1 H.size cnt uh) (cwV 0 htg (gw_V k_203 k_204 k_205 k_3 k_206) rfl rfl rfl (by decide +kernel) ⟨Nat.le_of_ble_eq_true rfl, Nat.le_of_ble_eq_true rfl⟩) (zPreV hK hP hD hZ [3, 4] rfl (by decide) 3 (ci := 2) rfl rfl) rfl rfl hl.1 rfl (lv_room (Nat.le_of_ble_eq_true rfl)) d_De_recover_65 ⟨by omega, by omega⟩) hP hD hS hA [3, 4] [0, 1, 2, 5, 6, 7, 8] rfl rfl (by decide) (by decide) rfl (fun H locs hP hD hS => ?_)
        have hP : va_P (dC, dI) vwCl ([(d0, .inr (6, [.int (iZ N), .ref r0, .ref a0, .ref w0, .ref p0, .ref i0, .int (iZ bg), .int (iZ q), .int (iZ q), .int (iZ (-1))])), (r0, .inr (4, [.ref r1])), (r1, .inl (cQ, 32, .inr (.inr (.inr (.inr g))))), (w0, .inr (5, [.ref w1])), (w1, .inl (cI, 6, .inl (fun j => iZ (ge j)))), (p0, .inr (3, [.ref p1, .int (iZ pn)])), (p1, .inl (cJ, 32, .inr (.inl pf))), (a0, .inr (2, [.ref a1, .int (iZ 0)])), (a1, .inl (cB, 600, .inl (fun j => iZ (Int.bmod (uh j) 256))))] ++ pl) H := hP
        have hD : va_D A ([(d0, .inr (6, [.int (iZ N), .ref r0, .ref a0, .ref w0, .ref p0, .ref i0, .int (iZ bg), .int (iZ q), .int (iZ q), .int (iZ (-1))])), (r0, .inr (4, [.ref r1])), (r1, .inl (cQ, 32, .inr (.inr (.inr (.inr g))))), (w0, .inr (5, [.ref w1])), (w1, .inl (cI, 6, .inl (fun j => iZ (ge j)))), (p0, .inr (3, [.ref p1, .int (iZ pn)])), (p1, .inl (cJ, 32, .inr (.inl pf))), (a0, .inr (2, [.ref a1, .int (iZ 0)])), (a1, .inl (cB, 600, .inl (fun j => iZ (Int.bmod (uh j) 256))))] ++ pl) := hD
        refine lv_aload_n hx hb d_De_recover_68 rfl (lv_at hl 0 rfl) ?_
        refine va_get (D := (dC, dI)) (ci := 6) (v := .ref w0) (C := "LogDesk") (T := F_De) (N := 10) hx hb htg hin_De hown hK hP 0 rfl rfl 3 (by decide) (htg _ k_93) (fun _ h9 => h9) rfl d_De_recover_69 ?_
        refine zq_v (wr := [(d0, .inr (6, [.int (iZ N), .ref r0, .ref a0, .ref w0, .ref p0, .ref i0, .int (iZ bg), .int (iZ q), .int (iZ q), .int (iZ (-1))])), (r0, .inr (4, [.ref r1])), (r1, .inl (cQ, 32, .inr (.inr (.inr (.inr g))))), (p0, .inr (3, [.ref p1, .int (iZ pn)])), (p1, .inl (cJ, 32, .inr (.inl pf))), (a0, .inr (2, [.ref a1, .int (iZ 0)])), (a1, .inl (cB, 600, .inl (fun j => iZ (Int.bmod (uh j) 256))))]) (va_runV (As := []) (rest := []) ⟨hx, hb, hml, hown, htg⟩ (c_Wa_clear l dC dI cB cI cJ cZ cQ w0 w1 H.size ge) (cwV 0 htg (gw_V k_207 k_208 k_209 k_4 k_210) rfl rfl rfl (by decide +kernel) ⟨Nat.le_of_ble_eq_true rfl, Nat.le_of_ble_eq_true rfl⟩) (zPreV hK hP hD hZ [3, 4] rfl (by decide) 3 (ci := 5) rfl rfl) rfl rfl hl.1 rfl (lv_room (Nat.le_of_ble_eq_true rfl)) d_De_recover_72 ⟨by omega, by omega⟩) hP hD hS hA [3, 4] [0, 1, 2, 5, 6, 7, 8] rfl rfl (by decide) (by decide) rfl (fun H locs hP hD hS => ?_)
        have hP : va_P (dC, dI) vwCl ([(d0, .inr (6, [.int (iZ N), .ref r0, .ref a0, .ref w0, .ref p0, .ref i0, .int (iZ bg), .int (iZ q), .int (iZ q), .int (iZ (-1))])), (r0, .inr (4, [.ref r1])), (r1, .inl (cQ, 32, .inr (.inr (.inr (.inr g))))), (p0, .inr (3, [.ref p1, .int (iZ pn)])), (p1, .inl (cJ, 32, .inr (.inl pf))), (a0, .inr (2, [.ref a1, .int (iZ 0)])), (a1, .inl (cB, 600, .inl (fun j => iZ (Int.bmod (uh j) 256)))), (w0, .inr (5, [.ref w1])), (w1, .inl (cI, 6, .inl (fun j => iZ ((fun j => if j < 6 then 0 else ge j) j))))] ++ pl) H := hP
        have hD : va_D A ([(d0, .inr (6, [.int (iZ N), .ref r0, .ref a0, .ref w0, .ref p0, .ref i0, .int (iZ bg), .int (iZ q), .int (iZ q), .int (iZ (-1))])), (r0, .inr (4, [.ref r1])), (r1, .inl (cQ, 32, .inr (.inr (.inr (.inr g))))), (p0, .inr (3, [.ref p1, .int (iZ pn)])), (p1, .inl (cJ, 32, .inr (.inl pf))), (a0, .inr (2, [.ref a1, .int (iZ 0)])), (a1, .inl (cB, 600, .inl (fun j => iZ (Int.bmod (uh j) 256)))), (w0, .inr (5, [.ref w1])), (w1, .inl (cI, 6, .inl (fun j => iZ ((fun j => if j < 6 then 0 else ge j) j))))] ++ pl) := hD
        refine lv_aload_n hx hb d_De_recover_75 rfl (lv_at hl 0 rfl) ?_
        refine va_get (D := (dC, dI)) (ci := 6) (v := .ref p0) (C := "LogDesk") (T := F_De) (N := 10) hx hb htg hin_De hown hK hP 0 rfl rfl 4 (by decide) (htg _ k_94) (fun _ h9 => h9) rfl d_De_recover_76 ?_
        refine zq_v (wr := [(d0, .inr (6, [.int (iZ N), .ref r0, .ref a0, .ref w0, .ref p0, .ref i0, .int (iZ bg), .int (iZ q), .int (iZ q), .int (iZ (-1))])), (r0, .inr (4, [.ref r1])), (r1, .inl (cQ, 32, .inr (.inr (.inr (.inr g))))), (a0, .inr (2, [.ref a1, .int (iZ 0)])), (a1, .inl (cB, 600, .inl (fun j => iZ (Int.bmod (uh j) 256)))), (w0, .inr (5, [.ref w1])), (w1, .inl (cI, 6, .inl (fun j => iZ ((fun j => if j < 6 then 0 else ge j) j))))]) (va_runV (As := []) (rest := []) ⟨hx, hb, hml, hown, htg⟩ (c_Pa_clear l dC dI cB cI cJ cZ cQ p0 p1 H.size pf pn) (cwV 0 htg (gw_V k_173 k_174 k_175 k_5 k_176) rfl rfl rfl (by decide +kernel) ⟨Nat.le_of_ble_eq_true rfl, Nat.le_of_ble_eq_true rfl⟩) (zPreV hK hP hD hZ [3, 4] rfl (by decide) 3 (ci := 3) rfl rfl) rfl rfl hl.1 rfl (lv_room (Nat.le_of_ble_eq_true rfl)) d_De_recover_79 ⟨by omega, by omega⟩) hP hD hS hA [3, 4] [0, 1, 2, 5, 6, 7, 8] rfl rfl (by decide) (by decide) rfl (fun H locs hP hD hS => ?_)
        have hP : va_P (dC, dI) vwCl ([(d0, .inr (6, [.int (iZ N), .ref r0, .ref a0, .ref w0, .ref p0, .ref i0, .int (iZ bg), .int (iZ q), .int (iZ q), .int (iZ (-1))])), (r0, .inr (4, [.ref r1])), (r1, .inl (cQ, 32, .inr (.inr (.inr (.inr g))))), (a0, .inr (2, [.ref a1, .int (iZ 0)])), (a1, .inl (cB, 600, .inl (fun j => iZ (Int.bmod (uh j) 256)))), (w0, .inr (5, [.ref w1])), (w1, .inl (cI, 6, .inl (fun j => iZ ((fun j => if j < 6 then 0 else ge j) j)))), (p0, .inr (3, [.ref p1, .int (iZ 0)])), (p1, .inl (cJ, 32, .inr (.inl (fun j => if j < 32 then 0 else pf j))))] ++ pl) H := hP
        have hD : va_D A ([(d0, .inr (6, [.int (iZ N), .ref r0, .ref a0, .ref w0, .ref p0, .ref i0, .int (iZ bg), .int (iZ q), .int (iZ q), .int (iZ (-1))])), (r0, .inr (4, [.ref r1])), (r1, .inl (cQ, 32, .inr (.inr (.inr (.inr g))))), (a0, .inr (2, [.ref a1, .int (iZ 0)])), (a1, .inl (cB, 600, .inl (fun j => iZ (Int.bmod (uh j) 256)))), (w0, .inr (5, [.ref w1])), (w1, .inl (cI, 6, .inl (fun j => iZ ((fun j => if j < 6 then 0 else ge j) j)))), (p0, .inr (3, [.ref p1, .int (iZ 0)])), (p1, .inl (cJ, 32, .inr (.inl (fun j => if j < 32 then 0 else pf j))))] ++ pl) := hD
        refine lv_iload_n hx hb d_De_recover_82 rfl (lv_at hl 1 rfl) ?_
        have eW : ∀ (x0 y0 : Int) (x1 y1 : Int), x0 = y0 → x1 = y1 → (([(d0, .inr (6, [.int (iZ N), .ref r0, .ref a0, .ref w0, .ref p0, .ref i0, .int (iZ bg), .int (iZ x0), .int (iZ x1), .int (iZ (-1))])), (r0, .inr (4, [.ref r1])), (r1, .inl (cQ, 32, .inr (.inr (.inr (.inr g))))), (a0, .inr (2, [.ref a1, .int (iZ 0)])), (a1, .inl (cB, 600, .inl (fun j => iZ (Int.bmod (uh j) 256)))), (w0, .inr (5, [.ref w1])), (w1, .inl (cI, 6, .inl (fun j => iZ ((fun j => if j < 6 then 0 else ge j) j)))), (p0, .inr (3, [.ref p1, .int (iZ 0)])), (p1, .inl (cJ, 32, .inr (.inl (fun j => if j < 32 then 0 else pf j))))] ++ pl) : va_W) = ([(d0, .inr (6, [.int (iZ N), .ref r0, .ref a0, .ref w0, .ref p0, .ref i0, .int (iZ bg), .int (iZ y0), .int (iZ y1), .int (iZ (-1))])), (r0, .inr (4, [.ref r1])), (r1, .inl (cQ, 32, .inr (.inr (.inr (.inr g))))), (a0, .inr (2, [.ref a1, .int (iZ 0)])), (a1, .inl (cB, 600, .inl (fun j => iZ (Int.bmod (uh j) 256)))), (w0, .inr (5, [.ref w1])), (w1, .inl (cI, 6, .inl (fun j => iZ ((fun j => if j < 6 then 0 else ge j) j)))), (p0, .inr (3, [.ref p1, .int (iZ 0)])), (p1, .inl (cJ, 32, .inr (.inl (fun j => if j < 32 then 0 else pf j))))] ++ pl) := by intros; subst_vars; rfl
        have eW := eW q (rcE u en fl 5334 bg) q (rcE u en fl 5334 bg) (by rw [← hw, he]) (by rw [← hw, he])
        have hP : va_P (dC, dI) vwCl ([(d0, .inr (6, [.int (iZ N), .ref r0, .ref a0, .ref w0, .ref p0, .ref i0, .int (iZ bg), .int (iZ (rcE u en fl 5334 bg)), .int (iZ (rcE u en fl 5334 bg)), .int (iZ (-1))])), (r0, .inr (4, [.ref r1])), (r1, .inl (cQ, 32, .inr (.inr (.inr (.inr g))))), (a0, .inr (2, [.ref a1, .int (iZ 0)])), (a1, .inl (cB, 600, .inl (fun j => iZ (Int.bmod (uh j) 256)))), (w0, .inr (5, [.ref w1])), (w1, .inl (cI, 6, .inl (fun j => iZ ((fun j => if j < 6 then 0 else ge j) j)))), (p0, .inr (3, [.ref p1, .int (iZ 0)])), (p1, .inl (cJ, 32, .inr (.inl (fun j => if j < 32 then 0 else pf j))))] ++ pl) H := eW ▸ hP
        have hD : va_D A ([(d0, .inr (6, [.int (iZ N), .ref r0, .ref a0, .ref w0, .ref p0, .ref i0, .int (iZ bg), .int (iZ (rcE u en fl 5334 bg)), .int (iZ (rcE u en fl 5334 bg)), .int (iZ (-1))])), (r0, .inr (4, [.ref r1])), (r1, .inl (cQ, 32, .inr (.inr (.inr (.inr g))))), (a0, .inr (2, [.ref a1, .int (iZ 0)])), (a1, .inl (cB, 600, .inl (fun j => iZ (Int.bmod (uh j) 256)))), (w0, .inr (5, [.ref w1])), (w1, .inl (cI, 6, .inl (fun j => iZ ((fun j => if j < 6 then 0 else ge j) j)))), (p0, .inr (3, [.ref p1, .int (iZ 0)])), (p1, .inl (cJ, 32, .inr (.inl (fun j => if j < 32 then 0 else pf j))))] ++ pl) := eW ▸ hD
        subst hQ
        exact W.iret (v := (iZ i)) hx hb hr (fun t ht hW => ⟨⟨_, (), rfl, (congrArg iZ (by rw [← hv, hn]; omega)), by rw [ht]; exact hP, va_K.moved hW.alike hK, hAe ▸ hD⟩, hAe ▸ hS.F ht⟩) (hAe ▸ hS.2.2) d_De_recover_83
      · refine lv_iload_n hx hb d_De_recover_14 rfl (lv_at hl 2 rfl) ?_
        refine lv_aload_n hx hb d_De_recover_15 rfl (lv_at hl 0 rfl) ?_
        refine va_get (D := (dC, dI)) (ci := 6) (v := .int (iZ en)) (C := "LogDesk") (T := F_De) (N := 10) hx hb htg hin_De hown hK hP 0 rfl rfl 7 (by decide) (htg _ k_97) (fun _ h9 => h9) rfl d_De_recover_16 ?_
        refine zz_icmp_ge (tgt := 46) hx hb d_De_recover_19 (by decide) ⟨by omega, by omega⟩ ⟨by omega, by omega⟩ (fun c_2 => ?_) (fun c_2 => ?_)
        · obtain ⟨he, hn⟩ := rcE_stop (u := u) (en := en) (fl := fl) (q := q) (n := (5334 - i).toNat) (by omega)
          refine lv_aload_n hx hb d_De_recover_46 rfl (lv_at hl 0 rfl) ?_
          refine lv_iload_n hx hb d_De_recover_47 rfl (lv_at hl 2 rfl) ?_
          refine va_put (D := (dC, dI)) (ci := 6) (v := .int (iZ q)) (ty := t_De 7) (C := "LogDesk") (T := F_De) (N := 10) hx hb htg hin_De t_De t_De_ok n_De hown hK hP hD hS 0 rfl rfl 7 (by decide) (htg _ k_97) (fun _ h9 => h9) rfl (by decide +kernel) rfl rfl (Nat.le_of_ble_eq_true rfl) d_De_recover_48 (fun H locs hP hD hS => ?_)
          have hP : va_P (dC, dI) vwCl ([(d0, .inr (6, [.int (iZ N), .ref r0, .ref a0, .ref w0, .ref p0, .ref i0, .int (iZ bg), .int (iZ q), .int (iZ fl), .int (iZ rs)])), (r0, .inr (4, [.ref r1])), (r1, .inl (cQ, 32, .inr (.inr (.inr (.inr g))))), (a0, .inr (2, [.ref a1, .int (iZ cnt)])), (a1, .inl (cB, 600, .inl (fun j => iZ (Int.bmod (uh j) 256)))), (w0, .inr (5, [.ref w1])), (w1, .inl (cI, 6, .inl (fun j => iZ (ge j)))), (p0, .inr (3, [.ref p1, .int (iZ pn)])), (p1, .inl (cJ, 32, .inr (.inl pf)))] ++ pl) H := hP
          have hD : va_D A ([(d0, .inr (6, [.int (iZ N), .ref r0, .ref a0, .ref w0, .ref p0, .ref i0, .int (iZ bg), .int (iZ q), .int (iZ fl), .int (iZ rs)])), (r0, .inr (4, [.ref r1])), (r1, .inl (cQ, 32, .inr (.inr (.inr (.inr g))))), (a0, .inr (2, [.ref a1, .int (iZ cnt)])), (a1, .inl (cB, 600, .inl (fun j => iZ (Int.bmod (uh j) 256)))), (w0, .inr (5, [.ref w1])), (w1, .inl (cI, 6, .inl (fun j => iZ (ge j)))), (p0, .inr (3, [.ref p1, .int (iZ pn)])), (p1, .inl (cJ, 32, .inr (.inl pf)))] ++ pl) := hD
          refine lv_aload_n hx hb d_De_recover_51 rfl (lv_at hl 0 rfl) ?_
          refine lv_iload_n hx hb d_De_recover_52 rfl (lv_at hl 2 rfl) ?_
          refine va_put (D := (dC, dI)) (ci := 6) (v := .int (iZ q)) (ty := t_De 8) (C := "LogDesk") (T := F_De) (N := 10) hx hb htg hin_De t_De t_De_ok n_De hown hK hP hD hS 0 rfl rfl 8 (by decide) (htg _ k_98) (fun _ h9 => h9) rfl (by decide +kernel) rfl rfl (Nat.le_of_ble_eq_true rfl) d_De_recover_53 (fun H locs hP hD hS => ?_)
          have hP : va_P (dC, dI) vwCl ([(d0, .inr (6, [.int (iZ N), .ref r0, .ref a0, .ref w0, .ref p0, .ref i0, .int (iZ bg), .int (iZ q), .int (iZ q), .int (iZ rs)])), (r0, .inr (4, [.ref r1])), (r1, .inl (cQ, 32, .inr (.inr (.inr (.inr g))))), (a0, .inr (2, [.ref a1, .int (iZ cnt)])), (a1, .inl (cB, 600, .inl (fun j => iZ (Int.bmod (uh j) 256)))), (w0, .inr (5, [.ref w1])), (w1, .inl (cI, 6, .inl (fun j => iZ (ge j)))), (p0, .inr (3, [.ref p1, .int (iZ pn)])), (p1, .inl (cJ, 32, .inr (.inl pf)))] ++ pl) H := hP
          have hD : va_D A ([(d0, .inr (6, [.int (iZ N), .ref r0, .ref a0, .ref w0, .ref p0, .ref i0, .int (iZ bg), .int (iZ q), .int (iZ q), .int (iZ rs)])), (r0, .inr (4, [.ref r1])), (r1, .inl (cQ, 32, .inr (.inr (.inr (.inr g))))), (a0, .inr (2, [.ref a1, .int (iZ cnt)])), (a1, .inl (cB, 600, .inl (fun j => iZ (Int.bmod (uh j) 256)))), (w0, .inr (5, [.ref w1])), (w1, .inl (cI, 6, .inl (fun j => iZ (ge j)))), (p0, .inr (3, [.ref p1, .int (iZ pn)])), (p1, .inl (cJ, 32, .inr (.inl pf)))] ++ pl) := hD
          refine lv_aload_n hx hb d_De_recover_56 rfl (lv_at hl 0 rfl) ?_
          refine lv_iconst (v := iZ (-1)) hx hb d_De_recover_57 rfl ?_
          refine va_put (D := (dC, dI)) (ci := 6) (v := .int (iZ (-1))) (ty := t_De 9) (C := "LogDesk") (T := F_De) (N := 10) hx hb htg hin_De t_De t_De_ok n_De hown hK hP hD hS 0 rfl rfl 9 (by decide) (htg _ k_99) (fun _ h9 => h9) rfl (by decide +kernel) rfl rfl (Nat.le_of_ble_eq_true rfl) d_De_recover_58 (fun H locs hP hD hS => ?_)
          have hP : va_P (dC, dI) vwCl ([(d0, .inr (6, [.int (iZ N), .ref r0, .ref a0, .ref w0, .ref p0, .ref i0, .int (iZ bg), .int (iZ q), .int (iZ q), .int (iZ (-1))])), (r0, .inr (4, [.ref r1])), (r1, .inl (cQ, 32, .inr (.inr (.inr (.inr g))))), (a0, .inr (2, [.ref a1, .int (iZ cnt)])), (a1, .inl (cB, 600, .inl (fun j => iZ (Int.bmod (uh j) 256)))), (w0, .inr (5, [.ref w1])), (w1, .inl (cI, 6, .inl (fun j => iZ (ge j)))), (p0, .inr (3, [.ref p1, .int (iZ pn)])), (p1, .inl (cJ, 32, .inr (.inl pf)))] ++ pl) H := hP
          have hD : va_D A ([(d0, .inr (6, [.int (iZ N), .ref r0, .ref a0, .ref w0, .ref p0, .ref i0, .int (iZ bg), .int (iZ q), .int (iZ q), .int (iZ (-1))])), (r0, .inr (4, [.ref r1])), (r1, .inl (cQ, 32, .inr (.inr (.inr (.inr g))))), (a0, .inr (2, [.ref a1, .int (iZ cnt)])), (a1, .inl (cB, 600, .inl (fun j => iZ (Int.bmod (uh j) 256)))), (w0, .inr (5, [.ref w1])), (w1, .inl (cI, 6, .inl (fun j => iZ (ge j)))), (p0, .inr (3, [.ref p1, .int (iZ pn)])), (p1, .inl (cJ, 32, .inr (.inl pf)))] ++ pl) := hD
          refine lv_aload_n hx hb d_De_recover_61 rfl (lv_at hl 0 rfl) ?_
          refine va_get (D := (dC, dI)) (ci := 6) (v := .ref a0) (C := "LogDesk") (T := F_De) (N := 10) hx hb htg hin_De hown hK hP 0 rfl rfl 2 (by decide) (htg _ k_92) (fun _ h9 => h9) rfl d_De_recover_62 ?_
          refine zq_v (wr := [(d0, .inr (6, [.int (iZ N), .ref r0, .ref a0, .ref w0, .ref p0, .ref i0, .int (iZ bg), .int (iZ q), .int (iZ q), .int (iZ (-1))])), (r0, .inr (4, [.ref r1])), (r1, .inl (cQ, 32, .inr (.inr (.inr (.inr g))))), (w0, .inr (5, [.ref w1])), (w1, .inl (cI, 6, .inl (fun j => iZ (ge j)))), (p0, .inr (3, [.ref p1, .int (iZ pn)])), (p1, .inl (cJ, 32, .inr (.inl pf)))]) (va_runV (As := []) (rest := []) ⟨hx, hb, hml, hown, htg⟩ (c_Ha_clear l dC dI cB cI cJ cZ cQ a0 a1 H.size cnt uh) (cwV 0 htg (gw_V k_203 k_204 k_205 k_3 k_206) rfl rfl rfl (by decide +kernel) ⟨Nat.le_of_ble_eq_true rfl, Nat.le_of_ble_eq_true rfl⟩) (zPreV hK hP hD hZ [3, 4] rfl (by decide) 3 (ci := 2) rfl rfl) rfl rfl hl.1 rfl (lv_room (Nat.le_of_ble_eq_true rfl)) d_De_recover_65 ⟨by omega, by omega⟩) hP hD hS hA [3, 4] [0, 1, 2, 5, 6, 7, 8] rfl rfl (by decide) (by decide) rfl (fun H locs hP hD hS => ?_)
          have hP : va_P (dC, dI) vwCl ([(d0, .inr (6, [.int (iZ N), .ref r0, .ref a0, .ref w0, .ref p0, .ref i0, .int (iZ bg), .int (iZ q), .int (iZ q), .int (iZ (-1))])), (r0, .inr (4, [.ref r1])), (r1, .inl (cQ, 32, .inr (.inr (.inr (.inr g))))), (w0, .inr (5, [.ref w1])), (w1, .inl (cI, 6, .inl (fun j => iZ (ge j)))), (p0, .inr (3, [.ref p1, .int (iZ pn)])), (p1, .inl (cJ, 32, .inr (.inl pf))), (a0, .inr (2, [.ref a1, .int (iZ 0)])), (a1, .inl (cB, 600, .inl (fun j => iZ (Int.bmod (uh j) 256))))] ++ pl) H := hP
          have hD : va_D A ([(d0, .inr (6, [.int (iZ N), .ref r0, .ref a0, .ref w0, .ref p0, .ref i0, .int (iZ bg), .int (iZ q), .int (iZ q), .int (iZ (-1))])), (r0, .inr (4, [.ref r1])), (r1, .inl (cQ, 32, .inr (.inr (.inr (.inr g))))), (w0, .inr (5, [.ref w1])), (w1, .inl (cI, 6, .inl (fun j => iZ (ge j)))), (p0, .inr (3, [.ref p1, .int (iZ pn)])), (p1, .inl (cJ, 32, .inr (.inl pf))), (a0, .inr (2, [.ref a1, .int (iZ 0)])), (a1, .inl (cB, 600, .inl (fun j => iZ (Int.bmod (uh j) 256))))] ++ pl) := hD
          refine lv_aload_n hx hb d_De_recover_68 rfl (lv_at hl 0 rfl) ?_
          refine va_get (D := (dC, dI)) (ci := 6) (v := .ref w0) (C := "LogDesk") (T := F_De) (N := 10) hx hb htg hin_De hown hK hP 0 rfl rfl 3 (by decide) (htg _ k_93) (fun _ h9 => h9) rfl d_De_recover_69 ?_
          refine zq_v (wr := [(d0, .inr (6, [.int (iZ N), .ref r0, .ref a0, .ref w0, .ref p0, .ref i0, .int (iZ bg), .int (iZ q), .int (iZ q), .int (iZ (-1))])), (r0, .inr (4, [.ref r1])), (r1, .inl (cQ, 32, .inr (.inr (.inr (.inr g))))), (p0, .inr (3, [.ref p1, .int (iZ pn)])), (p1, .inl (cJ, 32, .inr (.inl pf))), (a0, .inr (2, [.ref a1, .int (iZ 0)])), (a1, .inl (cB, 600, .inl (fun j => iZ (Int.bmod (uh j) 256))))]) (va_runV (As := []) (rest := []) ⟨hx, hb, hml, hown, htg⟩ (c_Wa_clear l dC dI cB cI cJ cZ cQ w0 w1 H.size ge) (cwV 0 htg (gw_V k_207 k_208 k_209 k_4 k_210) rfl rfl rfl (by decide +kernel) ⟨Nat.le_of_ble_eq_true rfl, Nat.le_of_ble_eq_true rfl⟩) (zPreV hK hP hD hZ [3, 4] rfl (by decide) 3 (ci := 5) rfl rfl) rfl rfl hl.1 rfl (lv_room (Nat.le_of_ble_eq_true rfl)) d_De_recover_72 ⟨by omega, by omega⟩) hP hD hS hA [3, 4] [0, 1, 2, 5, 6, 7, 8] rfl rfl (by decide) (by decide) rfl (fun H locs hP hD hS => ?_)
          have hP : va_P (dC, dI) vwCl ([(d0, .inr (6, [.int (iZ N), .ref r0, .ref a0, .ref w0, .ref p0, .ref i0, .int (iZ bg), .int (iZ q), .int (iZ q), .int (iZ (-1))])), (r0, .inr (4, [.ref r1])), (r1, .inl (cQ, 32, .inr (.inr (.inr (.inr g))))), (p0, .inr (3, [.ref p1, .int (iZ pn)])), (p1, .inl (cJ, 32, .inr (.inl pf))), (a0, .inr (2, [.ref a1, .int (iZ 0)])), (a1, .inl (cB, 600, .inl (fun j => iZ (Int.bmod (uh j) 256)))), (w0, .inr (5, [.ref w1])), (w1, .inl (cI, 6, .inl (fun j => iZ ((fun j => if j < 6 then 0 else ge j) j))))] ++ pl) H := hP
          have hD : va_D A ([(d0, .inr (6, [.int (iZ N), .ref r0, .ref a0, .ref w0, .ref p0, .ref i0, .int (iZ bg), .int (iZ q), .int (iZ q), .int (iZ (-1))])), (r0, .inr (4, [.ref r1])), (r1, .inl (cQ, 32, .inr (.inr (.inr (.inr g))))), (p0, .inr (3, [.ref p1, .int (iZ pn)])), (p1, .inl (cJ, 32, .inr (.inl pf))), (a0, .inr (2, [.ref a1, .int (iZ 0)])), (a1, .inl (cB, 600, .inl (fun j => iZ (Int.bmod (uh j) 256)))), (w0, .inr (5, [.ref w1])), (w1, .inl (cI, 6, .inl (fun j => iZ ((fun j => if j < 6 then 0 else ge j) j))))] ++ pl) := hD
          refine lv_aload_n hx hb d_De_recover_75 rfl (lv_at hl 0 rfl) ?_
          refine va_get (D := (dC, dI)) (ci := 6) (v := .ref p0) (C := "LogDesk") (T := F_De) (N := 10) hx hb htg hin_De hown hK hP 0 rfl rfl 4 (by decide) (htg _ k_94) (fun _ h9 => h9) rfl d_De_recover_76 ?_
          refine zq_v (wr := [(d0, .inr (6, [.int (iZ N), .ref r0, .ref a0, .ref w0, .ref p0, .ref i0, .int (iZ bg), .int (iZ q), .int (iZ q), .int (iZ (-1))])), (r0, .inr (4, [.ref r1])), (r1, .inl (cQ, 32, .inr (.inr (.inr (.inr g))))), (a0, .inr (2, [.ref a1, .int (iZ 0)])), (a1, .inl (cB, 600, .inl (fun j => iZ (Int.bmod (uh j) 256)))), (w0, .inr (5, [.ref w1])), (w1, .inl (cI, 6, .inl (fun j => iZ ((fun j => if j < 6 then 0 else ge j) j))))]) (va_runV (As := []) (rest := []) ⟨hx, hb, hml, hown, htg⟩ (c_Pa_clear l dC dI cB cI cJ cZ cQ p0 p1 H.size pf pn) (cwV 0 htg (gw_V k_173 k_174 k_175 k_5 k_176) rfl rfl rfl (by decide +kernel) ⟨Nat.le_of_ble_eq_true rfl, Nat.le_of_ble_eq_true rfl⟩) (zPreV hK hP hD hZ [3, 4] rfl (by decide) 3 (ci := 3) rfl rfl) rfl rfl hl.1 rfl (lv_room (Nat.le_of_ble_eq_true rfl)) d_De_recover_79 ⟨by omega, by omega⟩) hP hD hS hA [3, 4] [0, 1, 2, 5, 6, 7, 8] rfl rfl (by decide) (by decide) rfl (fun H locs hP hD hS => ?_)
          have hP : va_P (dC, dI) vwCl ([(d0, .inr (6, [.int (iZ N), .ref r0, .ref a0, .ref w0, .ref p0, .ref i0, .int (iZ bg), .int (iZ q), .int (iZ q), .int (iZ (-1))])), (r0, .inr (4, [.ref r1])), (r1, .inl (cQ, 32, .inr (.inr (.inr (.inr g))))), (a0, .inr (2, [.ref a1, .int (iZ 0)])), (a1, .inl (cB, 600, .inl (fun j => iZ (Int.bmod (uh j) 256)))), (w0, .inr (5, [.ref w1])), (w1, .inl (cI, 6, .inl (fun j => iZ ((fun j => if j < 6 then 0 else ge j) j)))), (p0, .inr (3, [.ref p1, .int (iZ 0)])), (p1, .inl (cJ, 32, .inr (.inl (fun j => if j < 32 then 0 else pf j))))] ++ pl) H := hP
          have hD : va_D A ([(d0, .inr (6, [.int (iZ N), .ref r0, .ref a0, .ref w0, .ref p0, .ref i0, .int (iZ bg), .int (iZ q), .int (iZ q), .int (iZ (-1))])), (r0, .inr (4, [.ref r1])), (r1, .inl (cQ, 32, .inr (.inr (.inr (.inr g))))), (a0, .inr (2, [.ref a1, .int (iZ 0)])), (a1, .inl (cB, 600, .inl (fun j => iZ (Int.bmod (uh j) 256)))), (w0, .inr (5, [.ref w1])), (w1, .inl (cI, 6, .inl (fun j => iZ ((fun j => if j < 6 then 0 else ge j) j)))), (p0, .inr (3, [.ref p1, .int (iZ 0)])), (p1, .inl (cJ, 32, .inr (.inl (fun j => if j < 32 then 0 else pf j))))] ++ pl) := hD
          refine lv_iload_n hx hb d_De_recover_82 rfl (lv_at hl 1 rfl) ?_
          have eW : ∀ (x0 y0 : Int) (x1 y1 : Int), x0 = y0 → x1 = y1 → (([(d0, .inr (6, [.int (iZ N), .ref r0, .ref a0, .ref w0, .ref p0, .ref i0, .int (iZ bg), .int (iZ x0), .int (iZ x1), .int (iZ (-1))])), (r0, .inr (4, [.ref r1])), (r1, .inl (cQ, 32, .inr (.inr (.inr (.inr g))))), (a0, .inr (2, [.ref a1, .int (iZ 0)])), (a1, .inl (cB, 600, .inl (fun j => iZ (Int.bmod (uh j) 256)))), (w0, .inr (5, [.ref w1])), (w1, .inl (cI, 6, .inl (fun j => iZ ((fun j => if j < 6 then 0 else ge j) j)))), (p0, .inr (3, [.ref p1, .int (iZ 0)])), (p1, .inl (cJ, 32, .inr (.inl (fun j => if j < 32 then 0 else pf j))))] ++ pl) : va_W) = ([(d0, .inr (6, [.int (iZ N), .ref r0, .ref a0, .ref w0, .ref p0, .ref i0, .int (iZ bg), .int (iZ y0), .int (iZ y1), .int (iZ (-1))])), (r0, .inr (4, [.ref r1])), (r1, .inl (cQ, 32, .inr (.inr (.inr (.inr g))))), (a0, .inr (2, [.ref a1, .int (iZ 0)])), (a1, .inl (cB, 600, .inl (fun j => iZ (Int.bmod (uh j) 256)))), (w0, .inr (5, [.ref w1])), (w1, .inl (cI, 6, .inl (fun j => iZ ((fun j => if j < 6 then 0 else ge j) j)))), (p0, .inr (3, [.ref p1, .int (iZ 0)])), (p1, .inl (cJ, 32, .inr (.inl (fun j => if j < 32 then 0 else pf j))))] ++ pl) := by intros; subst_vars; rfl
          have eW := eW q (rcE u en fl 5334 bg) q (rcE u en fl 5334 bg) (by rw [← hw, he]) (by rw [← hw, he])
          have hP : va_P (dC, dI) vwCl ([(d0, .inr (6, [.int (iZ N), .ref r0, .ref a0, .ref w0, .ref p0, .ref i0, .int (iZ bg), .int (iZ (rcE u en fl 5334 bg)), .int (iZ (rcE u en fl 5334 bg)), .int (iZ (-1))])), (r0, .inr (4, [.ref r1])), (r1, .inl (cQ, 32, .inr (.inr (.inr (.inr g))))), (a0, .inr (2, [.ref a1, .int (iZ 0)])), (a1, .inl (cB, 600, .inl (fun j => iZ (Int.bmod (uh j) 256)))), (w0, .inr (5, [.ref w1])), (w1, .inl (cI, 6, .inl (fun j => iZ ((fun j => if j < 6 then 0 else ge j) j)))), (p0, .inr (3, [.ref p1, .int (iZ 0)])), (p1, .inl (cJ, 32, .inr (.inl (fun j => if j < 32 then 0 else pf j))))] ++ pl) H := eW ▸ hP
          have hD : va_D A ([(d0, .inr (6, [.int (iZ N), .ref r0, .ref a0, .ref w0, .ref p0, .ref i0, .int (iZ bg), .int (iZ (rcE u en fl 5334 bg)), .int (iZ (rcE u en fl 5334 bg)), .int (iZ (-1))])), (r0, .inr (4, [.ref r1])), (r1, .inl (cQ, 32, .inr (.inr (.inr (.inr g))))), (a0, .inr (2, [.ref a1, .int (iZ 0)])), (a1, .inl (cB, 600, .inl (fun j => iZ (Int.bmod (uh j) 256)))), (w0, .inr (5, [.ref w1])), (w1, .inl (cI, 6, .inl (fun j => iZ ((fun j => if j < 6 then 0 else ge j) j)))), (p0, .inr (3, [.ref p1, .int (iZ 0)])), (p1, .inl (cJ, 32, .inr (.inl (fun j => if j < 32 then 0 else pf j))))] ++ pl) := eW ▸ hD
          subst hQ
          exact W.iret (v := (iZ i)) hx hb hr (fun t ht hW => ⟨⟨_, (), rfl, (congrArg iZ (by rw [← hv, hn]; omega)), by rw [ht]; exact hP, va_K.moved hW.alike hK, hAe ▸ hD⟩, hAe ▸ hS.F ht⟩) (hAe ▸ hS.2.2) d_De_recover_83
        · refine lv_aload_n hx hb d_De_recover_22 rfl (lv_at hl 0 rfl) ?_
          refine lv_iload_n hx hb d_De_recover_23 rfl (lv_at hl 2 rfl) ?_
          refine zp_i (wr := [(a0, .inr (2, [.ref a1, .int (iZ cnt)])), (a1, .inl (cB, 600, .inl (fun j => iZ (Int.bmod (uh j) 256)))), (w0, .inr (5, [.ref w1])), (w1, .inl (cI, 6, .inl (fun j => iZ (ge j)))), (p0, .inr (3, [.ref p1, .int (iZ pn)])), (p1, .inl (cJ, 32, .inr (.inl pf)))]) (va_runV (As := [.int (iZ q)]) (rest := []) ⟨hx, hb, hml, hown, htg⟩ (c_De_endOfRecord l dC dI cB cI cJ cZ cQ d0 r0 a0 w0 p0 i0 r1 H.size N bg en fl rs pl g al u q hR (by omega)) (cwV 1 htg (gw_V k_188 k_190 k_p1 k_1 k_191) rfl rfl rfl (by decide +kernel) ⟨Nat.le_of_ble_eq_true rfl, Nat.le_of_ble_eq_true rfl⟩) (zPreVP hK hP hD hZ [0, 1, 2] rfl (by decide) 0 (ci := 6) rfl rfl) rfl rfl hl.1 rfl (lv_room (Nat.le_of_ble_eq_true rfl)) d_De_recover_24 ⟨by omega, by omega⟩) hP hD hS hA [0, 1, 2] [3, 4, 5, 6, 7, 8] rfl rfl (by decide) (by decide) (fun H locs hP hD hS => ?_)
          have hP : va_P (dC, dI) vwCl ([(a0, .inr (2, [.ref a1, .int (iZ cnt)])), (a1, .inl (cB, 600, .inl (fun j => iZ (Int.bmod (uh j) 256)))), (w0, .inr (5, [.ref w1])), (w1, .inl (cI, 6, .inl (fun j => iZ (ge j)))), (p0, .inr (3, [.ref p1, .int (iZ pn)])), (p1, .inl (cJ, 32, .inr (.inl pf))), (d0, .inr (6, [.int (iZ N), .ref r0, .ref a0, .ref w0, .ref p0, .ref i0, .int (iZ bg), .int (iZ en), .int (iZ fl), .int (iZ rs)])), (r0, .inr (4, [.ref r1])), (r1, .inl (cQ, 32, .inr (.inr (.inr (.inr g)))))] ++ pl) H := hP
          have hD : va_D A ([(a0, .inr (2, [.ref a1, .int (iZ cnt)])), (a1, .inl (cB, 600, .inl (fun j => iZ (Int.bmod (uh j) 256)))), (w0, .inr (5, [.ref w1])), (w1, .inl (cI, 6, .inl (fun j => iZ (ge j)))), (p0, .inr (3, [.ref p1, .int (iZ pn)])), (p1, .inl (cJ, 32, .inr (.inl pf))), (d0, .inr (6, [.int (iZ N), .ref r0, .ref a0, .ref w0, .ref p0, .ref i0, .int (iZ bg), .int (iZ en), .int (iZ fl), .int (iZ rs)])), (r0, .inr (4, [.ref r1])), (r1, .inl (cQ, 32, .inr (.inr (.inr (.inr g)))))] ++ pl) := hD
          refine lv_aload_n hx hb d_De_recover_27 rfl (lv_at hl 0 rfl) ?_
          refine va_get (D := (dC, dI)) (ci := 6) (v := .int (iZ fl)) (C := "LogDesk") (T := F_De) (N := 10) hx hb htg hin_De hown hK hP 6 rfl rfl 8 (by decide) (htg _ k_98) (fun _ h9 => h9) rfl d_De_recover_28 ?_
          refine zz_icmp_gt (tgt := 46) hx hb d_De_recover_31 (by decide) ⟨by omega, by omega⟩ ⟨by omega, by omega⟩ (fun c_3 => ?_) (fun c_3 => ?_)
          · obtain ⟨he, hn⟩ := rcE_stop (u := u) (en := en) (fl := fl) (q := q) (n := (5334 - i).toNat) (by omega)
            refine lv_aload_n hx hb d_De_recover_46 rfl (lv_at hl 0 rfl) ?_
            refine lv_iload_n hx hb d_De_recover_47 rfl (lv_at hl 2 rfl) ?_
            refine va_put (D := (dC, dI)) (ci := 6) (v := .int (iZ q)) (ty := t_De 7) (C := "LogDesk") (T := F_De) (N := 10) hx hb htg hin_De t_De t_De_ok n_De hown hK hP hD hS 6 rfl rfl 7 (by decide) (htg _ k_97) (fun _ h9 => h9) rfl (by decide +kernel) rfl rfl (Nat.le_of_ble_eq_true rfl) d_De_recover_48 (fun H locs hP hD hS => ?_)
            have hP : va_P (dC, dI) vwCl ([(a0, .inr (2, [.ref a1, .int (iZ cnt)])), (a1, .inl (cB, 600, .inl (fun j => iZ (Int.bmod (uh j) 256)))), (w0, .inr (5, [.ref w1])), (w1, .inl (cI, 6, .inl (fun j => iZ (ge j)))), (p0, .inr (3, [.ref p1, .int (iZ pn)])), (p1, .inl (cJ, 32, .inr (.inl pf))), (d0, .inr (6, [.int (iZ N), .ref r0, .ref a0, .ref w0, .ref p0, .ref i0, .int (iZ bg), .int (iZ q), .int (iZ fl), .int (iZ rs)])), (r0, .inr (4, [.ref r1])), (r1, .inl (cQ, 32, .inr (.inr (.inr (.inr g)))))] ++ pl) H := hP
            have hD : va_D A ([(a0, .inr (2, [.ref a1, .int (iZ cnt)])), (a1, .inl (cB, 600, .inl (fun j => iZ (Int.bmod (uh j) 256)))), (w0, .inr (5, [.ref w1])), (w1, .inl (cI, 6, .inl (fun j => iZ (ge j)))), (p0, .inr (3, [.ref p1, .int (iZ pn)])), (p1, .inl (cJ, 32, .inr (.inl pf))), (d0, .inr (6, [.int (iZ N), .ref r0, .ref a0, .ref w0, .ref p0, .ref i0, .int (iZ bg), .int (iZ q), .int (iZ fl), .int (iZ rs)])), (r0, .inr (4, [.ref r1])), (r1, .inl (cQ, 32, .inr (.inr (.inr (.inr g)))))] ++ pl) := hD
            refine lv_aload_n hx hb d_De_recover_51 rfl (lv_at hl 0 rfl) ?_
            refine lv_iload_n hx hb d_De_recover_52 rfl (lv_at hl 2 rfl) ?_
            refine va_put (D := (dC, dI)) (ci := 6) (v := .int (iZ q)) (ty := t_De 8) (C := "LogDesk") (T := F_De) (N := 10) hx hb htg hin_De t_De t_De_ok n_De hown hK hP hD hS 6 rfl rfl 8 (by decide) (htg _ k_98) (fun _ h9 => h9) rfl (by decide +kernel) rfl rfl (Nat.le_of_ble_eq_true rfl) d_De_recover_53 (fun H locs hP hD hS => ?_)
            have hP : va_P (dC, dI) vwCl ([(a0, .inr (2, [.ref a1, .int (iZ cnt)])), (a1, .inl (cB, 600, .inl (fun j => iZ (Int.bmod (uh j) 256)))), (w0, .inr (5, [.ref w1])), (w1, .inl (cI, 6, .inl (fun j => iZ (ge j)))), (p0, .inr (3, [.ref p1, .int (iZ pn)])), (p1, .inl (cJ, 32, .inr (.inl pf))), (d0, .inr (6, [.int (iZ N), .ref r0, .ref a0, .ref w0, .ref p0, .ref i0, .int (iZ bg), .int (iZ q), .int (iZ q), .int (iZ rs)])), (r0, .inr (4, [.ref r1])), (r1, .inl (cQ, 32, .inr (.inr (.inr (.inr g)))))] ++ pl) H := hP
            have hD : va_D A ([(a0, .inr (2, [.ref a1, .int (iZ cnt)])), (a1, .inl (cB, 600, .inl (fun j => iZ (Int.bmod (uh j) 256)))), (w0, .inr (5, [.ref w1])), (w1, .inl (cI, 6, .inl (fun j => iZ (ge j)))), (p0, .inr (3, [.ref p1, .int (iZ pn)])), (p1, .inl (cJ, 32, .inr (.inl pf))), (d0, .inr (6, [.int (iZ N), .ref r0, .ref a0, .ref w0, .ref p0, .ref i0, .int (iZ bg), .int (iZ q), .int (iZ q), .int (iZ rs)])), (r0, .inr (4, [.ref r1])), (r1, .inl (cQ, 32, .inr (.inr (.inr (.inr g)))))] ++ pl) := hD
            refine lv_aload_n hx hb d_De_recover_56 rfl (lv_at hl 0 rfl) ?_
            refine lv_iconst (v := iZ (-1)) hx hb d_De_recover_57 rfl ?_
            refine va_put (D := (dC, dI)) (ci := 6) (v := .int (iZ (-1))) (ty := t_De 9) (C := "LogDesk") (T := F_De) (N := 10) hx hb htg hin_De t_De t_De_ok n_De hown hK hP hD hS 6 rfl rfl 9 (by decide) (htg _ k_99) (fun _ h9 => h9) rfl (by decide +kernel) rfl rfl (Nat.le_of_ble_eq_true rfl) d_De_recover_58 (fun H locs hP hD hS => ?_)
            have hP : va_P (dC, dI) vwCl ([(a0, .inr (2, [.ref a1, .int (iZ cnt)])), (a1, .inl (cB, 600, .inl (fun j => iZ (Int.bmod (uh j) 256)))), (w0, .inr (5, [.ref w1])), (w1, .inl (cI, 6, .inl (fun j => iZ (ge j)))), (p0, .inr (3, [.ref p1, .int (iZ pn)])), (p1, .inl (cJ, 32, .inr (.inl pf))), (d0, .inr (6, [.int (iZ N), .ref r0, .ref a0, .ref w0, .ref p0, .ref i0, .int (iZ bg), .int (iZ q), .int (iZ q), .int (iZ (-1))])), (r0, .inr (4, [.ref r1])), (r1, .inl (cQ, 32, .inr (.inr (.inr (.inr g)))))] ++ pl) H := hP
            have hD : va_D A ([(a0, .inr (2, [.ref a1, .int (iZ cnt)])), (a1, .inl (cB, 600, .inl (fun j => iZ (Int.bmod (uh j) 256)))), (w0, .inr (5, [.ref w1])), (w1, .inl (cI, 6, .inl (fun j => iZ (ge j)))), (p0, .inr (3, [.ref p1, .int (iZ pn)])), (p1, .inl (cJ, 32, .inr (.inl pf))), (d0, .inr (6, [.int (iZ N), .ref r0, .ref a0, .ref w0, .ref p0, .ref i0, .int (iZ bg), .int (iZ q), .int (iZ q), .int (iZ (-1))])), (r0, .inr (4, [.ref r1])), (r1, .inl (cQ, 32, .inr (.inr (.inr (.inr g)))))] ++ pl) := hD
            refine lv_aload_n hx hb d_De_recover_61 rfl (lv_at hl 0 rfl) ?_
            refine va_get (D := (dC, dI)) (ci := 6) (v := .ref a0) (C := "LogDesk") (T := F_De) (N := 10) hx hb htg hin_De hown hK hP 6 rfl rfl 2 (by decide) (htg _ k_92) (fun _ h9 => h9) rfl d_De_recover_62 ?_
            refine zq_v (wr := [(w0, .inr (5, [.ref w1])), (w1, .inl (cI, 6, .inl (fun j => iZ (ge j)))), (p0, .inr (3, [.ref p1, .int (iZ pn)])), (p1, .inl (cJ, 32, .inr (.inl pf))), (d0, .inr (6, [.int (iZ N), .ref r0, .ref a0, .ref w0, .ref p0, .ref i0, .int (iZ bg), .int (iZ q), .int (iZ q), .int (iZ (-1))])), (r0, .inr (4, [.ref r1])), (r1, .inl (cQ, 32, .inr (.inr (.inr (.inr g)))))]) (va_runV (As := []) (rest := []) ⟨hx, hb, hml, hown, htg⟩ (c_Ha_clear l dC dI cB cI cJ cZ cQ a0 a1 H.size cnt uh) (cwV 0 htg (gw_V k_203 k_204 k_205 k_3 k_206) rfl rfl rfl (by decide +kernel) ⟨Nat.le_of_ble_eq_true rfl, Nat.le_of_ble_eq_true rfl⟩) (zPreV hK hP hD hZ [0, 1] rfl (by decide) 0 (ci := 2) rfl rfl) rfl rfl hl.1 rfl (lv_room (Nat.le_of_ble_eq_true rfl)) d_De_recover_65 ⟨by omega, by omega⟩) hP hD hS hA [0, 1] [2, 3, 4, 5, 6, 7, 8] rfl rfl (by decide) (by decide) rfl (fun H locs hP hD hS => ?_)
            have hP : va_P (dC, dI) vwCl ([(w0, .inr (5, [.ref w1])), (w1, .inl (cI, 6, .inl (fun j => iZ (ge j)))), (p0, .inr (3, [.ref p1, .int (iZ pn)])), (p1, .inl (cJ, 32, .inr (.inl pf))), (d0, .inr (6, [.int (iZ N), .ref r0, .ref a0, .ref w0, .ref p0, .ref i0, .int (iZ bg), .int (iZ q), .int (iZ q), .int (iZ (-1))])), (r0, .inr (4, [.ref r1])), (r1, .inl (cQ, 32, .inr (.inr (.inr (.inr g))))), (a0, .inr (2, [.ref a1, .int (iZ 0)])), (a1, .inl (cB, 600, .inl (fun j => iZ (Int.bmod (uh j) 256))))] ++ pl) H := hP
            have hD : va_D A ([(w0, .inr (5, [.ref w1])), (w1, .inl (cI, 6, .inl (fun j => iZ (ge j)))), (p0, .inr (3, [.ref p1, .int (iZ pn)])), (p1, .inl (cJ, 32, .inr (.inl pf))), (d0, .inr (6, [.int (iZ N), .ref r0, .ref a0, .ref w0, .ref p0, .ref i0, .int (iZ bg), .int (iZ q), .int (iZ q), .int (iZ (-1))])), (r0, .inr (4, [.ref r1])), (r1, .inl (cQ, 32, .inr (.inr (.inr (.inr g))))), (a0, .inr (2, [.ref a1, .int (iZ 0)])), (a1, .inl (cB, 600, .inl (fun j => iZ (Int.bmod (uh j) 256))))] ++ pl) := hD
            refine lv_aload_n hx hb d_De_recover_68 rfl (lv_at hl 0 rfl) ?_
            refine va_get (D := (dC, dI)) (ci := 6) (v := .ref w0) (C := "LogDesk") (T := F_De) (N := 10) hx hb htg hin_De hown hK hP 4 rfl rfl 3 (by decide) (htg _ k_93) (fun _ h9 => h9) rfl d_De_recover_69 ?_
            refine zq_v (wr := [(p0, .inr (3, [.ref p1, .int (iZ pn)])), (p1, .inl (cJ, 32, .inr (.inl pf))), (d0, .inr (6, [.int (iZ N), .ref r0, .ref a0, .ref w0, .ref p0, .ref i0, .int (iZ bg), .int (iZ q), .int (iZ q), .int (iZ (-1))])), (r0, .inr (4, [.ref r1])), (r1, .inl (cQ, 32, .inr (.inr (.inr (.inr g))))), (a0, .inr (2, [.ref a1, .int (iZ 0)])), (a1, .inl (cB, 600, .inl (fun j => iZ (Int.bmod (uh j) 256))))]) (va_runV (As := []) (rest := []) ⟨hx, hb, hml, hown, htg⟩ (c_Wa_clear l dC dI cB cI cJ cZ cQ w0 w1 H.size ge) (cwV 0 htg (gw_V k_207 k_208 k_209 k_4 k_210) rfl rfl rfl (by decide +kernel) ⟨Nat.le_of_ble_eq_true rfl, Nat.le_of_ble_eq_true rfl⟩) (zPreV hK hP hD hZ [0, 1] rfl (by decide) 0 (ci := 5) rfl rfl) rfl rfl hl.1 rfl (lv_room (Nat.le_of_ble_eq_true rfl)) d_De_recover_72 ⟨by omega, by omega⟩) hP hD hS hA [0, 1] [2, 3, 4, 5, 6, 7, 8] rfl rfl (by decide) (by decide) rfl (fun H locs hP hD hS => ?_)
            have hP : va_P (dC, dI) vwCl ([(p0, .inr (3, [.ref p1, .int (iZ pn)])), (p1, .inl (cJ, 32, .inr (.inl pf))), (d0, .inr (6, [.int (iZ N), .ref r0, .ref a0, .ref w0, .ref p0, .ref i0, .int (iZ bg), .int (iZ q), .int (iZ q), .int (iZ (-1))])), (r0, .inr (4, [.ref r1])), (r1, .inl (cQ, 32, .inr (.inr (.inr (.inr g))))), (a0, .inr (2, [.ref a1, .int (iZ 0)])), (a1, .inl (cB, 600, .inl (fun j => iZ (Int.bmod (uh j) 256)))), (w0, .inr (5, [.ref w1])), (w1, .inl (cI, 6, .inl (fun j => iZ ((fun j => if j < 6 then 0 else ge j) j))))] ++ pl) H := hP
            have hD : va_D A ([(p0, .inr (3, [.ref p1, .int (iZ pn)])), (p1, .inl (cJ, 32, .inr (.inl pf))), (d0, .inr (6, [.int (iZ N), .ref r0, .ref a0, .ref w0, .ref p0, .ref i0, .int (iZ bg), .int (iZ q), .int (iZ q), .int (iZ (-1))])), (r0, .inr (4, [.ref r1])), (r1, .inl (cQ, 32, .inr (.inr (.inr (.inr g))))), (a0, .inr (2, [.ref a1, .int (iZ 0)])), (a1, .inl (cB, 600, .inl (fun j => iZ (Int.bmod (uh j) 256)))), (w0, .inr (5, [.ref w1])), (w1, .inl (cI, 6, .inl (fun j => iZ ((fun j => if j < 6 then 0 else ge j) j))))] ++ pl) := hD
            refine lv_aload_n hx hb d_De_recover_75 rfl (lv_at hl 0 rfl) ?_
            refine va_get (D := (dC, dI)) (ci := 6) (v := .ref p0) (C := "LogDesk") (T := F_De) (N := 10) hx hb htg hin_De hown hK hP 2 rfl rfl 4 (by decide) (htg _ k_94) (fun _ h9 => h9) rfl d_De_recover_76 ?_
            refine zq_v (wr := [(d0, .inr (6, [.int (iZ N), .ref r0, .ref a0, .ref w0, .ref p0, .ref i0, .int (iZ bg), .int (iZ q), .int (iZ q), .int (iZ (-1))])), (r0, .inr (4, [.ref r1])), (r1, .inl (cQ, 32, .inr (.inr (.inr (.inr g))))), (a0, .inr (2, [.ref a1, .int (iZ 0)])), (a1, .inl (cB, 600, .inl (fun j => iZ (Int.bmod (uh j) 256)))), (w0, .inr (5, [.ref w1])), (w1, .inl (cI, 6, .inl (fun j => iZ ((fun j => if j < 6 then 0 else ge j) j))))]) (va_runV (As := []) (rest := []) ⟨hx, hb, hml, hown, htg⟩ (c_Pa_clear l dC dI cB cI cJ cZ cQ p0 p1 H.size pf pn) (cwV 0 htg (gw_V k_173 k_174 k_175 k_5 k_176) rfl rfl rfl (by decide +kernel) ⟨Nat.le_of_ble_eq_true rfl, Nat.le_of_ble_eq_true rfl⟩) (zPreV hK hP hD hZ [0, 1] rfl (by decide) 0 (ci := 3) rfl rfl) rfl rfl hl.1 rfl (lv_room (Nat.le_of_ble_eq_true rfl)) d_De_recover_79 ⟨by omega, by omega⟩) hP hD hS hA [0, 1] [2, 3, 4, 5, 6, 7, 8] rfl rfl (by decide) (by decide) rfl (fun H locs hP hD hS => ?_)
            have hP : va_P (dC, dI) vwCl ([(d0, .inr (6, [.int (iZ N), .ref r0, .ref a0, .ref w0, .ref p0, .ref i0, .int (iZ bg), .int (iZ q), .int (iZ q), .int (iZ (-1))])), (r0, .inr (4, [.ref r1])), (r1, .inl (cQ, 32, .inr (.inr (.inr (.inr g))))), (a0, .inr (2, [.ref a1, .int (iZ 0)])), (a1, .inl (cB, 600, .inl (fun j => iZ (Int.bmod (uh j) 256)))), (w0, .inr (5, [.ref w1])), (w1, .inl (cI, 6, .inl (fun j => iZ ((fun j => if j < 6 then 0 else ge j) j)))), (p0, .inr (3, [.ref p1, .int (iZ 0)])), (p1, .inl (cJ, 32, .inr (.inl (fun j => if j < 32 then 0 else pf j))))] ++ pl) H := hP
            have hD : va_D A ([(d0, .inr (6, [.int (iZ N), .ref r0, .ref a0, .ref w0, .ref p0, .ref i0, .int (iZ bg), .int (iZ q), .int (iZ q), .int (iZ (-1))])), (r0, .inr (4, [.ref r1])), (r1, .inl (cQ, 32, .inr (.inr (.inr (.inr g))))), (a0, .inr (2, [.ref a1, .int (iZ 0)])), (a1, .inl (cB, 600, .inl (fun j => iZ (Int.bmod (uh j) 256)))), (w0, .inr (5, [.ref w1])), (w1, .inl (cI, 6, .inl (fun j => iZ ((fun j => if j < 6 then 0 else ge j) j)))), (p0, .inr (3, [.ref p1, .int (iZ 0)])), (p1, .inl (cJ, 32, .inr (.inl (fun j => if j < 32 then 0 else pf j))))] ++ pl) := hD
            refine lv_iload_n hx hb d_De_recover_82 rfl (lv_at hl 1 rfl) ?_
            have eW : ∀ (x0 y0 : Int) (x1 y1 : Int), x0 = y0 → x1 = y1 → (([(d0, .inr (6, [.int (iZ N), .ref r0, .ref a0, .ref w0, .ref p0, .ref i0, .int (iZ bg), .int (iZ x0), .int (iZ x1), .int (iZ (-1))])), (r0, .inr (4, [.ref r1])), (r1, .inl (cQ, 32, .inr (.inr (.inr (.inr g))))), (a0, .inr (2, [.ref a1, .int (iZ 0)])), (a1, .inl (cB, 600, .inl (fun j => iZ (Int.bmod (uh j) 256)))), (w0, .inr (5, [.ref w1])), (w1, .inl (cI, 6, .inl (fun j => iZ ((fun j => if j < 6 then 0 else ge j) j)))), (p0, .inr (3, [.ref p1, .int (iZ 0)])), (p1, .inl (cJ, 32, .inr (.inl (fun j => if j < 32 then 0 else pf j))))] ++ pl) : va_W) = ([(d0, .inr (6, [.int (iZ N), .ref r0, .ref a0, .ref w0, .ref p0, .ref i0, .int (iZ bg), .int (iZ y0), .int (iZ y1), .int (iZ (-1))])), (r0, .inr (4, [.ref r1])), (r1, .inl (cQ, 32, .inr (.inr (.inr (.inr g))))), (a0, .inr (2, [.ref a1, .int (iZ 0)])), (a1, .inl (cB, 600, .inl (fun j => iZ (Int.bmod (uh j) 256)))), (w0, .inr (5, [.ref w1])), (w1, .inl (cI, 6, .inl (fun j => iZ ((fun j => if j < 6 then 0 else ge j) j)))), (p0, .inr (3, [.ref p1, .int (iZ 0)])), (p1, .inl (cJ, 32, .inr (.inl (fun j => if j < 32 then 0 else pf j))))] ++ pl) := by intros; subst_vars; rfl
            have eW := eW q (rcE u en fl 5334 bg) q (rcE u en fl 5334 bg) (by rw [← hw, he]) (by rw [← hw, he])
            have hP : va_P (dC, dI) vwCl ([(d0, .inr (6, [.int (iZ N), .ref r0, .ref a0, .ref w0, .ref p0, .ref i0, .int (iZ bg), .int (iZ (rcE u en fl 5334 bg)), .int (iZ (rcE u en fl 5334 bg)), .int (iZ (-1))])), (r0, .inr (4, [.ref r1])), (r1, .inl (cQ, 32, .inr (.inr (.inr (.inr g))))), (a0, .inr (2, [.ref a1, .int (iZ 0)])), (a1, .inl (cB, 600, .inl (fun j => iZ (Int.bmod (uh j) 256)))), (w0, .inr (5, [.ref w1])), (w1, .inl (cI, 6, .inl (fun j => iZ ((fun j => if j < 6 then 0 else ge j) j)))), (p0, .inr (3, [.ref p1, .int (iZ 0)])), (p1, .inl (cJ, 32, .inr (.inl (fun j => if j < 32 then 0 else pf j))))] ++ pl) H := eW ▸ hP
            have hD : va_D A ([(d0, .inr (6, [.int (iZ N), .ref r0, .ref a0, .ref w0, .ref p0, .ref i0, .int (iZ bg), .int (iZ (rcE u en fl 5334 bg)), .int (iZ (rcE u en fl 5334 bg)), .int (iZ (-1))])), (r0, .inr (4, [.ref r1])), (r1, .inl (cQ, 32, .inr (.inr (.inr (.inr g))))), (a0, .inr (2, [.ref a1, .int (iZ 0)])), (a1, .inl (cB, 600, .inl (fun j => iZ (Int.bmod (uh j) 256)))), (w0, .inr (5, [.ref w1])), (w1, .inl (cI, 6, .inl (fun j => iZ ((fun j => if j < 6 then 0 else ge j) j)))), (p0, .inr (3, [.ref p1, .int (iZ 0)])), (p1, .inl (cJ, 32, .inr (.inl (fun j => if j < 32 then 0 else pf j))))] ++ pl) := eW ▸ hD
            subst hQ
            exact W.iret (v := (iZ i)) hx hb hr (fun t ht hW => ⟨⟨_, (), rfl, (congrArg iZ (by rw [← hv, hn]; omega)), by rw [ht]; exact hP, va_K.moved hW.alike hK, hAe ▸ hD⟩, hAe ▸ hS.F ht⟩) (hAe ▸ hS.2.2) d_De_recover_83
          · refine lv_aload_n hx hb d_De_recover_34 rfl (lv_at hl 0 rfl) ?_
            refine lv_iload_n hx hb d_De_recover_35 rfl (lv_at hl 2 rfl) ?_
            refine zp_i (wr := [(a0, .inr (2, [.ref a1, .int (iZ cnt)])), (a1, .inl (cB, 600, .inl (fun j => iZ (Int.bmod (uh j) 256)))), (w0, .inr (5, [.ref w1])), (w1, .inl (cI, 6, .inl (fun j => iZ (ge j)))), (p0, .inr (3, [.ref p1, .int (iZ pn)])), (p1, .inl (cJ, 32, .inr (.inl pf)))]) (va_runV (As := [.int (iZ q)]) (rest := []) ⟨hx, hb, hml, hown, htg⟩ (c_De_endOfRecord l dC dI cB cI cJ cZ cQ d0 r0 a0 w0 p0 i0 r1 H.size N bg en fl rs pl g al u q hR (by omega)) (cwV 1 htg (gw_V k_188 k_190 k_p1 k_1 k_191) rfl rfl rfl (by decide +kernel) ⟨Nat.le_of_ble_eq_true rfl, Nat.le_of_ble_eq_true rfl⟩) (zPreVP hK hP hD hZ [6, 7, 8] rfl (by decide) 6 (ci := 6) rfl rfl) rfl rfl hl.1 rfl (lv_room (Nat.le_of_ble_eq_true rfl)) d_De_recover_36 ⟨by omega, by omega⟩) hP hD hS hA [6, 7, 8] [0, 1, 2, 3, 4, 5] rfl rfl (by decide) (by decide) (fun H locs hP hD hS => ?_)
            have hP : va_P (dC, dI) vwCl ([(a0, .inr (2, [.ref a1, .int (iZ cnt)])), (a1, .inl (cB, 600, .inl (fun j => iZ (Int.bmod (uh j) 256)))), (w0, .inr (5, [.ref w1])), (w1, .inl (cI, 6, .inl (fun j => iZ (ge j)))), (p0, .inr (3, [.ref p1, .int (iZ pn)])), (p1, .inl (cJ, 32, .inr (.inl pf))), (d0, .inr (6, [.int (iZ N), .ref r0, .ref a0, .ref w0, .ref p0, .ref i0, .int (iZ bg), .int (iZ en), .int (iZ fl), .int (iZ rs)])), (r0, .inr (4, [.ref r1])), (r1, .inl (cQ, 32, .inr (.inr (.inr (.inr g)))))] ++ pl) H := hP
            have hD : va_D A ([(a0, .inr (2, [.ref a1, .int (iZ cnt)])), (a1, .inl (cB, 600, .inl (fun j => iZ (Int.bmod (uh j) 256)))), (w0, .inr (5, [.ref w1])), (w1, .inl (cI, 6, .inl (fun j => iZ (ge j)))), (p0, .inr (3, [.ref p1, .int (iZ pn)])), (p1, .inl (cJ, 32, .inr (.inl pf))), (d0, .inr (6, [.int (iZ N), .ref r0, .ref a0, .ref w0, .ref p0, .ref i0, .int (iZ bg), .int (iZ en), .int (iZ fl), .int (iZ rs)])), (r0, .inr (4, [.ref r1])), (r1, .inl (cQ, 32, .inr (.inr (.inr (.inr g)))))] ++ pl) := hD
            refine lv_istore_n (lv' := [(2, .int (iZ (er u q))), (0, .ref d0), (1, .int (iZ i))]) hx hb d_De_recover_39 rfl hl (by decide) rfl (fun ls hl => ?_)
            refine lv_iinc (v := iZ (i + 1)) (lv' := [(1, .int (iZ (i + 1))), (2, .int (iZ (er u q))), (0, .ref d0)]) hx hb d_De_recover_40 hl (k := 2) rfl (iZ_add _ _) (by decide) rfl (fun ls hl => ?_)
            refine lv_goto (tgt := 7) hx hb d_De_recover_43 (by decide) ?_
            exact ih (i + 1) (er u q) H _ ls (by omega) (by unfold er; omega) (by rw [← hw, (rcE_step (q := q) (m := 5334 - i) (by omega) (by omega)).1]; congr 1; omega) (by rw [← hv, (rcE_step (q := q) (m := 5334 - i) (by omega) (by omega)).2, show (5334 - (i + 1)).toNat = (5334 - i - 1).toNat by omega]; omega) (by omega) (hP.part [6, 7, 8, 0, 1, 2, 3, 4, 5] rfl) (hD.part [6, 7, 8, 0, 1, 2, 3, 4, 5] (by decide) rfl) hS (lv_sub hl [2, 0, 1] rfl)
  exact loop7 (Int.toNat (5334 - 0) + 1) 0 bg s.heap _ ls (by omega) (by omega) rfl (Int.add_zero _) (by omega) hP hD hS (lv_sub hl [2, 1, 0] rfl)
set_option maxHeartbeats 4000000 in
set_option maxRecDepth 100000 in
/-- open -/
theorem c_De_open (l : Launch) (dC : Nat → ClassId) (dI : Nat → Nat → Nat) (cB : ClassId) (cI : ClassId) (cJ : ClassId) (cZ : ClassId) (cQ : ClassId) (d0 r0 a0 w0 p0 i0 r1 a1 w1 p1 : Nat) (sz : Nat) (N : Int) (bg : Int) (en : Int) (fl : Int) (rs : Int) (cnt : Int) (uh : Nat → Int) (ge : Nat → Int) (pf : Nat → Int64) (pn : Int) (pl : va_W) (g : Nat → Option Nat) (al : Nat → Bool) (u : Nat → Int) (hR : RK cB pl g al u) (hpl : 0 ≤ bg ∧ bg ≤ en ∧ en ≤ 1000000000 ∧ 0 ≤ fl ∧ fl ≤ 1000000000) : Met l y_De_open ((Cond.code y_De_open prog_1_method_11_code 1 (some .int)) :: gw) ({ frames := 5, cells := 0, slots := 0, locals := 106 } : Room) (zPc (dC, dI) [(cB, .byte), (cI, .int), (cJ, .long), (cZ, .boolean), (cQ, .object "LogDesk$Block")] [.ref d0] ([(d0, .inr (6, [.int (iZ N), .ref r0, .ref a0, .ref w0, .ref p0, .ref i0, .int (iZ bg), .int (iZ en), .int (iZ fl), .int (iZ rs)])), (r0, .inr (4, [.ref r1])), (r1, .inl (cQ, 32, .inr (.inr (.inr (.inr g))))), (a0, .inr (2, [.ref a1, .int (iZ cnt)])), (a1, .inl (cB, 600, .inl (fun j => iZ (Int.bmod (uh j) 256)))), (w0, .inr (5, [.ref w1])), (w1, .inl (cI, 6, .inl (fun j => iZ (ge j)))), (p0, .inr (3, [.ref p1, .int (iZ pn)])), (p1, .inl (cJ, 32, .inr (.inl pf)))] ++ pl) sz) (va_Qi (fun (r : Int32) (_ : Unit) => r = iZ (rcN u en fl 5334 bg)) (zB (dC, dI) [(cB, .byte), (cI, .int), (cJ, .long), (cZ, .boolean), (cQ, .object "LogDesk$Block")] (va_A ([(d0, .inr (6, [.int (iZ N), .ref r0, .ref a0, .ref w0, .ref p0, .ref i0, .int (iZ bg), .int (iZ en), .int (iZ fl), .int (iZ rs)])), (r0, .inr (4, [.ref r1])), (r1, .inl (cQ, 32, .inr (.inr (.inr (.inr g))))), (a0, .inr (2, [.ref a1, .int (iZ cnt)])), (a1, .inl (cB, 600, .inl (fun j => iZ (Int.bmod (uh j) 256)))), (w0, .inr (5, [.ref w1])), (w1, .inl (cI, 6, .inl (fun j => iZ (ge j)))), (p0, .inr (3, [.ref p1, .int (iZ pn)])), (p1, .inl (cJ, 32, .inr (.inl pf)))] ++ pl) sz) ([(d0, .inr (6, [.int (iZ N), .ref r0, .ref a0, .ref w0, .ref p0, .ref i0, .int (iZ bg), .int (iZ (rcE u en fl 5334 bg)), .int (iZ (rcE u en fl 5334 bg)), .int (iZ (-1))])), (r0, .inr (4, [.ref r1])), (r1, .inl (cQ, 32, .inr (.inr (.inr (.inr g))))), (a0, .inr (2, [.ref a1, .int (iZ 0)])), (a1, .inl (cB, 600, .inl (fun j => iZ (Int.bmod (uh j) 256)))), (w0, .inr (5, [.ref w1])), (w1, .inl (cI, 6, .inl (fun j => iZ ((fun j => if j < 6 then 0 else ge j) j)))), (p0, .inr (3, [.ref p1, .int (iZ 0)])), (p1, .inl (cJ, 32, .inr (.inl (fun j => if j < 32 then 0 else pf j))))] ++ pl)) (va_A ([(d0, .inr (6, [.int (iZ N), .ref r0, .ref a0, .ref w0, .ref p0, .ref i0, .int (iZ bg), .int (iZ en), .int (iZ fl), .int (iZ rs)])), (r0, .inr (4, [.ref r1])), (r1, .inl (cQ, 32, .inr (.inr (.inr (.inr g))))), (a0, .inr (2, [.ref a1, .int (iZ cnt)])), (a1, .inl (cB, 600, .inl (fun j => iZ (Int.bmod (uh j) 256)))), (w0, .inr (5, [.ref w1])), (w1, .inl (cI, 6, .inl (fun j => iZ (ge j)))), (p0, .inr (3, [.ref p1, .int (iZ pn)])), (p1, .inl (cJ, 32, .inr (.inl pf)))] ++ pl) sz)) 0 0 (va_A ([(d0, .inr (6, [.int (iZ N), .ref r0, .ref a0, .ref w0, .ref p0, .ref i0, .int (iZ bg), .int (iZ en), .int (iZ fl), .int (iZ rs)])), (r0, .inr (4, [.ref r1])), (r1, .inl (cQ, 32, .inr (.inr (.inr (.inr g))))), (a0, .inr (2, [.ref a1, .int (iZ cnt)])), (a1, .inl (cB, 600, .inl (fun j => iZ (Int.bmod (uh j) 256)))), (w0, .inr (5, [.ref w1])), (w1, .inl (cI, 6, .inl (fun j => iZ (ge j)))), (p0, .inr (3, [.ref p1, .int (iZ pn)])), (p1, .inl (cJ, 32, .inr (.inl pf)))] ++ pl) sz) := by
  refine Met.ofW (cc := prog_1_method_11_code) (maxL := 1) (ret := (some .int)) (by decide) rfl ?_
  intro p e s m args below meth c s₁ B hml hv
  obtain ⟨rfl, hsz, hP, hK, hD0, hZ⟩ := hv
  have hx := B.exec
  have hb := B.bytes
  have hr := B.returns
  have hts := atoms_spec (ws := (Cond.code y_De_open prog_1_method_11_code 1 (some .int)) :: gw) B.pre
  have htg : ∀ w ∈ gw, w.before _ s = true := fun w h => hts w (List.mem_cons_of_mem _ h)
  have hown : s.vm.findClass "LogDesk" = some m.cls := findClass_of_methodNamed B.named
  have hlocks := B.notSynchronized
  subst hsz
  have hD := hD0.self (sz := s.heap.size)
  generalize hAe : va_A ([(d0, .inr (6, [.int (iZ N), .ref r0, .ref a0, .ref w0, .ref p0, .ref i0, .int (iZ bg), .int (iZ en), .int (iZ fl), .int (iZ rs)])), (r0, .inr (4, [.ref r1])), (r1, .inl (cQ, 32, .inr (.inr (.inr (.inr g))))), (a0, .inr (2, [.ref a1, .int (iZ cnt)])), (a1, .inl (cB, 600, .inl (fun j => iZ (Int.bmod (uh j) 256)))), (w0, .inr (5, [.ref w1])), (w1, .inl (cI, 6, .inl (fun j => iZ (ge j)))), (p0, .inr (3, [.ref p1, .int (iZ pn)])), (p1, .inl (cJ, 32, .inr (.inl pf)))] ++ pl) s.heap.size = A at hD ⊢
  have hRc : (headSpec ((Cond.code y_De_open prog_1_method_11_code 1 (some .int)) :: gw) ({ frames := 5, cells := 0, slots := 0, locals := 106 } : Room)).room.cells = 0 := rfl
  have hRs : (headSpec ((Cond.code y_De_open prog_1_method_11_code 1 (some .int)) :: gw) ({ frames := 5, cells := 0, slots := 0, locals := 106 } : Room)).room.slots = 0 := rfl
  have hA : ∀ q : Nat, s.heap.size ≤ q → A q := fun q h => by rw [← hAe]; exact Or.inr h
  have hS : va_S A s.heap s.heap [] := va_S.rf
  have hP : va_P (dC, dI) vwCl ([(d0, .inr (6, [.int (iZ N), .ref r0, .ref a0, .ref w0, .ref p0, .ref i0, .int (iZ bg), .int (iZ en), .int (iZ fl), .int (iZ rs)])), (r0, .inr (4, [.ref r1])), (r1, .inl (cQ, 32, .inr (.inr (.inr (.inr g))))), (a0, .inr (2, [.ref a1, .int (iZ cnt)])), (a1, .inl (cB, 600, .inl (fun j => iZ (Int.bmod (uh j) 256)))), (w0, .inr (5, [.ref w1])), (w1, .inl (cI, 6, .inl (fun j => iZ (ge j)))), (p0, .inr (3, [.ref p1, .int (iZ pn)])), (p1, .inl (cJ, 32, .inr (.inl pf)))] ++ pl) s.heap := hP
  have hl := lv_entry ([.ref d0]) (n := 1) (Nat.le_of_ble_eq_true rfl)
  rw [lg_entry_eq]
  generalize (lg_sl ([.ref d0]) ++ List.replicate (1 - (lg_sl ([.ref d0])).length) Slot.unset).toArray = ls at hl ⊢
  have hl : lv_has ls 1 [(0, .ref d0)] := hl
  refine lv_aload_n hx hb d_De_open_0 rfl (lv_at hl 0 rfl) ?_
  refine zp_i (wr := []) (va_runV (As := []) (rest := []) ⟨hx, hb, hml, hown, htg⟩ (c_De_recover l dC dI cB cI cJ cZ cQ d0 r0 a0 w0 p0 i0 r1 a1 w1 p1 s.heap.size N bg en fl rs cnt uh ge pf pn pl g al u hR hpl) (cwV 0 htg (gw_V k_184 k_186 k_p0 k_1 k_187) rfl rfl rfl (by decide +kernel) ⟨Nat.le_of_ble_eq_true rfl, Nat.le_of_ble_eq_true rfl⟩) (zPreVP hK hP hD hZ [0, 1, 2, 3, 4, 5, 6, 7, 8] rfl (by decide) 0 (ci := 6) rfl rfl) rfl rfl hl.1 rfl (lv_room (Nat.le_of_ble_eq_true rfl)) d_De_open_1 ⟨by omega, by omega⟩) hP hD hS hA [0, 1, 2, 3, 4, 5, 6, 7, 8] [] rfl rfl (by decide) (by decide) (fun H locs hP hD hS => ?_)
  have hP : va_P (dC, dI) vwCl ([(d0, .inr (6, [.int (iZ N), .ref r0, .ref a0, .ref w0, .ref p0, .ref i0, .int (iZ bg), .int (iZ (rcE u en fl 5334 bg)), .int (iZ (rcE u en fl 5334 bg)), .int (iZ (-1))])), (r0, .inr (4, [.ref r1])), (r1, .inl (cQ, 32, .inr (.inr (.inr (.inr g))))), (a0, .inr (2, [.ref a1, .int (iZ 0)])), (a1, .inl (cB, 600, .inl (fun j => iZ (Int.bmod (uh j) 256)))), (w0, .inr (5, [.ref w1])), (w1, .inl (cI, 6, .inl (fun j => iZ ((fun j => if j < 6 then 0 else ge j) j)))), (p0, .inr (3, [.ref p1, .int (iZ 0)])), (p1, .inl (cJ, 32, .inr (.inl (fun j => if j < 32 then 0 else pf j))))] ++ pl) H := hP
  have hD : va_D A ([(d0, .inr (6, [.int (iZ N), .ref r0, .ref a0, .ref w0, .ref p0, .ref i0, .int (iZ bg), .int (iZ (rcE u en fl 5334 bg)), .int (iZ (rcE u en fl 5334 bg)), .int (iZ (-1))])), (r0, .inr (4, [.ref r1])), (r1, .inl (cQ, 32, .inr (.inr (.inr (.inr g))))), (a0, .inr (2, [.ref a1, .int (iZ 0)])), (a1, .inl (cB, 600, .inl (fun j => iZ (Int.bmod (uh j) 256)))), (w0, .inr (5, [.ref w1])), (w1, .inl (cI, 6, .inl (fun j => iZ ((fun j => if j < 6 then 0 else ge j) j)))), (p0, .inr (3, [.ref p1, .int (iZ 0)])), (p1, .inl (cJ, 32, .inr (.inl (fun j => if j < 32 then 0 else pf j))))] ++ pl) := hD
  exact W.iret (v := (iZ (rcN u en fl 5334 bg))) hx hb hr (fun t ht hW => ⟨⟨_, (), rfl, rfl, by rw [ht]; exact hP, va_K.moved hW.alike hK, hAe ▸ hD⟩, hAe ▸ hS.F ht⟩) (hAe ▸ hS.2.2) d_De_open_4
set_option maxHeartbeats 4000000 in
set_option maxRecDepth 100000 in
/-- cutPower -/
theorem c_De_cutPower (l : Launch) (dC : Nat → ClassId) (dI : Nat → Nat → Nat) (cB : ClassId) (cI : ClassId) (cJ : ClassId) (cZ : ClassId) (cQ : ClassId) (d0 r0 a0 w0 p0 i0 r1 a1 w1 p1 : Nat) (sz : Nat) (N : Int) (bg : Int) (en : Int) (fl : Int) (rs : Int) (cnt : Int) (uh : Nat → Int) (ge : Nat → Int) (pf : Nat → Int64) (pn : Int) (wr : Int) (lf : Int) (pl : va_W) (g : Nat → Option Nat) (al : Nat → Bool) (u : Nat → Int) (hR : RK cB pl g al u) (hpl : 0 ≤ bg ∧ bg ≤ en ∧ en ≤ 1000000000 ∧ 0 ≤ fl ∧ fl ≤ 1000000000) : Met l y_De_cutPower ((Cond.code y_De_cutPower prog_1_method_24_code 1 none) :: gw) ({ frames := 5, cells := 0, slots := 0, locals := 106 } : Room) (zPc (dC, dI) [(cB, .byte), (cI, .int), (cJ, .long), (cZ, .boolean), (cQ, .object "LogDesk$Block")] [.ref d0] ([(d0, .inr (6, [.int (iZ N), .ref r0, .ref a0, .ref w0, .ref p0, .ref i0, .int (iZ bg), .int (iZ en), .int (iZ fl), .int (iZ rs)])), (r0, .inr (4, [.ref r1])), (r1, .inl (cQ, 32, .inr (.inr (.inr (.inr g))))), (a0, .inr (2, [.ref a1, .int (iZ cnt)])), (a1, .inl (cB, 600, .inl (fun j => iZ (Int.bmod (uh j) 256)))), (w0, .inr (5, [.ref w1])), (w1, .inl (cI, 6, .inl (fun j => iZ (ge j)))), (p0, .inr (3, [.ref p1, .int (iZ pn)])), (p1, .inl (cJ, 32, .inr (.inl pf))), (i0, .inr (1, [.int (iZ wr), .int (iZ lf)]))] ++ pl) sz) (va_Qv (fun (_ : Unit) => True) (zB (dC, dI) [(cB, .byte), (cI, .int), (cJ, .long), (cZ, .boolean), (cQ, .object "LogDesk$Block")] (va_A ([(d0, .inr (6, [.int (iZ N), .ref r0, .ref a0, .ref w0, .ref p0, .ref i0, .int (iZ bg), .int (iZ en), .int (iZ fl), .int (iZ rs)])), (r0, .inr (4, [.ref r1])), (r1, .inl (cQ, 32, .inr (.inr (.inr (.inr g))))), (a0, .inr (2, [.ref a1, .int (iZ cnt)])), (a1, .inl (cB, 600, .inl (fun j => iZ (Int.bmod (uh j) 256)))), (w0, .inr (5, [.ref w1])), (w1, .inl (cI, 6, .inl (fun j => iZ (ge j)))), (p0, .inr (3, [.ref p1, .int (iZ pn)])), (p1, .inl (cJ, 32, .inr (.inl pf))), (i0, .inr (1, [.int (iZ wr), .int (iZ lf)]))] ++ pl) sz) ([(d0, .inr (6, [.int (iZ N), .ref r0, .ref a0, .ref w0, .ref p0, .ref i0, .int (iZ bg), .int (iZ (rcE u en fl 5334 bg)), .int (iZ (rcE u en fl 5334 bg)), .int (iZ (-1))])), (r0, .inr (4, [.ref r1])), (r1, .inl (cQ, 32, .inr (.inr (.inr (.inr g))))), (a0, .inr (2, [.ref a1, .int (iZ 0)])), (a1, .inl (cB, 600, .inl (fun j => iZ (Int.bmod (uh j) 256)))), (w0, .inr (5, [.ref w1])), (w1, .inl (cI, 6, .inl (fun j => iZ ((fun j => if j < 6 then 0 else ge j) j)))), (p0, .inr (3, [.ref p1, .int (iZ 0)])), (p1, .inl (cJ, 32, .inr (.inl (fun j => if j < 32 then 0 else pf j)))), (i0, .inr (1, [.int (iZ wr), .int (iZ (-1))]))] ++ pl)) (va_A ([(d0, .inr (6, [.int (iZ N), .ref r0, .ref a0, .ref w0, .ref p0, .ref i0, .int (iZ bg), .int (iZ en), .int (iZ fl), .int (iZ rs)])), (r0, .inr (4, [.ref r1])), (r1, .inl (cQ, 32, .inr (.inr (.inr (.inr g))))), (a0, .inr (2, [.ref a1, .int (iZ cnt)])), (a1, .inl (cB, 600, .inl (fun j => iZ (Int.bmod (uh j) 256)))), (w0, .inr (5, [.ref w1])), (w1, .inl (cI, 6, .inl (fun j => iZ (ge j)))), (p0, .inr (3, [.ref p1, .int (iZ pn)])), (p1, .inl (cJ, 32, .inr (.inl pf))), (i0, .inr (1, [.int (iZ wr), .int (iZ lf)]))] ++ pl) sz)) 0 0 (va_A ([(d0, .inr (6, [.int (iZ N), .ref r0, .ref a0, .ref w0, .ref p0, .ref i0, .int (iZ bg), .int (iZ en), .int (iZ fl), .int (iZ rs)])), (r0, .inr (4, [.ref r1])), (r1, .inl (cQ, 32, .inr (.inr (.inr (.inr g))))), (a0, .inr (2, [.ref a1, .int (iZ cnt)])), (a1, .inl (cB, 600, .inl (fun j => iZ (Int.bmod (uh j) 256)))), (w0, .inr (5, [.ref w1])), (w1, .inl (cI, 6, .inl (fun j => iZ (ge j)))), (p0, .inr (3, [.ref p1, .int (iZ pn)])), (p1, .inl (cJ, 32, .inr (.inl pf))), (i0, .inr (1, [.int (iZ wr), .int (iZ lf)]))] ++ pl) sz) := by
  refine Met.ofW (cc := prog_1_method_24_code) (maxL := 1) (ret := none) (by decide) rfl ?_
  intro p e s m args below meth c s₁ B hml hv
  obtain ⟨rfl, hsz, hP, hK, hD0, hZ⟩ := hv
  have hx := B.exec
  have hb := B.bytes
  have hr := B.returns
  have hts := atoms_spec (ws := (Cond.code y_De_cutPower prog_1_method_24_code 1 none) :: gw) B.pre
  have htg : ∀ w ∈ gw, w.before _ s = true := fun w h => hts w (List.mem_cons_of_mem _ h)
  have hown : s.vm.findClass "LogDesk" = some m.cls := findClass_of_methodNamed B.named
  have hlocks := B.notSynchronized
  subst hsz
  have hD := hD0.self (sz := s.heap.size)
  generalize hAe : va_A ([(d0, .inr (6, [.int (iZ N), .ref r0, .ref a0, .ref w0, .ref p0, .ref i0, .int (iZ bg), .int (iZ en), .int (iZ fl), .int (iZ rs)])), (r0, .inr (4, [.ref r1])), (r1, .inl (cQ, 32, .inr (.inr (.inr (.inr g))))), (a0, .inr (2, [.ref a1, .int (iZ cnt)])), (a1, .inl (cB, 600, .inl (fun j => iZ (Int.bmod (uh j) 256)))), (w0, .inr (5, [.ref w1])), (w1, .inl (cI, 6, .inl (fun j => iZ (ge j)))), (p0, .inr (3, [.ref p1, .int (iZ pn)])), (p1, .inl (cJ, 32, .inr (.inl pf))), (i0, .inr (1, [.int (iZ wr), .int (iZ lf)]))] ++ pl) s.heap.size = A at hD ⊢
  have hRc : (headSpec ((Cond.code y_De_cutPower prog_1_method_24_code 1 none) :: gw) ({ frames := 5, cells := 0, slots := 0, locals := 106 } : Room)).room.cells = 0 := rfl
  have hRs : (headSpec ((Cond.code y_De_cutPower prog_1_method_24_code 1 none) :: gw) ({ frames := 5, cells := 0, slots := 0, locals := 106 } : Room)).room.slots = 0 := rfl
  have hA : ∀ q : Nat, s.heap.size ≤ q → A q := fun q h => by rw [← hAe]; exact Or.inr h
  have hS : va_S A s.heap s.heap [] := va_S.rf
  have hP : va_P (dC, dI) vwCl ([(d0, .inr (6, [.int (iZ N), .ref r0, .ref a0, .ref w0, .ref p0, .ref i0, .int (iZ bg), .int (iZ en), .int (iZ fl), .int (iZ rs)])), (r0, .inr (4, [.ref r1])), (r1, .inl (cQ, 32, .inr (.inr (.inr (.inr g))))), (a0, .inr (2, [.ref a1, .int (iZ cnt)])), (a1, .inl (cB, 600, .inl (fun j => iZ (Int.bmod (uh j) 256)))), (w0, .inr (5, [.ref w1])), (w1, .inl (cI, 6, .inl (fun j => iZ (ge j)))), (p0, .inr (3, [.ref p1, .int (iZ pn)])), (p1, .inl (cJ, 32, .inr (.inl pf))), (i0, .inr (1, [.int (iZ wr), .int (iZ lf)]))] ++ pl) s.heap := hP
  have hl := lv_entry ([.ref d0]) (n := 1) (Nat.le_of_ble_eq_true rfl)
  rw [lg_entry_eq]
  generalize (lg_sl ([.ref d0]) ++ List.replicate (1 - (lg_sl ([.ref d0])).length) Slot.unset).toArray = ls at hl ⊢
  have hl : lv_has ls 1 [(0, .ref d0)] := hl
  refine lv_aload_n hx hb d_De_cutPower_0 rfl (lv_at hl 0 rfl) ?_
  refine zp_i (wr := [(i0, .inr (1, [.int (iZ wr), .int (iZ lf)]))]) (va_runV (As := []) (rest := []) ⟨hx, hb, hml, hown, htg⟩ (c_De_recover l dC dI cB cI cJ cZ cQ d0 r0 a0 w0 p0 i0 r1 a1 w1 p1 s.heap.size N bg en fl rs cnt uh ge pf pn pl g al u hR hpl) (cwV 0 htg (gw_V k_184 k_186 k_p0 k_1 k_187) rfl rfl rfl (by decide +kernel) ⟨Nat.le_of_ble_eq_true rfl, Nat.le_of_ble_eq_true rfl⟩) (zPreVP hK hP hD hZ [0, 1, 2, 3, 4, 5, 6, 7, 8] rfl (by decide) 0 (ci := 6) rfl rfl) rfl rfl hl.1 rfl (lv_room (Nat.le_of_ble_eq_true rfl)) d_De_cutPower_1 ⟨by omega, by omega⟩) hP hD hS hA [0, 1, 2, 3, 4, 5, 6, 7, 8] [9] rfl rfl (by decide) (by decide) (fun H locs hP hD hS => ?_)
  have hP : va_P (dC, dI) vwCl ([(i0, .inr (1, [.int (iZ wr), .int (iZ lf)])), (d0, .inr (6, [.int (iZ N), .ref r0, .ref a0, .ref w0, .ref p0, .ref i0, .int (iZ bg), .int (iZ (rcE u en fl 5334 bg)), .int (iZ (rcE u en fl 5334 bg)), .int (iZ (-1))])), (r0, .inr (4, [.ref r1])), (r1, .inl (cQ, 32, .inr (.inr (.inr (.inr g))))), (a0, .inr (2, [.ref a1, .int (iZ 0)])), (a1, .inl (cB, 600, .inl (fun j => iZ (Int.bmod (uh j) 256)))), (w0, .inr (5, [.ref w1])), (w1, .inl (cI, 6, .inl (fun j => iZ ((fun j => if j < 6 then 0 else ge j) j)))), (p0, .inr (3, [.ref p1, .int (iZ 0)])), (p1, .inl (cJ, 32, .inr (.inl (fun j => if j < 32 then 0 else pf j))))] ++ pl) H := hP
  have hD : va_D A ([(i0, .inr (1, [.int (iZ wr), .int (iZ lf)])), (d0, .inr (6, [.int (iZ N), .ref r0, .ref a0, .ref w0, .ref p0, .ref i0, .int (iZ bg), .int (iZ (rcE u en fl 5334 bg)), .int (iZ (rcE u en fl 5334 bg)), .int (iZ (-1))])), (r0, .inr (4, [.ref r1])), (r1, .inl (cQ, 32, .inr (.inr (.inr (.inr g))))), (a0, .inr (2, [.ref a1, .int (iZ 0)])), (a1, .inl (cB, 600, .inl (fun j => iZ (Int.bmod (uh j) 256)))), (w0, .inr (5, [.ref w1])), (w1, .inl (cI, 6, .inl (fun j => iZ ((fun j => if j < 6 then 0 else ge j) j)))), (p0, .inr (3, [.ref p1, .int (iZ 0)])), (p1, .inl (cJ, 32, .inr (.inl (fun j => if j < 32 then 0 else pf j))))] ++ pl) := hD
  refine lv_pop hx hb d_De_cutPower_4 rfl ?_
  refine lv_aload_n hx hb d_De_cutPower_5 rfl (lv_at hl 0 rfl) ?_
  refine va_get (D := (dC, dI)) (ci := 6) (v := .ref i0) (C := "LogDesk") (T := F_De) (N := 10) hx hb htg hin_De hown hK hP 1 rfl rfl 5 (by decide) (htg _ k_95) (fun _ h9 => h9) rfl d_De_cutPower_6 ?_
  refine zq_v (wr := [(d0, .inr (6, [.int (iZ N), .ref r0, .ref a0, .ref w0, .ref p0, .ref i0, .int (iZ bg), .int (iZ (rcE u en fl 5334 bg)), .int (iZ (rcE u en fl 5334 bg)), .int (iZ (-1))])), (r0, .inr (4, [.ref r1])), (r1, .inl (cQ, 32, .inr (.inr (.inr (.inr g))))), (a0, .inr (2, [.ref a1, .int (iZ 0)])), (a1, .inl (cB, 600, .inl (fun j => iZ (Int.bmod (uh j) 256)))), (w0, .inr (5, [.ref w1])), (w1, .inl (cI, 6, .inl (fun j => iZ ((fun j => if j < 6 then 0 else ge j) j)))), (p0, .inr (3, [.ref p1, .int (iZ 0)])), (p1, .inl (cJ, 32, .inr (.inl (fun j => if j < 32 then 0 else pf j))))]) (va_runV (As := []) (rest := []) ⟨hx, hb, hml, hown, htg⟩ (c_Di_dropCharge l dC dI cB cI cJ cZ cQ i0 H.size wr lf) (cwV 0 htg (gw_V k_397 k_398 k_399 k_6 k_400) rfl rfl rfl (by decide +kernel) ⟨Nat.le_of_ble_eq_true rfl, Nat.le_of_ble_eq_true rfl⟩) (zPreV hK hP hD hZ [0] rfl (by decide) 0 (ci := 1) rfl rfl) rfl rfl hl.1 rfl (lv_room (Nat.le_of_ble_eq_true rfl)) d_De_cutPower_9 ⟨by omega, by omega⟩) hP hD hS hA [0] [1, 2, 3, 4, 5, 6, 7, 8, 9] rfl rfl (by decide) (by decide) rfl (fun H locs hP hD hS => ?_)
  have hP : va_P (dC, dI) vwCl ([(d0, .inr (6, [.int (iZ N), .ref r0, .ref a0, .ref w0, .ref p0, .ref i0, .int (iZ bg), .int (iZ (rcE u en fl 5334 bg)), .int (iZ (rcE u en fl 5334 bg)), .int (iZ (-1))])), (r0, .inr (4, [.ref r1])), (r1, .inl (cQ, 32, .inr (.inr (.inr (.inr g))))), (a0, .inr (2, [.ref a1, .int (iZ 0)])), (a1, .inl (cB, 600, .inl (fun j => iZ (Int.bmod (uh j) 256)))), (w0, .inr (5, [.ref w1])), (w1, .inl (cI, 6, .inl (fun j => iZ ((fun j => if j < 6 then 0 else ge j) j)))), (p0, .inr (3, [.ref p1, .int (iZ 0)])), (p1, .inl (cJ, 32, .inr (.inl (fun j => if j < 32 then 0 else pf j)))), (i0, .inr (1, [.int (iZ wr), .int (iZ (-1))]))] ++ pl) H := hP
  have hD : va_D A ([(d0, .inr (6, [.int (iZ N), .ref r0, .ref a0, .ref w0, .ref p0, .ref i0, .int (iZ bg), .int (iZ (rcE u en fl 5334 bg)), .int (iZ (rcE u en fl 5334 bg)), .int (iZ (-1))])), (r0, .inr (4, [.ref r1])), (r1, .inl (cQ, 32, .inr (.inr (.inr (.inr g))))), (a0, .inr (2, [.ref a1, .int (iZ 0)])), (a1, .inl (cB, 600, .inl (fun j => iZ (Int.bmod (uh j) 256)))), (w0, .inr (5, [.ref w1])), (w1, .inl (cI, 6, .inl (fun j => iZ ((fun j => if j < 6 then 0 else ge j) j)))), (p0, .inr (3, [.ref p1, .int (iZ 0)])), (p1, .inl (cJ, 32, .inr (.inl (fun j => if j < 32 then 0 else pf j)))), (i0, .inr (1, [.int (iZ wr), .int (iZ (-1))]))] ++ pl) := hD
  exact W.vret hx hb hr (fun t ht hW => ⟨⟨(), rfl, trivial, by rw [ht]; exact hP, va_K.moved hW.alike hK, hAe ▸ hD⟩, hAe ▸ hS.F ht⟩) (hAe ▸ hS.2.2) d_De_cutPower_12
set_option maxHeartbeats 4000000 in
set_option maxRecDepth 100000 in
/-- state -/
theorem c_De_state (l : Launch) (dC : Nat → ClassId) (dI : Nat → Nat → Nat) (cB : ClassId) (cI : ClassId) (cJ : ClassId) (cZ : ClassId) (cQ : ClassId) (d0 r0 a0 w0 p0 i0 r1 a1 w1 p1 : Nat) (sz : Nat) (N : Int) (bg : Int) (en : Int) (fl : Int) (rs : Int) (cnt : Int) (uh : Nat → Int) (ge : Nat → Int) (pf : Nat → Int64) (pn : Int) (wr : Int) (lf : Int) (pl : va_W) (g : Nat → Option Nat) (al : Nat → Bool) (u : Nat → Int) (x : Int) (hR : RK cB pl g al u) (hrs : -1 ≤ rs ∧ rs ≤ 1000000000) (hge : ∀ j : Nat, 0 ≤ ge j ∧ ge j < 1000000000) (hx0 : iB x) : Met l y_De_state ((Cond.code y_De_state prog_1_method_16_code 2 (some .int)) :: gw) ({ frames := 4, cells := 0, slots := 0, locals := 84 } : Room) (zPc (dC, dI) [(cB, .byte), (cI, .int), (cJ, .long), (cZ, .boolean), (cQ, .object "LogDesk$Block")] [.ref d0, .int (iZ x)] ([(d0, .inr (6, [.int (iZ N), .ref r0, .ref a0, .ref w0, .ref p0, .ref i0, .int (iZ bg), .int (iZ en), .int (iZ fl), .int (iZ rs)])), (r0, .inr (4, [.ref r1])), (r1, .inl (cQ, 32, .inr (.inr (.inr (.inr g))))), (a0, .inr (2, [.ref a1, .int (iZ cnt)])), (a1, .inl (cB, 600, .inl (fun j => iZ (Int.bmod (uh j) 256)))), (w0, .inr (5, [.ref w1])), (w1, .inl (cI, 6, .inl (fun j => iZ (ge j)))), (p0, .inr (3, [.ref p1, .int (iZ pn)])), (p1, .inl (cJ, 32, .inr (.inl pf))), (i0, .inr (1, [.int (iZ wr), .int (iZ lf)]))] ++ pl) sz) (va_Qi (fun (r : Int32) (_ : Unit) => r = iZ (if x = 0 then bg else if x = 1 then en else if x = 2 then fl else if x = 3 then wr else if x = 4 then cnt else if x = 5 then wcnt ge 6 else if x = 6 then pn else if x = 7 then (if rs = -1 then -1 else er u rs) else -1)) (zB (dC, dI) [(cB, .byte), (cI, .int), (cJ, .long), (cZ, .boolean), (cQ, .object "LogDesk$Block")] (va_A ([(d0, .inr (6, [.int (iZ N), .ref r0, .ref a0, .ref w0, .ref p0, .ref i0, .int (iZ bg), .int (iZ en), .int (iZ fl), .int (iZ rs)])), (r0, .inr (4, [.ref r1])), (r1, .inl (cQ, 32, .inr (.inr (.inr (.inr g))))), (a0, .inr (2, [.ref a1, .int (iZ cnt)])), (a1, .inl (cB, 600, .inl (fun j => iZ (Int.bmod (uh j) 256)))), (w0, .inr (5, [.ref w1])), (w1, .inl (cI, 6, .inl (fun j => iZ (ge j)))), (p0, .inr (3, [.ref p1, .int (iZ pn)])), (p1, .inl (cJ, 32, .inr (.inl pf))), (i0, .inr (1, [.int (iZ wr), .int (iZ lf)]))] ++ pl) sz) ([(d0, .inr (6, [.int (iZ N), .ref r0, .ref a0, .ref w0, .ref p0, .ref i0, .int (iZ bg), .int (iZ en), .int (iZ fl), .int (iZ rs)])), (r0, .inr (4, [.ref r1])), (r1, .inl (cQ, 32, .inr (.inr (.inr (.inr g))))), (a0, .inr (2, [.ref a1, .int (iZ cnt)])), (a1, .inl (cB, 600, .inl (fun j => iZ (Int.bmod (uh j) 256)))), (w0, .inr (5, [.ref w1])), (w1, .inl (cI, 6, .inl (fun j => iZ (ge j)))), (p0, .inr (3, [.ref p1, .int (iZ pn)])), (p1, .inl (cJ, 32, .inr (.inl pf))), (i0, .inr (1, [.int (iZ wr), .int (iZ lf)]))] ++ pl)) (va_A ([(d0, .inr (6, [.int (iZ N), .ref r0, .ref a0, .ref w0, .ref p0, .ref i0, .int (iZ bg), .int (iZ en), .int (iZ fl), .int (iZ rs)])), (r0, .inr (4, [.ref r1])), (r1, .inl (cQ, 32, .inr (.inr (.inr (.inr g))))), (a0, .inr (2, [.ref a1, .int (iZ cnt)])), (a1, .inl (cB, 600, .inl (fun j => iZ (Int.bmod (uh j) 256)))), (w0, .inr (5, [.ref w1])), (w1, .inl (cI, 6, .inl (fun j => iZ (ge j)))), (p0, .inr (3, [.ref p1, .int (iZ pn)])), (p1, .inl (cJ, 32, .inr (.inl pf))), (i0, .inr (1, [.int (iZ wr), .int (iZ lf)]))] ++ pl) sz)) 0 0 (va_A ([(d0, .inr (6, [.int (iZ N), .ref r0, .ref a0, .ref w0, .ref p0, .ref i0, .int (iZ bg), .int (iZ en), .int (iZ fl), .int (iZ rs)])), (r0, .inr (4, [.ref r1])), (r1, .inl (cQ, 32, .inr (.inr (.inr (.inr g))))), (a0, .inr (2, [.ref a1, .int (iZ cnt)])), (a1, .inl (cB, 600, .inl (fun j => iZ (Int.bmod (uh j) 256)))), (w0, .inr (5, [.ref w1])), (w1, .inl (cI, 6, .inl (fun j => iZ (ge j)))), (p0, .inr (3, [.ref p1, .int (iZ pn)])), (p1, .inl (cJ, 32, .inr (.inl pf))), (i0, .inr (1, [.int (iZ wr), .int (iZ lf)]))] ++ pl) sz) := by
  refine Met.ofW (cc := prog_1_method_16_code) (maxL := 2) (ret := (some .int)) (by decide) rfl ?_
  intro p e s m args below meth c s₁ B hml hv
  obtain ⟨rfl, hsz, hP, hK, hD0, hZ⟩ := hv
  have hx := B.exec
  have hb := B.bytes
  have hr := B.returns
  have hts := atoms_spec (ws := (Cond.code y_De_state prog_1_method_16_code 2 (some .int)) :: gw) B.pre
  have htg : ∀ w ∈ gw, w.before _ s = true := fun w h => hts w (List.mem_cons_of_mem _ h)
  have hown : s.vm.findClass "LogDesk" = some m.cls := findClass_of_methodNamed B.named
  have hlocks := B.notSynchronized
  subst hsz
  have hD := hD0.self (sz := s.heap.size)
  generalize hAe : va_A ([(d0, .inr (6, [.int (iZ N), .ref r0, .ref a0, .ref w0, .ref p0, .ref i0, .int (iZ bg), .int (iZ en), .int (iZ fl), .int (iZ rs)])), (r0, .inr (4, [.ref r1])), (r1, .inl (cQ, 32, .inr (.inr (.inr (.inr g))))), (a0, .inr (2, [.ref a1, .int (iZ cnt)])), (a1, .inl (cB, 600, .inl (fun j => iZ (Int.bmod (uh j) 256)))), (w0, .inr (5, [.ref w1])), (w1, .inl (cI, 6, .inl (fun j => iZ (ge j)))), (p0, .inr (3, [.ref p1, .int (iZ pn)])), (p1, .inl (cJ, 32, .inr (.inl pf))), (i0, .inr (1, [.int (iZ wr), .int (iZ lf)]))] ++ pl) s.heap.size = A at hD ⊢
  have hRc : (headSpec ((Cond.code y_De_state prog_1_method_16_code 2 (some .int)) :: gw) ({ frames := 4, cells := 0, slots := 0, locals := 84 } : Room)).room.cells = 0 := rfl
  have hRs : (headSpec ((Cond.code y_De_state prog_1_method_16_code 2 (some .int)) :: gw) ({ frames := 4, cells := 0, slots := 0, locals := 84 } : Room)).room.slots = 0 := rfl
  have hA : ∀ q : Nat, s.heap.size ≤ q → A q := fun q h => by rw [← hAe]; exact Or.inr h
  have hS : va_S A s.heap s.heap [] := va_S.rf
  have hP : va_P (dC, dI) vwCl ([(d0, .inr (6, [.int (iZ N), .ref r0, .ref a0, .ref w0, .ref p0, .ref i0, .int (iZ bg), .int (iZ en), .int (iZ fl), .int (iZ rs)])), (r0, .inr (4, [.ref r1])), (r1, .inl (cQ, 32, .inr (.inr (.inr (.inr g))))), (a0, .inr (2, [.ref a1, .int (iZ cnt)])), (a1, .inl (cB, 600, .inl (fun j => iZ (Int.bmod (uh j) 256)))), (w0, .inr (5, [.ref w1])), (w1, .inl (cI, 6, .inl (fun j => iZ (ge j)))), (p0, .inr (3, [.ref p1, .int (iZ pn)])), (p1, .inl (cJ, 32, .inr (.inl pf))), (i0, .inr (1, [.int (iZ wr), .int (iZ lf)]))] ++ pl) s.heap := hP
  have hl := lv_entry ([.ref d0, .int (iZ x)]) (n := 2) (Nat.le_of_ble_eq_true rfl)
  rw [lg_entry_eq]
  generalize (lg_sl ([.ref d0, .int (iZ x)]) ++ List.replicate (2 - (lg_sl ([.ref d0, .int (iZ x)])).length) Slot.unset).toArray = ls at hl ⊢
  have hl : lv_has ls 2 [(0, .ref d0), (1, .int (iZ x))] := hl
  obtain ⟨hx1, hx2⟩ := hx0
  refine lv_iload_n hx hb d_De_state_0 rfl (lv_at hl 1 rfl) ?_
  rcases (show (x < 0 ∨ 7 < x) ∨ x = 0 ∨ x = 1 ∨ x = 2 ∨ x = 3 ∨ x = 4 ∨ x = 5 ∨ x = 6 ∨ x = 7 by omega) with sw_1 | sw_1 | sw_1 | sw_1 | sw_1 | sw_1 | sw_1 | sw_1 | sw_1
  · refine lv_tableOut (tgt := 116) hx hb d_De_state_1 (by rw [iZ_toInt ⟨by omega, by omega⟩]; omega) (by decide) ?_
    refine lv_iconst (v := iZ (-1)) hx hb d_De_state_116 rfl ?_
    exact W.iret (v := (iZ (-1))) hx hb hr (fun t ht hW => ⟨⟨_, (), rfl, (congrArg iZ (by omega)), by rw [ht]; exact hP, va_K.moved hW.alike hK, hAe ▸ hD⟩, hAe ▸ hS.F ht⟩) (hAe ▸ hS.2.2) d_De_state_117
  · refine lv_tableIn (tgt := 48) (off := 47) hx hb d_De_state_1 (by rw [sw_1]; decide) (by rw [sw_1]; decide) (by rw [sw_1]; decide) (by decide) ?_
    refine lv_aload_n hx hb d_De_state_48 rfl (lv_at hl 0 rfl) ?_
    refine va_get (D := (dC, dI)) (ci := 6) (v := .int (iZ bg)) (C := "LogDesk") (T := F_De) (N := 10) hx hb htg hin_De hown hK hP 0 rfl rfl 6 (by decide) (htg _ k_96) (fun _ h9 => h9) rfl d_De_state_49 ?_
    exact W.iret (v := (iZ bg)) hx hb hr (fun t ht hW => ⟨⟨_, (), rfl, (congrArg iZ (by omega)), by rw [ht]; exact hP, va_K.moved hW.alike hK, hAe ▸ hD⟩, hAe ▸ hS.F ht⟩) (hAe ▸ hS.2.2) d_De_state_52
  · refine lv_tableIn (tgt := 53) (off := 52) hx hb d_De_state_1 (by rw [sw_1]; decide) (by rw [sw_1]; decide) (by rw [sw_1]; decide) (by decide) ?_
    refine lv_aload_n hx hb d_De_state_53 rfl (lv_at hl 0 rfl) ?_
    refine va_get (D := (dC, dI)) (ci := 6) (v := .int (iZ en)) (C := "LogDesk") (T := F_De) (N := 10) hx hb htg hin_De hown hK hP 0 rfl rfl 7 (by decide) (htg _ k_97) (fun _ h9 => h9) rfl d_De_state_54 ?_
    exact W.iret (v := (iZ en)) hx hb hr (fun t ht hW => ⟨⟨_, (), rfl, (congrArg iZ (by omega)), by rw [ht]; exact hP, va_K.moved hW.alike hK, hAe ▸ hD⟩, hAe ▸ hS.F ht⟩) (hAe ▸ hS.2.2) d_De_state_57
  · refine lv_tableIn (tgt := 58) (off := 57) hx hb d_De_state_1 (by rw [sw_1]; decide) (by rw [sw_1]; decide) (by rw [sw_1]; decide) (by decide) ?_
    refine lv_aload_n hx hb d_De_state_58 rfl (lv_at hl 0 rfl) ?_
    refine va_get (D := (dC, dI)) (ci := 6) (v := .int (iZ fl)) (C := "LogDesk") (T := F_De) (N := 10) hx hb htg hin_De hown hK hP 0 rfl rfl 8 (by decide) (htg _ k_98) (fun _ h9 => h9) rfl d_De_state_59 ?_
    exact W.iret (v := (iZ fl)) hx hb hr (fun t ht hW => ⟨⟨_, (), rfl, (congrArg iZ (by omega)), by rw [ht]; exact hP, va_K.moved hW.alike hK, hAe ▸ hD⟩, hAe ▸ hS.F ht⟩) (hAe ▸ hS.2.2) d_De_state_62
  · refine lv_tableIn (tgt := 63) (off := 62) hx hb d_De_state_1 (by rw [sw_1]; decide) (by rw [sw_1]; decide) (by rw [sw_1]; decide) (by decide) ?_
    refine lv_aload_n hx hb d_De_state_63 rfl (lv_at hl 0 rfl) ?_
    refine va_get (D := (dC, dI)) (ci := 6) (v := .ref i0) (C := "LogDesk") (T := F_De) (N := 10) hx hb htg hin_De hown hK hP 0 rfl rfl 5 (by decide) (htg _ k_95) (fun _ h9 => h9) rfl d_De_state_64 ?_
    refine zq_i (wr := [(d0, .inr (6, [.int (iZ N), .ref r0, .ref a0, .ref w0, .ref p0, .ref i0, .int (iZ bg), .int (iZ en), .int (iZ fl), .int (iZ rs)])), (r0, .inr (4, [.ref r1])), (r1, .inl (cQ, 32, .inr (.inr (.inr (.inr g))))), (a0, .inr (2, [.ref a1, .int (iZ cnt)])), (a1, .inl (cB, 600, .inl (fun j => iZ (Int.bmod (uh j) 256)))), (w0, .inr (5, [.ref w1])), (w1, .inl (cI, 6, .inl (fun j => iZ (ge j)))), (p0, .inr (3, [.ref p1, .int (iZ pn)])), (p1, .inl (cJ, 32, .inr (.inl pf)))]) (va_runV (As := []) (rest := []) ⟨hx, hb, hml, hown, htg⟩ (c_Di_written l dC dI cB cI cJ cZ cQ i0 s.heap.size wr lf) (cwV 0 htg (gw_V k_226 k_227 k_228 k_6 k_229) rfl rfl rfl (by decide +kernel) ⟨Nat.le_of_ble_eq_true rfl, Nat.le_of_ble_eq_true rfl⟩) (zPreV hK hP hD hZ [9] rfl (by decide) 9 (ci := 1) rfl rfl) rfl rfl hl.1 rfl (lv_room (Nat.le_of_ble_eq_true rfl)) d_De_state_67 ⟨by omega, by omega⟩) hP hD hS hA [9] [0, 1, 2, 3, 4, 5, 6, 7, 8] rfl rfl (by decide) (by decide) rfl (fun H locs hP hD hS => ?_)
    have hP : va_P (dC, dI) vwCl ([(d0, .inr (6, [.int (iZ N), .ref r0, .ref a0, .ref w0, .ref p0, .ref i0, .int (iZ bg), .int (iZ en), .int (iZ fl), .int (iZ rs)])), (r0, .inr (4, [.ref r1])), (r1, .inl (cQ, 32, .inr (.inr (.inr (.inr g))))), (a0, .inr (2, [.ref a1, .int (iZ cnt)])), (a1, .inl (cB, 600, .inl (fun j => iZ (Int.bmod (uh j) 256)))), (w0, .inr (5, [.ref w1])), (w1, .inl (cI, 6, .inl (fun j => iZ (ge j)))), (p0, .inr (3, [.ref p1, .int (iZ pn)])), (p1, .inl (cJ, 32, .inr (.inl pf))), (i0, .inr (1, [.int (iZ wr), .int (iZ lf)]))] ++ pl) H := hP
    have hD : va_D A ([(d0, .inr (6, [.int (iZ N), .ref r0, .ref a0, .ref w0, .ref p0, .ref i0, .int (iZ bg), .int (iZ en), .int (iZ fl), .int (iZ rs)])), (r0, .inr (4, [.ref r1])), (r1, .inl (cQ, 32, .inr (.inr (.inr (.inr g))))), (a0, .inr (2, [.ref a1, .int (iZ cnt)])), (a1, .inl (cB, 600, .inl (fun j => iZ (Int.bmod (uh j) 256)))), (w0, .inr (5, [.ref w1])), (w1, .inl (cI, 6, .inl (fun j => iZ (ge j)))), (p0, .inr (3, [.ref p1, .int (iZ pn)])), (p1, .inl (cJ, 32, .inr (.inl pf))), (i0, .inr (1, [.int (iZ wr), .int (iZ lf)]))] ++ pl) := hD
    exact W.iret (v := (iZ wr)) hx hb hr (fun t ht hW => ⟨⟨_, (), rfl, (congrArg iZ (by omega)), by rw [ht]; exact hP, va_K.moved hW.alike hK, hAe ▸ hD⟩, hAe ▸ hS.F ht⟩) (hAe ▸ hS.2.2) d_De_state_70
  · refine lv_tableIn (tgt := 71) (off := 70) hx hb d_De_state_1 (by rw [sw_1]; decide) (by rw [sw_1]; decide) (by rw [sw_1]; decide) (by decide) ?_
    refine lv_aload_n hx hb d_De_state_71 rfl (lv_at hl 0 rfl) ?_
    refine va_get (D := (dC, dI)) (ci := 6) (v := .ref a0) (C := "LogDesk") (T := F_De) (N := 10) hx hb htg hin_De hown hK hP 0 rfl rfl 2 (by decide) (htg _ k_92) (fun _ h9 => h9) rfl d_De_state_72 ?_
    refine zq_i (wr := [(d0, .inr (6, [.int (iZ N), .ref r0, .ref a0, .ref w0, .ref p0, .ref i0, .int (iZ bg), .int (iZ en), .int (iZ fl), .int (iZ rs)])), (r0, .inr (4, [.ref r1])), (r1, .inl (cQ, 32, .inr (.inr (.inr (.inr g))))), (w0, .inr (5, [.ref w1])), (w1, .inl (cI, 6, .inl (fun j => iZ (ge j)))), (p0, .inr (3, [.ref p1, .int (iZ pn)])), (p1, .inl (cJ, 32, .inr (.inl pf))), (i0, .inr (1, [.int (iZ wr), .int (iZ lf)]))]) (va_runV (As := []) (rest := []) ⟨hx, hb, hml, hown, htg⟩ (c_Ha_count l dC dI cB cI cJ cZ cQ a0 a1 s.heap.size cnt uh) (cwV 0 htg (gw_V k_230 k_231 k_232 k_3 k_233) rfl rfl rfl (by decide +kernel) ⟨Nat.le_of_ble_eq_true rfl, Nat.le_of_ble_eq_true rfl⟩) (zPreV hK hP hD hZ [3, 4] rfl (by decide) 3 (ci := 2) rfl rfl) rfl rfl hl.1 rfl (lv_room (Nat.le_of_ble_eq_true rfl)) d_De_state_75 ⟨by omega, by omega⟩) hP hD hS hA [3, 4] [0, 1, 2, 5, 6, 7, 8, 9] rfl rfl (by decide) (by decide) rfl (fun H locs hP hD hS => ?_)
    have hP : va_P (dC, dI) vwCl ([(d0, .inr (6, [.int (iZ N), .ref r0, .ref a0, .ref w0, .ref p0, .ref i0, .int (iZ bg), .int (iZ en), .int (iZ fl), .int (iZ rs)])), (r0, .inr (4, [.ref r1])), (r1, .inl (cQ, 32, .inr (.inr (.inr (.inr g))))), (w0, .inr (5, [.ref w1])), (w1, .inl (cI, 6, .inl (fun j => iZ (ge j)))), (p0, .inr (3, [.ref p1, .int (iZ pn)])), (p1, .inl (cJ, 32, .inr (.inl pf))), (i0, .inr (1, [.int (iZ wr), .int (iZ lf)])), (a0, .inr (2, [.ref a1, .int (iZ cnt)])), (a1, .inl (cB, 600, .inl (fun j => iZ (Int.bmod (uh j) 256))))] ++ pl) H := hP
    have hD : va_D A ([(d0, .inr (6, [.int (iZ N), .ref r0, .ref a0, .ref w0, .ref p0, .ref i0, .int (iZ bg), .int (iZ en), .int (iZ fl), .int (iZ rs)])), (r0, .inr (4, [.ref r1])), (r1, .inl (cQ, 32, .inr (.inr (.inr (.inr g))))), (w0, .inr (5, [.ref w1])), (w1, .inl (cI, 6, .inl (fun j => iZ (ge j)))), (p0, .inr (3, [.ref p1, .int (iZ pn)])), (p1, .inl (cJ, 32, .inr (.inl pf))), (i0, .inr (1, [.int (iZ wr), .int (iZ lf)])), (a0, .inr (2, [.ref a1, .int (iZ cnt)])), (a1, .inl (cB, 600, .inl (fun j => iZ (Int.bmod (uh j) 256))))] ++ pl) := hD
    have hP := hP.part (cx := [(d0, .inr (6, [.int (iZ N), .ref r0, .ref a0, .ref w0, .ref p0, .ref i0, .int (iZ bg), .int (iZ en), .int (iZ fl), .int (iZ rs)])), (r0, .inr (4, [.ref r1])), (r1, .inl (cQ, 32, .inr (.inr (.inr (.inr g))))), (a0, .inr (2, [.ref a1, .int (iZ cnt)])), (a1, .inl (cB, 600, .inl (fun j => iZ (Int.bmod (uh j) 256)))), (w0, .inr (5, [.ref w1])), (w1, .inl (cI, 6, .inl (fun j => iZ (ge j)))), (p0, .inr (3, [.ref p1, .int (iZ pn)])), (p1, .inl (cJ, 32, .inr (.inl pf))), (i0, .inr (1, [.int (iZ wr), .int (iZ lf)]))]) [0, 1, 2, 8, 9, 3, 4, 5, 6, 7] rfl
    have hD := hD.part (cx := [(d0, .inr (6, [.int (iZ N), .ref r0, .ref a0, .ref w0, .ref p0, .ref i0, .int (iZ bg), .int (iZ en), .int (iZ fl), .int (iZ rs)])), (r0, .inr (4, [.ref r1])), (r1, .inl (cQ, 32, .inr (.inr (.inr (.inr g))))), (a0, .inr (2, [.ref a1, .int (iZ cnt)])), (a1, .inl (cB, 600, .inl (fun j => iZ (Int.bmod (uh j) 256)))), (w0, .inr (5, [.ref w1])), (w1, .inl (cI, 6, .inl (fun j => iZ (ge j)))), (p0, .inr (3, [.ref p1, .int (iZ pn)])), (p1, .inl (cJ, 32, .inr (.inl pf))), (i0, .inr (1, [.int (iZ wr), .int (iZ lf)]))]) [0, 1, 2, 8, 9, 3, 4, 5, 6, 7] (by decide) rfl
    exact W.iret (v := (iZ cnt)) hx hb hr (fun t ht hW => ⟨⟨_, (), rfl, (congrArg iZ (by omega)), by rw [ht]; exact hP, va_K.moved hW.alike hK, hAe ▸ hD⟩, hAe ▸ hS.F ht⟩) (hAe ▸ hS.2.2) d_De_state_78
  · refine lv_tableIn (tgt := 79) (off := 78) hx hb d_De_state_1 (by rw [sw_1]; decide) (by rw [sw_1]; decide) (by rw [sw_1]; decide) (by decide) ?_
    refine lv_aload_n hx hb d_De_state_79 rfl (lv_at hl 0 rfl) ?_
    refine va_get (D := (dC, dI)) (ci := 6) (v := .ref w0) (C := "LogDesk") (T := F_De) (N := 10) hx hb htg hin_De hown hK hP 0 rfl rfl 3 (by decide) (htg _ k_93) (fun _ h9 => h9) rfl d_De_state_80 ?_
    refine zq_i (wr := [(d0, .inr (6, [.int (iZ N), .ref r0, .ref a0, .ref w0, .ref p0, .ref i0, .int (iZ bg), .int (iZ en), .int (iZ fl), .int (iZ rs)])), (r0, .inr (4, [.ref r1])), (r1, .inl (cQ, 32, .inr (.inr (.inr (.inr g))))), (a0, .inr (2, [.ref a1, .int (iZ cnt)])), (a1, .inl (cB, 600, .inl (fun j => iZ (Int.bmod (uh j) 256)))), (p0, .inr (3, [.ref p1, .int (iZ pn)])), (p1, .inl (cJ, 32, .inr (.inl pf))), (i0, .inr (1, [.int (iZ wr), .int (iZ lf)]))]) (va_runV (As := []) (rest := []) ⟨hx, hb, hml, hown, htg⟩ (c_Wa_count l dC dI cB cI cJ cZ cQ w0 w1 s.heap.size ge hge) (cwV 0 htg (gw_V k_234 k_235 k_236 k_4 k_237) rfl rfl rfl (by decide +kernel) ⟨Nat.le_of_ble_eq_true rfl, Nat.le_of_ble_eq_true rfl⟩) (zPreV hK hP hD hZ [5, 6] rfl (by decide) 5 (ci := 5) rfl rfl) rfl rfl hl.1 rfl (lv_room (Nat.le_of_ble_eq_true rfl)) d_De_state_83 ⟨by omega, by omega⟩) hP hD hS hA [5, 6] [0, 1, 2, 3, 4, 7, 8, 9] rfl rfl (by decide) (by decide) rfl (fun H locs hP hD hS => ?_)
    have hP : va_P (dC, dI) vwCl ([(d0, .inr (6, [.int (iZ N), .ref r0, .ref a0, .ref w0, .ref p0, .ref i0, .int (iZ bg), .int (iZ en), .int (iZ fl), .int (iZ rs)])), (r0, .inr (4, [.ref r1])), (r1, .inl (cQ, 32, .inr (.inr (.inr (.inr g))))), (a0, .inr (2, [.ref a1, .int (iZ cnt)])), (a1, .inl (cB, 600, .inl (fun j => iZ (Int.bmod (uh j) 256)))), (p0, .inr (3, [.ref p1, .int (iZ pn)])), (p1, .inl (cJ, 32, .inr (.inl pf))), (i0, .inr (1, [.int (iZ wr), .int (iZ lf)])), (w0, .inr (5, [.ref w1])), (w1, .inl (cI, 6, .inl (fun j => iZ (ge j))))] ++ pl) H := hP
    have hD : va_D A ([(d0, .inr (6, [.int (iZ N), .ref r0, .ref a0, .ref w0, .ref p0, .ref i0, .int (iZ bg), .int (iZ en), .int (iZ fl), .int (iZ rs)])), (r0, .inr (4, [.ref r1])), (r1, .inl (cQ, 32, .inr (.inr (.inr (.inr g))))), (a0, .inr (2, [.ref a1, .int (iZ cnt)])), (a1, .inl (cB, 600, .inl (fun j => iZ (Int.bmod (uh j) 256)))), (p0, .inr (3, [.ref p1, .int (iZ pn)])), (p1, .inl (cJ, 32, .inr (.inl pf))), (i0, .inr (1, [.int (iZ wr), .int (iZ lf)])), (w0, .inr (5, [.ref w1])), (w1, .inl (cI, 6, .inl (fun j => iZ (ge j))))] ++ pl) := hD
    have hP := hP.part (cx := [(d0, .inr (6, [.int (iZ N), .ref r0, .ref a0, .ref w0, .ref p0, .ref i0, .int (iZ bg), .int (iZ en), .int (iZ fl), .int (iZ rs)])), (r0, .inr (4, [.ref r1])), (r1, .inl (cQ, 32, .inr (.inr (.inr (.inr g))))), (a0, .inr (2, [.ref a1, .int (iZ cnt)])), (a1, .inl (cB, 600, .inl (fun j => iZ (Int.bmod (uh j) 256)))), (w0, .inr (5, [.ref w1])), (w1, .inl (cI, 6, .inl (fun j => iZ (ge j)))), (p0, .inr (3, [.ref p1, .int (iZ pn)])), (p1, .inl (cJ, 32, .inr (.inl pf))), (i0, .inr (1, [.int (iZ wr), .int (iZ lf)]))]) [0, 1, 2, 3, 4, 8, 9, 5, 6, 7] rfl
    have hD := hD.part (cx := [(d0, .inr (6, [.int (iZ N), .ref r0, .ref a0, .ref w0, .ref p0, .ref i0, .int (iZ bg), .int (iZ en), .int (iZ fl), .int (iZ rs)])), (r0, .inr (4, [.ref r1])), (r1, .inl (cQ, 32, .inr (.inr (.inr (.inr g))))), (a0, .inr (2, [.ref a1, .int (iZ cnt)])), (a1, .inl (cB, 600, .inl (fun j => iZ (Int.bmod (uh j) 256)))), (w0, .inr (5, [.ref w1])), (w1, .inl (cI, 6, .inl (fun j => iZ (ge j)))), (p0, .inr (3, [.ref p1, .int (iZ pn)])), (p1, .inl (cJ, 32, .inr (.inl pf))), (i0, .inr (1, [.int (iZ wr), .int (iZ lf)]))]) [0, 1, 2, 3, 4, 8, 9, 5, 6, 7] (by decide) rfl
    exact W.iret (v := (iZ (wcnt ge 6))) hx hb hr (fun t ht hW => ⟨⟨_, (), rfl, (congrArg iZ (by omega)), by rw [ht]; exact hP, va_K.moved hW.alike hK, hAe ▸ hD⟩, hAe ▸ hS.F ht⟩) (hAe ▸ hS.2.2) d_De_state_86
  · refine lv_tableIn (tgt := 87) (off := 86) hx hb d_De_state_1 (by rw [sw_1]; decide) (by rw [sw_1]; decide) (by rw [sw_1]; decide) (by decide) ?_
    refine lv_aload_n hx hb d_De_state_87 rfl (lv_at hl 0 rfl) ?_
    refine va_get (D := (dC, dI)) (ci := 6) (v := .ref p0) (C := "LogDesk") (T := F_De) (N := 10) hx hb htg hin_De hown hK hP 0 rfl rfl 4 (by decide) (htg _ k_94) (fun _ h9 => h9) rfl d_De_state_88 ?_
    refine zq_i (wr := [(d0, .inr (6, [.int (iZ N), .ref r0, .ref a0, .ref w0, .ref p0, .ref i0, .int (iZ bg), .int (iZ en), .int (iZ fl), .int (iZ rs)])), (r0, .inr (4, [.ref r1])), (r1, .inl (cQ, 32, .inr (.inr (.inr (.inr g))))), (a0, .inr (2, [.ref a1, .int (iZ cnt)])), (a1, .inl (cB, 600, .inl (fun j => iZ (Int.bmod (uh j) 256)))), (w0, .inr (5, [.ref w1])), (w1, .inl (cI, 6, .inl (fun j => iZ (ge j)))), (i0, .inr (1, [.int (iZ wr), .int (iZ lf)]))]) (va_runV (As := []) (rest := []) ⟨hx, hb, hml, hown, htg⟩ (c_Pa_count l dC dI cB cI cJ cZ cQ p0 p1 s.heap.size pf pn) (cwV 0 htg (gw_V k_238 k_239 k_240 k_5 k_241) rfl rfl rfl (by decide +kernel) ⟨Nat.le_of_ble_eq_true rfl, Nat.le_of_ble_eq_true rfl⟩) (zPreV hK hP hD hZ [7, 8] rfl (by decide) 7 (ci := 3) rfl rfl) rfl rfl hl.1 rfl (lv_room (Nat.le_of_ble_eq_true rfl)) d_De_state_91 ⟨by omega, by omega⟩) hP hD hS hA [7, 8] [0, 1, 2, 3, 4, 5, 6, 9] rfl rfl (by decide) (by decide) rfl (fun H locs hP hD hS => ?_)
    have hP : va_P (dC, dI) vwCl ([(d0, .inr (6, [.int (iZ N), .ref r0, .ref a0, .ref w0, .ref p0, .ref i0, .int (iZ bg), .int (iZ en), .int (iZ fl), .int (iZ rs)])), (r0, .inr (4, [.ref r1])), (r1, .inl (cQ, 32, .inr (.inr (.inr (.inr g))))), (a0, .inr (2, [.ref a1, .int (iZ cnt)])), (a1, .inl (cB, 600, .inl (fun j => iZ (Int.bmod (uh j) 256)))), (w0, .inr (5, [.ref w1])), (w1, .inl (cI, 6, .inl (fun j => iZ (ge j)))), (i0, .inr (1, [.int (iZ wr), .int (iZ lf)])), (p0, .inr (3, [.ref p1, .int (iZ pn)])), (p1, .inl (cJ, 32, .inr (.inl pf)))] ++ pl) H := hP
    have hD : va_D A ([(d0, .inr (6, [.int (iZ N), .ref r0, .ref a0, .ref w0, .ref p0, .ref i0, .int (iZ bg), .int (iZ en), .int (iZ fl), .int (iZ rs)])), (r0, .inr (4, [.ref r1])), (r1, .inl (cQ, 32, .inr (.inr (.inr (.inr g))))), (a0, .inr (2, [.ref a1, .int (iZ cnt)])), (a1, .inl (cB, 600, .inl (fun j => iZ (Int.bmod (uh j) 256)))), (w0, .inr (5, [.ref w1])), (w1, .inl (cI, 6, .inl (fun j => iZ (ge j)))), (i0, .inr (1, [.int (iZ wr), .int (iZ lf)])), (p0, .inr (3, [.ref p1, .int (iZ pn)])), (p1, .inl (cJ, 32, .inr (.inl pf)))] ++ pl) := hD
    have hP := hP.part (cx := [(d0, .inr (6, [.int (iZ N), .ref r0, .ref a0, .ref w0, .ref p0, .ref i0, .int (iZ bg), .int (iZ en), .int (iZ fl), .int (iZ rs)])), (r0, .inr (4, [.ref r1])), (r1, .inl (cQ, 32, .inr (.inr (.inr (.inr g))))), (a0, .inr (2, [.ref a1, .int (iZ cnt)])), (a1, .inl (cB, 600, .inl (fun j => iZ (Int.bmod (uh j) 256)))), (w0, .inr (5, [.ref w1])), (w1, .inl (cI, 6, .inl (fun j => iZ (ge j)))), (p0, .inr (3, [.ref p1, .int (iZ pn)])), (p1, .inl (cJ, 32, .inr (.inl pf))), (i0, .inr (1, [.int (iZ wr), .int (iZ lf)]))]) [0, 1, 2, 3, 4, 5, 6, 8, 9, 7] rfl
    have hD := hD.part (cx := [(d0, .inr (6, [.int (iZ N), .ref r0, .ref a0, .ref w0, .ref p0, .ref i0, .int (iZ bg), .int (iZ en), .int (iZ fl), .int (iZ rs)])), (r0, .inr (4, [.ref r1])), (r1, .inl (cQ, 32, .inr (.inr (.inr (.inr g))))), (a0, .inr (2, [.ref a1, .int (iZ cnt)])), (a1, .inl (cB, 600, .inl (fun j => iZ (Int.bmod (uh j) 256)))), (w0, .inr (5, [.ref w1])), (w1, .inl (cI, 6, .inl (fun j => iZ (ge j)))), (p0, .inr (3, [.ref p1, .int (iZ pn)])), (p1, .inl (cJ, 32, .inr (.inl pf))), (i0, .inr (1, [.int (iZ wr), .int (iZ lf)]))]) [0, 1, 2, 3, 4, 5, 6, 8, 9, 7] (by decide) rfl
    exact W.iret (v := (iZ pn)) hx hb hr (fun t ht hW => ⟨⟨_, (), rfl, (congrArg iZ (by omega)), by rw [ht]; exact hP, va_K.moved hW.alike hK, hAe ▸ hD⟩, hAe ▸ hS.F ht⟩) (hAe ▸ hS.2.2) d_De_state_94
  · refine lv_tableIn (tgt := 95) (off := 94) hx hb d_De_state_1 (by rw [sw_1]; decide) (by rw [sw_1]; decide) (by rw [sw_1]; decide) (by decide) ?_
    refine lv_aload_n hx hb d_De_state_95 rfl (lv_at hl 0 rfl) ?_
    refine va_get (D := (dC, dI)) (ci := 6) (v := .int (iZ rs)) (C := "LogDesk") (T := F_De) (N := 10) hx hb htg hin_De hown hK hP 0 rfl rfl 9 (by decide) (htg _ k_99) (fun _ h9 => h9) rfl d_De_state_96 ?_
    refine lv_iconst (v := iZ (-1)) hx hb d_De_state_99 rfl ?_
    refine zz_icmp_ne (tgt := 107) hx hb d_De_state_100 (by decide) ⟨by omega, by omega⟩ ⟨by omega, by omega⟩ (fun c_2 => ?_) (fun c_2 => ?_)
    · refine lv_aload_n hx hb d_De_state_107 rfl (lv_at hl 0 rfl) ?_
      refine lv_aload_n hx hb d_De_state_108 rfl (lv_at hl 0 rfl) ?_
      refine va_get (D := (dC, dI)) (ci := 6) (v := .int (iZ rs)) (C := "LogDesk") (T := F_De) (N := 10) hx hb htg hin_De hown hK hP 0 rfl rfl 9 (by decide) (htg _ k_99) (fun _ h9 => h9) rfl d_De_state_109 ?_
      refine zp_i (wr := [(a0, .inr (2, [.ref a1, .int (iZ cnt)])), (a1, .inl (cB, 600, .inl (fun j => iZ (Int.bmod (uh j) 256)))), (w0, .inr (5, [.ref w1])), (w1, .inl (cI, 6, .inl (fun j => iZ (ge j)))), (p0, .inr (3, [.ref p1, .int (iZ pn)])), (p1, .inl (cJ, 32, .inr (.inl pf))), (i0, .inr (1, [.int (iZ wr), .int (iZ lf)]))]) (va_runV (As := [.int (iZ rs)]) (rest := []) ⟨hx, hb, hml, hown, htg⟩ (c_De_endOfRecord l dC dI cB cI cJ cZ cQ d0 r0 a0 w0 p0 i0 r1 s.heap.size N bg en fl rs pl g al u rs hR (by omega)) (cwV 1 htg (gw_V k_188 k_190 k_p1 k_1 k_191) rfl rfl rfl (by decide +kernel) ⟨Nat.le_of_ble_eq_true rfl, Nat.le_of_ble_eq_true rfl⟩) (zPreVP hK hP hD hZ [0, 1, 2] rfl (by decide) 0 (ci := 6) rfl rfl) rfl rfl hl.1 rfl (lv_room (Nat.le_of_ble_eq_true rfl)) d_De_state_112 ⟨by omega, by omega⟩) hP hD hS hA [0, 1, 2] [3, 4, 5, 6, 7, 8, 9] rfl rfl (by decide) (by decide) (fun H locs hP hD hS => ?_)
      have hP : va_P (dC, dI) vwCl ([(a0, .inr (2, [.ref a1, .int (iZ cnt)])), (a1, .inl (cB, 600, .inl (fun j => iZ (Int.bmod (uh j) 256)))), (w0, .inr (5, [.ref w1])), (w1, .inl (cI, 6, .inl (fun j => iZ (ge j)))), (p0, .inr (3, [.ref p1, .int (iZ pn)])), (p1, .inl (cJ, 32, .inr (.inl pf))), (i0, .inr (1, [.int (iZ wr), .int (iZ lf)])), (d0, .inr (6, [.int (iZ N), .ref r0, .ref a0, .ref w0, .ref p0, .ref i0, .int (iZ bg), .int (iZ en), .int (iZ fl), .int (iZ rs)])), (r0, .inr (4, [.ref r1])), (r1, .inl (cQ, 32, .inr (.inr (.inr (.inr g)))))] ++ pl) H := hP
      have hD : va_D A ([(a0, .inr (2, [.ref a1, .int (iZ cnt)])), (a1, .inl (cB, 600, .inl (fun j => iZ (Int.bmod (uh j) 256)))), (w0, .inr (5, [.ref w1])), (w1, .inl (cI, 6, .inl (fun j => iZ (ge j)))), (p0, .inr (3, [.ref p1, .int (iZ pn)])), (p1, .inl (cJ, 32, .inr (.inl pf))), (i0, .inr (1, [.int (iZ wr), .int (iZ lf)])), (d0, .inr (6, [.int (iZ N), .ref r0, .ref a0, .ref w0, .ref p0, .ref i0, .int (iZ bg), .int (iZ en), .int (iZ fl), .int (iZ rs)])), (r0, .inr (4, [.ref r1])), (r1, .inl (cQ, 32, .inr (.inr (.inr (.inr g)))))] ++ pl) := hD
      have hP := hP.part (cx := [(d0, .inr (6, [.int (iZ N), .ref r0, .ref a0, .ref w0, .ref p0, .ref i0, .int (iZ bg), .int (iZ en), .int (iZ fl), .int (iZ rs)])), (r0, .inr (4, [.ref r1])), (r1, .inl (cQ, 32, .inr (.inr (.inr (.inr g))))), (a0, .inr (2, [.ref a1, .int (iZ cnt)])), (a1, .inl (cB, 600, .inl (fun j => iZ (Int.bmod (uh j) 256)))), (w0, .inr (5, [.ref w1])), (w1, .inl (cI, 6, .inl (fun j => iZ (ge j)))), (p0, .inr (3, [.ref p1, .int (iZ pn)])), (p1, .inl (cJ, 32, .inr (.inl pf))), (i0, .inr (1, [.int (iZ wr), .int (iZ lf)]))]) [7, 8, 9, 0, 1, 2, 3, 4, 5, 6] rfl
      have hD := hD.part (cx := [(d0, .inr (6, [.int (iZ N), .ref r0, .ref a0, .ref w0, .ref p0, .ref i0, .int (iZ bg), .int (iZ en), .int (iZ fl), .int (iZ rs)])), (r0, .inr (4, [.ref r1])), (r1, .inl (cQ, 32, .inr (.inr (.inr (.inr g))))), (a0, .inr (2, [.ref a1, .int (iZ cnt)])), (a1, .inl (cB, 600, .inl (fun j => iZ (Int.bmod (uh j) 256)))), (w0, .inr (5, [.ref w1])), (w1, .inl (cI, 6, .inl (fun j => iZ (ge j)))), (p0, .inr (3, [.ref p1, .int (iZ pn)])), (p1, .inl (cJ, 32, .inr (.inl pf))), (i0, .inr (1, [.int (iZ wr), .int (iZ lf)]))]) [7, 8, 9, 0, 1, 2, 3, 4, 5, 6] (by decide) rfl
      exact W.iret (v := (iZ (er u rs))) hx hb hr (fun t ht hW => ⟨⟨_, (), rfl, (congrArg iZ (by omega)), by rw [ht]; exact hP, va_K.moved hW.alike hK, hAe ▸ hD⟩, hAe ▸ hS.F ht⟩) (hAe ▸ hS.2.2) d_De_state_115
    · refine lv_iconst (v := iZ (-1)) hx hb d_De_state_103 rfl ?_
      refine lv_goto (tgt := 115) hx hb d_De_state_104 (by decide) ?_
      exact W.iret (v := (iZ (-1))) hx hb hr (fun t ht hW => ⟨⟨_, (), rfl, (congrArg iZ (by omega)), by rw [ht]; exact hP, va_K.moved hW.alike hK, hAe ▸ hD⟩, hAe ▸ hS.F ht⟩) (hAe ▸ hS.2.2) d_De_state_115
set_option maxHeartbeats 4000000 in
set_option maxRecDepth 100000 in
/-- writeHead -/
theorem c_De_writeHead (l : Launch) (dC : Nat → ClassId) (dI : Nat → Nat → Nat) (cB : ClassId) (cI : ClassId) (cJ : ClassId) (cZ : ClassId) (cQ : ClassId) (d0 r0 a0 w0 p0 i0 r1 : Nat) (sz : Nat) (N : Int) (bg : Int) (en : Int) (fl : Int) (rs : Int) (pl : va_W) (g : Nat → Option Nat) (al : Nat → Bool) (u : Nat → Int) (kd : Int) (n : Int) (hR : RK cB pl g al u) (hpl : 0 ≤ bg ∧ bg ≤ en ∧ en ≤ 1000000000 ∧ 0 ≤ fl ∧ fl ≤ 1000000000) (hn0 : 0 ≤ n ∧ n ≤ 600) : Met l y_De_writeHead ((Cond.code y_De_writeHead prog_1_method_19_code 3 (some .int)) :: gw) ({ frames := 3, cells := (2 * (cal (aP (aP (aP al en) (en + 1)) (en + 2)) 32 - cal al 32)), slots := (501 * (cal (aP (aP (aP al en) (en + 1)) (en + 2)) 32 - cal al 32)), locals := 57 } : Room) (zPc (dC, dI) [(cB, .byte), (cI, .int), (cJ, .long), (cZ, .boolean), (cQ, .object "LogDesk$Block")] [.ref d0, .int (iZ kd), .int (iZ n)] ([(d0, .inr (6, [.int (iZ N), .ref r0, .ref a0, .ref w0, .ref p0, .ref i0, .int (iZ bg), .int (iZ en), .int (iZ fl), .int (iZ rs)])), (r0, .inr (4, [.ref r1])), (r1, .inl (cQ, 32, .inr (.inr (.inr (.inr g)))))] ++ pl) sz) (va_Qi (fun (r : Int32) (q : va_W × (Nat → Option Nat)) => r = iZ (en + 3) ∧ (RK cB q.1 q.2 (aP (aP (aP al en) (en + 1)) (en + 2)) (uP (uP (uP u en kd) (en + 1) (n / 256)) (en + 2) n))) (zBx (dC, dI) [(cB, .byte), (cI, .int), (cJ, .long), (cZ, .boolean), (cQ, .object "LogDesk$Block")] (va_A ([(d0, .inr (6, [.int (iZ N), .ref r0, .ref a0, .ref w0, .ref p0, .ref i0, .int (iZ bg), .int (iZ en), .int (iZ fl), .int (iZ rs)])), (r0, .inr (4, [.ref r1])), (r1, .inl (cQ, 32, .inr (.inr (.inr (.inr g)))))] ++ pl) sz) (fun (q : va_W × (Nat → Option Nat)) => ([(d0, .inr (6, [.int (iZ N), .ref r0, .ref a0, .ref w0, .ref p0, .ref i0, .int (iZ bg), .int (iZ en), .int (iZ fl), .int (iZ rs)])), (r0, .inr (4, [.ref r1])), (r1, .inl (cQ, 32, .inr (.inr (.inr (.inr q.2)))))] ++ q.1))) (va_A ([(d0, .inr (6, [.int (iZ N), .ref r0, .ref a0, .ref w0, .ref p0, .ref i0, .int (iZ bg), .int (iZ en), .int (iZ fl), .int (iZ rs)])), (r0, .inr (4, [.ref r1])), (r1, .inl (cQ, 32, .inr (.inr (.inr (.inr g)))))] ++ pl) sz)) (2 * (cal (aP (aP (aP al en) (en + 1)) (en + 2)) 32 - cal al 32)) (501 * (cal (aP (aP (aP al en) (en + 1)) (en + 2)) 32 - cal al 32)) (va_A ([(d0, .inr (6, [.int (iZ N), .ref r0, .ref a0, .ref w0, .ref p0, .ref i0, .int (iZ bg), .int (iZ en), .int (iZ fl), .int (iZ rs)])), (r0, .inr (4, [.ref r1])), (r1, .inl (cQ, 32, .inr (.inr (.inr (.inr g)))))] ++ pl) sz) := by
  refine Met.ofW (cc := prog_1_method_19_code) (maxL := 3) (ret := (some .int)) (by decide) rfl ?_
  intro p e s m args below meth c s₁ B hml hv
  obtain ⟨rfl, hsz, hP, hK, hD0, hZ⟩ := hv
  have hx := B.exec
  have hb := B.bytes
  have hr := B.returns
  have hts := atoms_spec (ws := (Cond.code y_De_writeHead prog_1_method_19_code 3 (some .int)) :: gw) B.pre
  have htg : ∀ w ∈ gw, w.before _ s = true := fun w h => hts w (List.mem_cons_of_mem _ h)
  have hown : s.vm.findClass "LogDesk" = some m.cls := findClass_of_methodNamed B.named
  have hlocks := B.notSynchronized
  subst hsz
  have hD := hD0.self (sz := s.heap.size)
  generalize hAe : va_A ([(d0, .inr (6, [.int (iZ N), .ref r0, .ref a0, .ref w0, .ref p0, .ref i0, .int (iZ bg), .int (iZ en), .int (iZ fl), .int (iZ rs)])), (r0, .inr (4, [.ref r1])), (r1, .inl (cQ, 32, .inr (.inr (.inr (.inr g)))))] ++ pl) s.heap.size = A at hD ⊢
  have hRc : (headSpec ((Cond.code y_De_writeHead prog_1_method_19_code 3 (some .int)) :: gw) ({ frames := 3, cells := (2 * (cal (aP (aP (aP al en) (en + 1)) (en + 2)) 32 - cal al 32)), slots := (501 * (cal (aP (aP (aP al en) (en + 1)) (en + 2)) 32 - cal al 32)), locals := 57 } : Room)).room.cells = (2 * (cal (aP (aP (aP al en) (en + 1)) (en + 2)) 32 - cal al 32)) := rfl
  have hRs : (headSpec ((Cond.code y_De_writeHead prog_1_method_19_code 3 (some .int)) :: gw) ({ frames := 3, cells := (2 * (cal (aP (aP (aP al en) (en + 1)) (en + 2)) 32 - cal al 32)), slots := (501 * (cal (aP (aP (aP al en) (en + 1)) (en + 2)) 32 - cal al 32)), locals := 57 } : Room)).room.slots = (501 * (cal (aP (aP (aP al en) (en + 1)) (en + 2)) 32 - cal al 32)) := rfl
  have hA : ∀ q : Nat, s.heap.size ≤ q → A q := fun q h => by rw [← hAe]; exact Or.inr h
  have hS : va_S A s.heap s.heap [] := va_S.rf
  have hP : va_P (dC, dI) vwCl ([(d0, .inr (6, [.int (iZ N), .ref r0, .ref a0, .ref w0, .ref p0, .ref i0, .int (iZ bg), .int (iZ en), .int (iZ fl), .int (iZ rs)])), (r0, .inr (4, [.ref r1])), (r1, .inl (cQ, 32, .inr (.inr (.inr (.inr g)))))] ++ pl) s.heap := hP
  have hl := lv_entry ([.ref d0, .int (iZ kd), .int (iZ n)]) (n := 3) (Nat.le_of_ble_eq_true rfl)
  rw [lg_entry_eq]
  generalize (lg_sl ([.ref d0, .int (iZ kd), .int (iZ n)]) ++ List.replicate (3 - (lg_sl ([.ref d0, .int (iZ kd), .int (iZ n)])).length) Slot.unset).toArray = ls at hl ⊢
  have hl : lv_has ls 3 [(0, .ref d0), (1, .int (iZ kd)), (2, .int (iZ n))] := hl
  have hm0 := aP_mono al en
  have hm1 := aP_mono (aP al en) (en + 1)
  have hm2 := aP_mono (aP (aP al en) (en + 1)) (en + 2)
  refine lv_aload_n hx hb d_De_writeHead_0 rfl (lv_at hl 0 rfl) ?_
  refine va_get (D := (dC, dI)) (ci := 6) (v := .ref r0) (C := "LogDesk") (T := F_De) (N := 10) hx hb htg hin_De hown hK hP 0 rfl rfl 1 (by decide) (htg _ k_91) (fun _ h9 => h9) rfl d_De_writeHead_1 ?_
  refine lv_aload_n hx hb d_De_writeHead_4 rfl (lv_at hl 0 rfl) ?_
  refine va_get (D := (dC, dI)) (ci := 6) (v := .int (iZ en)) (C := "LogDesk") (T := F_De) (N := 10) hx hb htg hin_De hown hK hP 0 rfl rfl 7 (by decide) (htg _ k_97) (fun _ h9 => h9) rfl d_De_writeHead_5 ?_
  refine lv_iload_n hx hb d_De_writeHead_8 rfl (lv_at hl 1 rfl) ?_
  refine zxp_v (wr := [(d0, .inr (6, [.int (iZ N), .ref r0, .ref a0, .ref w0, .ref p0, .ref i0, .int (iZ bg), .int (iZ en), .int (iZ fl), .int (iZ rs)]))]) (va_runV (As := [.int (iZ en), .int (iZ kd)]) (rest := []) ⟨hx, hb, hml, hown, htg⟩ (c_Ri_set l dC dI cB cI cJ cZ cQ r0 r1 s.heap.size pl g al u en kd hR (by omega)) (cwV 2 htg (gw_V k_348 k_349 k_350 k_2 k_351) rfl rfl rfl (by decide +kernel) ⟨Nat.le_of_ble_eq_true rfl, Nat.le_of_ble_eq_true rfl⟩) (zPreVP hK hP hD hZ [1, 2] rfl (by decide) 1 (ci := 4) rfl rfl) rfl rfl hl.1 rfl (lv_room (Nat.le_of_ble_eq_true rfl)) d_De_writeHead_9 ⟨by omega, by omega⟩) hP hD hS hA [1, 2] [0] rfl rfl (by decide) (by decide) (fun uu_4 hq_3 H locs hP hD hS => ?_)
  obtain ⟨pl2_1, g2_2⟩ := uu_4
  try dsimp only at hq_3
  have hP : va_P (dC, dI) vwCl ([(d0, .inr (6, [.int (iZ N), .ref r0, .ref a0, .ref w0, .ref p0, .ref i0, .int (iZ bg), .int (iZ en), .int (iZ fl), .int (iZ rs)])), (r0, .inr (4, [.ref r1])), (r1, .inl (cQ, 32, .inr (.inr (.inr (.inr g2_2)))))] ++ pl2_1) H := hP
  have hD : va_D A ([(d0, .inr (6, [.int (iZ N), .ref r0, .ref a0, .ref w0, .ref p0, .ref i0, .int (iZ bg), .int (iZ en), .int (iZ fl), .int (iZ rs)])), (r0, .inr (4, [.ref r1])), (r1, .inl (cQ, 32, .inr (.inr (.inr (.inr g2_2)))))] ++ pl2_1) := hD
  refine lv_aload_n hx hb d_De_writeHead_12 rfl (lv_at hl 0 rfl) ?_
  refine va_get (D := (dC, dI)) (ci := 6) (v := .ref r0) (C := "LogDesk") (T := F_De) (N := 10) hx hb htg hin_De hown hK hP 0 rfl rfl 1 (by decide) (htg _ k_91) (fun _ h9 => h9) rfl d_De_writeHead_13 ?_
  refine lv_aload_n hx hb d_De_writeHead_16 rfl (lv_at hl 0 rfl) ?_
  refine va_get (D := (dC, dI)) (ci := 6) (v := .int (iZ en)) (C := "LogDesk") (T := F_De) (N := 10) hx hb htg hin_De hown hK hP 0 rfl rfl 7 (by decide) (htg _ k_97) (fun _ h9 => h9) rfl d_De_writeHead_17 ?_
  refine lv_iconst (v := iZ 1) hx hb d_De_writeHead_20 rfl ?_
  refine zz_iadd hx hb d_De_writeHead_21 ?_
  refine lv_iload_n hx hb d_De_writeHead_22 rfl (lv_at hl 2 rfl) ?_
  refine lv_bipush (v := iZ 8) hx hb d_De_writeHead_23 (by decide) ?_
  refine zz_shr8 hx hb (by omega) (by omega) d_De_writeHead_25 ?_
  refine zxp_v (wr := [(d0, .inr (6, [.int (iZ N), .ref r0, .ref a0, .ref w0, .ref p0, .ref i0, .int (iZ bg), .int (iZ en), .int (iZ fl), .int (iZ rs)]))]) (va_runV (As := [.int (iZ (en + 1)), .int (iZ (n / 256))]) (rest := []) ⟨hx, hb, hml, hown, htg⟩ (c_Ri_set l dC dI cB cI cJ cZ cQ r0 r1 H.size pl2_1 g2_2 (aP al en) (uP u en kd) (en + 1) (n / 256) hq_3 (by omega)) (cwV 2 htg (gw_V k_348 k_349 k_350 k_2 k_351) rfl rfl rfl (by decide +kernel) ⟨Nat.le_of_ble_eq_true rfl, Nat.le_of_ble_eq_true rfl⟩) (zPreVP hK hP hD hZ [1, 2] rfl (by decide) 1 (ci := 4) rfl rfl) rfl rfl hl.1 rfl (lv_room (Nat.le_of_ble_eq_true rfl)) d_De_writeHead_26 ⟨by omega, by omega⟩) hP hD hS hA [1, 2] [0] rfl rfl (by decide) (by decide) (fun uu_8 hq_7 H locs hP hD hS => ?_)
  obtain ⟨pl2_5, g2_6⟩ := uu_8
  try dsimp only at hq_7
  have hP : va_P (dC, dI) vwCl ([(d0, .inr (6, [.int (iZ N), .ref r0, .ref a0, .ref w0, .ref p0, .ref i0, .int (iZ bg), .int (iZ en), .int (iZ fl), .int (iZ rs)])), (r0, .inr (4, [.ref r1])), (r1, .inl (cQ, 32, .inr (.inr (.inr (.inr g2_6)))))] ++ pl2_5) H := hP
  have hD : va_D A ([(d0, .inr (6, [.int (iZ N), .ref r0, .ref a0, .ref w0, .ref p0, .ref i0, .int (iZ bg), .int (iZ en), .int (iZ fl), .int (iZ rs)])), (r0, .inr (4, [.ref r1])), (r1, .inl (cQ, 32, .inr (.inr (.inr (.inr g2_6)))))] ++ pl2_5) := hD
  refine lv_aload_n hx hb d_De_writeHead_29 rfl (lv_at hl 0 rfl) ?_
  refine va_get (D := (dC, dI)) (ci := 6) (v := .ref r0) (C := "LogDesk") (T := F_De) (N := 10) hx hb htg hin_De hown hK hP 0 rfl rfl 1 (by decide) (htg _ k_91) (fun _ h9 => h9) rfl d_De_writeHead_30 ?_
  refine lv_aload_n hx hb d_De_writeHead_33 rfl (lv_at hl 0 rfl) ?_
  refine va_get (D := (dC, dI)) (ci := 6) (v := .int (iZ en)) (C := "LogDesk") (T := F_De) (N := 10) hx hb htg hin_De hown hK hP 0 rfl rfl 7 (by decide) (htg _ k_97) (fun _ h9 => h9) rfl d_De_writeHead_34 ?_
  refine lv_iconst (v := iZ 2) hx hb d_De_writeHead_37 rfl ?_
  refine zz_iadd hx hb d_De_writeHead_38 ?_
  refine lv_iload_n hx hb d_De_writeHead_39 rfl (lv_at hl 2 rfl) ?_
  refine zxp_v (wr := [(d0, .inr (6, [.int (iZ N), .ref r0, .ref a0, .ref w0, .ref p0, .ref i0, .int (iZ bg), .int (iZ en), .int (iZ fl), .int (iZ rs)]))]) (va_runV (As := [.int (iZ (en + 2)), .int (iZ n)]) (rest := []) ⟨hx, hb, hml, hown, htg⟩ (c_Ri_set l dC dI cB cI cJ cZ cQ r0 r1 H.size pl2_5 g2_6 (aP (aP al en) (en + 1)) (uP (uP u en kd) (en + 1) (n / 256)) (en + 2) n hq_7 (by omega)) (cwV 2 htg (gw_V k_348 k_349 k_350 k_2 k_351) rfl rfl rfl (by decide +kernel) ⟨Nat.le_of_ble_eq_true rfl, Nat.le_of_ble_eq_true rfl⟩) (zPreVP hK hP hD hZ [1, 2] rfl (by decide) 1 (ci := 4) rfl rfl) rfl rfl hl.1 rfl (lv_room (Nat.le_of_ble_eq_true rfl)) d_De_writeHead_40 ⟨by omega, by omega⟩) hP hD hS hA [1, 2] [0] rfl rfl (by decide) (by decide) (fun uu_12 hq_11 H locs hP hD hS => ?_)
  obtain ⟨pl2_9, g2_10⟩ := uu_12
  try dsimp only at hq_11
  have hP : va_P (dC, dI) vwCl ([(d0, .inr (6, [.int (iZ N), .ref r0, .ref a0, .ref w0, .ref p0, .ref i0, .int (iZ bg), .int (iZ en), .int (iZ fl), .int (iZ rs)])), (r0, .inr (4, [.ref r1])), (r1, .inl (cQ, 32, .inr (.inr (.inr (.inr g2_10)))))] ++ pl2_9) H := hP
  have hD : va_D A ([(d0, .inr (6, [.int (iZ N), .ref r0, .ref a0, .ref w0, .ref p0, .ref i0, .int (iZ bg), .int (iZ en), .int (iZ fl), .int (iZ rs)])), (r0, .inr (4, [.ref r1])), (r1, .inl (cQ, 32, .inr (.inr (.inr (.inr g2_10)))))] ++ pl2_9) := hD
  have hq9 := hq_11
  refine lv_aload_n hx hb d_De_writeHead_43 rfl (lv_at hl 0 rfl) ?_
  refine va_get (D := (dC, dI)) (ci := 6) (v := .int (iZ en)) (C := "LogDesk") (T := F_De) (N := 10) hx hb htg hin_De hown hK hP 0 rfl rfl 7 (by decide) (htg _ k_97) (fun _ h9 => h9) rfl d_De_writeHead_44 ?_
  refine lv_iconst (v := iZ 3) hx hb d_De_writeHead_47 rfl ?_
  refine zz_iadd hx hb d_De_writeHead_48 ?_
  refine W.widen (k := (2 * (cal (aP (aP (aP al en) (en + 1)) (en + 2)) 32 - cal al 32))) (n := (501 * (cal (aP (aP (aP al en) (en + 1)) (en + 2)) 32 - cal al 32))) (by omega) (by omega) ?_
  exact W.iret (v := (iZ (en + 3))) hx hb hr (fun t ht hW => ⟨⟨_, (pl2_9, g2_10), rfl, ⟨rfl, hq9⟩, by rw [ht]; exact hP, va_K.moved hW.alike hK, hAe ▸ hD⟩, hAe ▸ hS.F ht⟩) (hAe ▸ hS.2.2) d_De_writeHead_49
end
section
/-! methods that may throw: a contract whose end is an answer or a thrown object -/
def FET (st : State) (o : Outcome) (t : State) (L : List Loc) (k n : Nat) : Prop := ((∃ v, o = .returned v) ∨ ∃ x, o = .threw x) ∧ st.WarmedH t.vm ∧ st.sameButNew { t with vm := st.vm } L k n
def MetT (l : Launch) (y : MethodName) (ws : List Cond) (rm : Room) (Pc : Array Value → State → Prop) (Qc : Array Value → State → Outcome → State → Prop) (mc ms : Nat) (free : Addr → Prop) : Prop :=
  MetFree l y (headSpec ws rm) Pc (fun _ _ _ _ _ => True) (fun a st o t => Qc a st o t ∧ ∃ L, FET st o t L mc ms ∧ ∀ q ∈ L, free q.base)
def MQT (below : List Frame) (Qc : Array Value → State → Outcome → State → Prop) (a : Array Value) (s : State) (mc ms : Nat) (free : Addr → Prop) : State → Prop := fun t =>
  ∃ o, t.status = .running ∧ Ended t below o ∧ Qc a s o t ∧ ∃ L, FET s o t L mc ms ∧ ∀ q ∈ L, free q.base
theorem MQT.of {below : List Frame} {Qc : Array Value → State → Outcome → State → Prop} {a : Array Value} {s : State} {mc ms : Nat} {free : Addr → Prop} {t : State} (h : MQ below Qc a s mc ms free t) : MQT below Qc a s mc ms free t := by
  obtain ⟨o, h1, h2, h3, L, h4, h5⟩ := h
  exact ⟨o, h1, h2, h3, L, ⟨Or.inl h4.1, h4.2⟩, h5⟩
section ZT
variable {p : Program} {l : Launch} {e : Env} {R : Room} {s : State} {m : MethodId} {args : Array Value} {below : List Frame} {meth : Method} {c : Code} {H : Heap} {locs : List Loc} {cells slots : Nat} {Q : State → Prop} {T : State}
theorem W.mono {Q' : State → Prop} {g : JFrame} (h : ∀ t, Q t → Q' t) (k : W p l e R s m args below meth c H locs cells slots Q g) : W p l e R s m args below meth c H locs cells slots Q' g := by
  intro T hT X
  obtain ⟨t, a, b⟩ := k T hT X
  exact ⟨t, a, h t b⟩
theorem MetT.ofW {y : MethodName} {ws ws' : List Cond} {rm : Room} {Pc : Array Value → State → Prop} {Qc : Array Value → State → Outcome → State → Prop} {mc ms : Nat} {free : Addr → Prop} {cc : ByteArray} {maxL : Nat} {ret : Option FieldType}
    (hy : plainName y.cls = true) (hw : ws = Cond.code y cc maxL ret :: ws')
    (body : ∀ p e s m args below meth c s₁, BodyLoose p l y (headSpec ws rm) cc maxL ret e s m args below meth c s₁ → c.maxLocals = maxL → c.exceptionTable.isEmpty = true → Pc args s →
      W p l e (headSpec ws rm).room s m args below meth c s.heap [] 0 0 (MQT below Qc args s mc ms free) (entryFrame m args maxL)) : MetT l y ws rm Pc Qc mc ms free := by
  refine MetFree.of_bodyS (code := cc) (maxLocals := maxL) (ret := ret) hy ?_ ?_
  · intro args s m h hn
    obtain ⟨meth, c, h1, h2, h3, h4, h5, h6, -, -⟩ := Cond.code_spec hn (atoms_spec (ws := ws) h _ (by rw [hw]; exact List.mem_cons_self))
    exact ⟨meth, c, h1, h2, h3, h4, h5, h6⟩
  · intro p e s m args below meth c s₁ B hml hP _
    have hh0 : s₁.heap = s.heap := by rw [B.state]; rfl
    have hne : c.exceptionTable.isEmpty = true := B.noHandlers (atoms_spec (ws := ws) B.pre _ (by rw [hw]; exact List.mem_cons_self))
    obtain ⟨t, a1, o, b1, b2, b3⟩ := body p e s m args below meth c s₁ B hml hne hP s₁ hh0 (Stand.of_body B)
    exact ⟨t, o, a1, b1, b2, ⟨b3.1, b3.2⟩⟩
/-- the same walk, taken as begun just now: what is left of the room is its room -/
theorem zt_rebase (X : Stand p l e R s m args below meth c T locs cells slots) (h1 : cells ≤ R.cells) (h2 : slots ≤ R.slots) : Stand p l e { frames := R.frames, locals := R.locals, cells := R.cells - cells, slots := R.slots - slots } (T.setFrames (.invoking m args :: below)) m args below meth c T [] 0 0 := by
  obtain ⟨g₀, hfr⟩ := X.frames_eq
  have hcur := State.cur_lt_of_frames hfr
  have hF : (T.setFrames (.invoking m args :: below)).frames = .invoking m args :: below := State.frames_setFrames _ hcur
  refine ⟨X.admits, X.cas, X.clock, hF, ?_, ?_, X.method', X.code, X.here, X.tail, State.WarmedH.refl _, by rw [State.stackLimits_setFrames], by rw [State.stackBytes_setFrames], ?_⟩
  · have hr := X.room
    have hz := X.heapSize
    have hu := X.used
    have hbk := X.book
    have hlim := X.limits
    have hby := X.bytes
    have e1 := State.localsInUse_invoking X.frames X.method X.code
    have e2 := State.localsInUse_invoking hF X.method' X.code
    simp only [State.hasRoom, Bool.and_eq_true, decide_eq_true_eq] at hr ⊢
    rw [e1, X.frames] at hr
    rw [e2, hF, State.stackLimits_setFrames, State.stackBytes_setFrames, hlim, hby]
    obtain ⟨⟨⟨⟨r1, r2⟩, r3⟩, r4⟩, r5⟩ := hr
    refine ⟨⟨⟨⟨r1, r2⟩, ?_⟩, ?_⟩, hbk⟩
    · show T.heap.size + (R.cells - cells) ≤ _
      omega
    · show T.slotsUsed + (R.slots - slots) ≤ _
      omega
  · have hh := X.hears
    have hal := X.warmed.alike
    cases below with
    | nil =>
      show ((T.vm.method? m).any _) = true
      rw [X.method']
      have : ((s.vm.method? m).any (·.sig.returnType.isNone)) = true := hh
      rw [X.method] at this
      exact this
    | cons f r =>
      cases f with
      | java g =>
        show (((T.setFrames _).code? g.method).bind fun c => (decode c.code g.pc).toOption).isSome = true
        have h3 : ((s.code? g.method).bind fun c => (decode c.code g.pc).toOption).isSome = true := hh
        rw [State.code?_eq] at h3 ⊢
        show (((T.vm.method? g.method).bind _).bind _).isSome = true
        rw [hal.method?]
        exact h3
      | native _ => rfl
      | proc _ => rfl
      | _ =>
        show ((T.vm.method? m).any _) = true
        rw [X.method']
        have : ((s.vm.method? m).any (·.sig.returnType.isNone)) = true := hh
        rw [X.method] at this
        exact this
  · refine ⟨?_, Nat.le_refl _, Nat.le_refl _, ?_, ?_, ?_⟩
    · show T.setVm T.vm = _
      obtain ⟨t, ht, -⟩ := State.frames_cons hfr
      show T = { (T.setFrames (.invoking m args :: below)).setFrames T.frames with heap := T.heap, slotsUsed := T.slotsUsed }
      rw [State.setFrames_setFrames, State.setFrames_self ht]
    · show T.slotsUsed = T.slotsUsed + ((T.heap.toList.drop T.heap.size).map (·.slots.size)).sum
      rw [List.drop_eq_nil_of_le (by simp)]
      rfl
    · show ((T.heap.toList.drop T.heap.size).map (·.slots.size)).sum ≤ 0
      rw [List.drop_eq_nil_of_le (by simp)]
      exact Nat.le_refl _
    · intro a cc hc
      exact ⟨cc, hc, rfl, rfl, fun _ _ => rfl⟩
theorem zt_same {u U : State} {n k : Nat} (h : u.sameButNew U [] n k) {a : Nat} (ha : a < u.heap.size) : U.heap[a]? = u.heap[a]? := by
  obtain ⟨-, -, -, -, -, h6⟩ := h
  have hc : u.heap[a]? = some u.heap[a] := Array.getElem?_eq_getElem ha
  obtain ⟨c', h1, h2, h3, h4⟩ := h6 a _ hc
  rw [h1, hc, h2]
  congr 1
  have e : c'.slots = (u.heap[a]).slots := Array.ext_getElem? (fun i => h4 i (by simp))
  rw [e]
theorem zt_dup {pc : Nat} {ls : Array Slot} {rest : List Value} {a : Nat} (X : Stand p l e R s m args below meth c T locs cells slots) (hexec : p.tables.exec = Jvm.exec) (d3 : decode c.code pc = .ok (.dup, 1)) (tg : State) (h : Steps p.tables e below (T.setTop (F0 m (pc + 1) ls (.ref a :: .ref a :: rest))) tg) : Steps p.tables e below (T.setTop (F0 m pc ls (.ref a :: rest))) tg := by
  jvm_step X.here [X.here.top, hexec, d3, Value.category]
  exact h
/-- new X; dup; ldc text; X.<init>(String); athrow: the object is thrown; nothing that was there has changed -/
theorem zt_throw {cc : ByteArray} {pc : Nat} {ls : Array Slot} {rest : List Value} {Qc : Array Value → State → Outcome → State → Prop} {free : Addr → Prop} (hexec : p.tables.exec = Jvm.exec) (hb : c.code = cc) (hne : c.exceptionTable.isEmpty = true) (hlocks : meth.locks = false) (hfl : l.flags = flags0) {own cls text : String} {i0 i1 i2 q : Nat} (hfit : Bundle.fit cls = true)
    (hw : ∀ U : State, U.heap = H → s.WarmedH U.vm → U.vm.findClass own = some m.cls ∧ (Cond.classLink own i0 cls).before args U = true ∧ (Cond.instantiable cls 6).before args U = true ∧ (Cond.initialized cls).before args U = true ∧ vk_R own i1 text q U ∧ ∀ a ∈ Bundle.ownAtoms own i2 cls ["java/lang/RuntimeException", "java/lang/Exception"], a.before args U = true)
    (d0 : decode cc pc = .ok (.new i0, 3)) (d3 : decode cc (pc + 3) = .ok (.dup, 1)) (d4 : decode cc (pc + 4) = .ok (.ldc i1, 2)) (d6 : decode cc (pc + 6) = .ok (.invokespecial i2, 3)) (d9 : decode cc (pc + 9) = .ok (.athrow, 1)) (hsize : ls.size = c.maxLocals)
    (hRf : 5 < R.frames) (hRl : (rest.map fun v => v.category).sum + 82 ≤ R.locals) (hc : cells + 1 ≤ R.cells) (hs : slots + 6 ≤ R.slots)
    (hq : ∀ (t : State) (ce : Cell), H.size ≤ t.heap.size → (∀ a, a < H.size → t.heap[a]? = H[a]?) → t.heap[H.size]? = some ce → s.vm.findClass cls = some ce.cls → ce.vm = .none → s.WarmedH t.vm → Qc args s (.threw H.size) t)
    (hf : ∀ q ∈ locs, free q.base) : W p l e R s m args below meth c H locs cells slots (MQT below Qc args s (cells + 1) (slots + 6) free) (F0 m pc ls rest) := by
  intro T hT X
  subst hT; subst hb
  have X0 := zt_rebase X (by omega) (by omega)
  obtain ⟨o1, o2, o3, o4, o5, o6⟩ := hw (T.setFrames (.invoking m args :: below)) rfl X.warmed
  obtain ⟨vm', cC, kC, h1, h2, h3, h4, X1, st1⟩ := X0.newCold hexec o1 o2 o3 o4 (g := F0 m pc ls rest) rfl d0 (by show 0 + 1 ≤ R.cells - cells; omega) (by show 0 + 6 ≤ R.slots - slots; omega)
  have hcell : ((T.setVm vm').pushCell { cls := cC, slots := kC.instanceTypes.map defaultValue, vm := .none }).heap[T.heap.size]? = some (freshCell cC kC) := State.heap_pushCell_size _ _
  obtain ⟨U, hst, hrun, hend, hW, hsame, ce, hce, hO⟩ := X1.ctorThrowS hexec (Launch.traces_off hfl X.admits) (own := own) (cls := cls) (names := ["java/lang/RuntimeException", "java/lang/Exception"]) (ic := i2) o1 hfit (by decide) o6 (by intro x hx; cases hx)
    h1 h2 hcell (Nat.le_refl _) (msg := .ref q) rfl (g := F0 m (pc + 6) ls (.ref q :: .ref T.heap.size :: .ref T.heap.size :: rest)) rfl hsize rfl rfl rfl d6 d9 (by intro x hx; rw [Array.isEmpty_iff] at hne; rw [hne] at hx; cases hx)
    (by show 2 + 3 < R.frames; omega) (by show 2 * 0 + (1 + (rest.map fun v => v.category).sum) + (13 * (2 + 1) + 42) ≤ R.locals; omega) hlocks
  have hsteps : Steps p.tables e below (T.setTop (F0 m pc ls rest)) U := by
    refine st1 _ ?_
    refine zt_dup X1 hexec d3 _ ?_
    exact X1.ldcString hexec o1 o5.1 o5.2 (g := F0 m (pc + 4) ls (.ref T.heap.size :: .ref T.heap.size :: rest)) rfl d4 _ hst
  have hW' : T.WarmedH U.vm := hW
  have hs2 : T.sameButNew ({ U with vm := T.vm } : State) [] 1 6 := by
    obtain ⟨q1, q2, q3, q4, q5, q6⟩ := hsame
    refine ⟨?_, q2, by simpa using q3, q4, by simpa using q5, q6⟩
    have e1 : ({ U with vm := T.vm } : State) = { (T.setFrames (.invoking m args :: below)).setFrames U.frames with heap := U.heap, slotsUsed := U.slotsUsed } := q1
    rw [State.setFrames_setFrames] at e1
    exact e1
  have hz : T.heap.size ≤ U.heap.size := hs2.2.1
  refine ⟨U, hsteps, .threw T.heap.size, hrun, hend, hq U ce hz (fun a ha => zt_same hs2 ha) hce ?_ hO.vm (State.WarmedH.trans X.warmed hW'), locs, ⟨Or.inr ⟨_, rfl⟩, State.WarmedH.trans X.warmed hW', ?_⟩, hf⟩
  · have h7 : T.vm.findClass cls = some ce.cls := hO.cls
    rw [X.warmed.alike.findClass] at h7
    exact h7
  · have h8 := X.same.trans (hs2.setVm s.vm)
    rw [List.append_nil] at h8
    exact h8
end ZT
theorem tt_1 : ((Bundle.ownAtoms "LogDesk" 63 "java/lang/IllegalArgumentException" ["java/lang/RuntimeException", "java/lang/Exception"]).filter (fun w => !(decide (w ∈ lw_tbl)))).length = 2 := by decide +kernel
end
section
/-! the same for an exception whose own constructor passes the text on by another entry of its pool -/
def nAtoms (own : String) (ic : Nat) (X : String) (ix : Nat) (rx : ByteArray) : List Cond :=
  Bundle.throwableAtoms ++ Bundle.throwableSAtoms ++ Bundle.passSAtoms X "java/lang/RuntimeException" ix rx ++ Bundle.chainSAtoms "java/lang/RuntimeException" ["java/lang/Exception"] ++
  [.methodLink own ic (Bundle.initS X), .instantiable X 6, .selects X Bundle.tFill0 Bundle.tFill0, .selects X Bundle.tFill Bundle.tFill,
   .lays X Bundle.tN "cause" "Ljava/lang/Throwable;", .lays X Bundle.tN "stackTrace" Bundle.steD, .lays X Bundle.tN "suppressedExceptions" Bundle.listD, .lays X Bundle.tN "detailMessage" "Ljava/lang/String;",
   .isRef (.static Bundle.tN "UNASSIGNED_STACK" Bundle.steD), .isRef (.static Bundle.tN "SUPPRESSED_SENTINEL" Bundle.listD),
   .fieldLink Bundle.tN 198 Bundle.tN "backtrace" "Ljava/lang/Object;", .lays Bundle.tN Bundle.tN "backtrace" "Ljava/lang/Object;", .lays X Bundle.tN "backtrace" "Ljava/lang/Object;"]
set_option maxHeartbeats 2000000 in
theorem zt_ctorN {p : Program} {l : Launch} {e : Env} {R : Room} {s : State} {m : MethodId} {args : Array Value} {below : List Frame} {meth : Method} {c : Code} {V : State} {cells slots : Nat} (X : Stand p l e R s m args below meth c V [] cells slots) (hexec : p.tables.exec = Jvm.exec) (htr : e.platform.stackTraces = false) {own cls : String} {ic ix : Nat} {rx : ByteArray}
    (x0 : decode rx 0 = .ok (.aload_n 0, 1)) (x1 : decode rx 1 = .ok (.aload_n 1, 1)) (x2 : decode rx 2 = .ok (.invokespecial ix, 3)) (x5 : decode rx 5 = .ok (.return_, 1))
    (hown : s.vm.findClass own = some m.cls) (hcls : Bundle.fit cls = true) (h : ∀ a ∈ nAtoms own ic cls ix rx, a.before args s = true)
    {a : Addr} {cX : ClassId} {kX : Class} (hfoundX : s.vm.findClass cls = some cX) (hkX : s.vm.classes[cX]? = some kX) (hcell : V.heap[a]? = some (freshCell cX kX)) (hnew : s.heap.size ≤ a) {msg : Value} (hmsg : msg.isRef = true)
    {g : JFrame} (hg : g.method = m) (hsize : g.locals.size = c.maxLocals) (hlocked : g.locked = none) (hentered : g.entered = []) {rest : List Value} (hstack : g.stack = msg :: .ref a :: .ref a :: rest)
    (hd6 : decode c.code g.pc = .ok (.invokespecial ic, 3)) (hd9 : decode c.code (g.pc + 3) = .ok (.athrow, 1)) (hout : ∀ x ∈ c.exceptionTable.toList, covers x (g.pc + 3) = false)
    (hRframes : 5 < R.frames) (hRlocals : 2 * g.monitorRoom + ((Value.ref a :: rest).map fun v => v.category).sum + 81 ≤ R.locals) (hlocks : meth.locks = false) :
    ∃ U : State, Steps p.tables e below (V.setTop g) U ∧ U.status = .running ∧ Ended U below (.threw a) ∧ s.WarmedH U.vm ∧ s.sameButNew ({ U with vm := s.vm } : State) [] cells slots ∧
      ∃ ce : Cell, U.heap[a]? = some ce ∧ s.vm.findClass cls = some ce.cls ∧ ce.vm = .none := by
  have howns : e.platform.frameOwnsMonitors = true := by rw [X.admits.platform]
  have hfin : e.platform.finalization = false := by rw [X.admits.platform]
  have hpl : e.platform.magicAccessors = ({} : Platform).magicAccessors := by rw [X.admits.platform]
  have hh : ∀ x, x ∈ nAtoms own ic cls ix rx → x.holds args s none s [] = true := fun x hx => h x hx
  obtain ⟨T, Z0, L, -, Y⟩ := ThrowableC.of_atoms (args := args) howns hfin hpl (fun x hx => h x (by simp [nAtoms, hx]))
  obtain ⟨Z, M, LZ, LM, hnZ⟩ := Init0T.ofS_atoms (args := args) hpl L Y (fun x hx => h x (by simp [nAtoms, hx]))
  obtain ⟨P2, Ps, hlen, L2, hL, hP2m, hlink2, hlink⟩ := Bundle.chainS (args := args) hpl hnZ ["java/lang/Exception"] "java/lang/RuntimeException" (by decide) (by decide) (fun x hx => h x (by simp [nAtoms, hx]))
  obtain ⟨P1, L1, hP1m, hP1s⟩ := PassC.ofS_atoms (args := args) (s := s) hpl (X := cls) (Y := "java/lang/RuntimeException") (index := ix) (bytes := rx) (Bundle.fit_spec hcls).1 (by decide) x0 x1 x2 x5 (fun x hx => h x (by simp [nAtoms, hx]))
  have hsup : P1.sup = P2.m := Option.some.inj (hP1s.symm.trans hP2m)
  have hfound : s.vm.findClass cls = some P1.m.cls := findClass_of_methodNamed hP1m
  cases Option.some.inj (hfoundX.symm.trans hfound)
  obtain ⟨c1, kX', hc1, hk, hord, -, -, -⟩ := Cond.instantiable_spec (hh (.instantiable cls 6) (by simp [nAtoms]))
  cases Option.some.inj (hc1.symm.trans hfound)
  cases Option.some.inj (hkX.symm.trans hk)
  have hsel : ∀ (y : MethodName) (my : MethodId), s.methodNamed? y = some my → (y.cls ≠ "java/lang/invoke/MethodHandle" ∧ y.cls ≠ "java/lang/invoke/VarHandle") → (Cond.selects cls y y).holds args s none s [] = true → selectMethod e.platform s.vm P1.m.cls my = .method my := by
    intro y my hy hne hs
    obtain ⟨c2, r2, m2, q1, q2, q3, q4, -⟩ := Cond.selects_spec hs
    cases Option.some.inj (q1.symm.trans hfound)
    cases Option.some.inj (q2.symm.trans (State.methodFound?_of_named hy hne))
    cases Option.some.inj (q3.symm.trans hy)
    rw [Launch.admits_selectMethod X.admits]; exact q4
  have hsel0 := hsel Bundle.tFill0 T.fill0 Y.fill0 (by decide) (hh _ (by simp [nAtoms]))
  have hselF := hsel Bundle.tFill T.fill Y.fill (by decide) (hh _ (by simp [nAtoms]))
  obtain ⟨cellS0, hcS0, hiss⟩ := Y.statics
  obtain ⟨u0, hu0⟩ := Cond.staticRefV Y.unassigned L.unassignedStatic L.statics hcS0 hiss (hh (.isRef (.static Bundle.tN "UNASSIGNED_STACK" Bundle.steD)) (by simp [nAtoms]))
  obtain ⟨sen, hsen⟩ := Cond.staticRefV Y.sentinel L.sentinelStatic L.statics hcS0 hiss (hh (.isRef (.static Bundle.tN "SUPPRESSED_SENTINEL" Bundle.listD)) (by simp [nAtoms]))
  obtain ⟨ci198, i198, fB, hk198, hg198, ha198, hsB, -, hnB, htB, hffB⟩ := Cond.ownField (t := .object "java/lang/Object") Y.found L.cls (by decide +kernel) (hh (.fieldLink Bundle.tN 198 Bundle.tN "backtrace" "Ljava/lang/Object;") (by simp [nAtoms])) (hh (.lays Bundle.tN Bundle.tN "backtrace" "Ljava/lang/Object;") (by simp [nAtoms])) e.platform hpl
  have hltS : T.aS < s.heap.size := (Array.getElem?_eq_some_iff.mp hcS0).1
  have hcellS : V.heap[T.aS]? = some cellS0 := by
    have h0 : (V.setVm s.vm).heap[T.aS]? = s.heap[T.aS]? := zt_same X.same hltS
    rw [← hcS0]; exact h0
  have hknownS : cellS0.vm ≠ .unknown := by
    intro hu; rw [hu] at hiss; cases hiss
  have hneS : T.aS ≠ a := Nat.ne_of_lt (Nat.lt_of_lt_of_le hltS hnew)
  obtain ⟨iM, hffM⟩ := Y.msg
  obtain ⟨tyC, dC, hdC, hdnC⟩ := Cond.laysAt hfound hk Y.cause (hh (.lays cls Bundle.tN "cause" "Ljava/lang/Throwable;") (by simp [nAtoms]))
  obtain ⟨tyS, dS, hdS, hdnS⟩ := Cond.laysAt hfound hk Y.stack (hh (.lays cls Bundle.tN "stackTrace" Bundle.steD) (by simp [nAtoms]))
  obtain ⟨tyP, dP, hdP, hdnP⟩ := Cond.laysAt hfound hk Y.supp (hh (.lays cls Bundle.tN "suppressedExceptions" Bundle.listD) (by simp [nAtoms]))
  obtain ⟨tyM, dM, hdM, hdnM⟩ := Cond.laysAt hfound hk hffM (hh (.lays cls Bundle.tN "detailMessage" "Ljava/lang/String;") (by simp [nAtoms]))
  obtain ⟨tyB, dB, hdB, hdnB⟩ := Cond.laysAt hfound hk hffB (hh (.lays cls Bundle.tN "backtrace" "Ljava/lang/Object;") (by simp [nAtoms]))
  have bC := Cond.laysApart hdB hdC hdnB hdnC (by rw [hnB, Y.causeName]; decide)
  have bS := Cond.laysApart hdB hdS hdnB hdnS (by rw [hnB, Y.stackName]; decide)
  have bP := Cond.laysApart hdB hdP hdnB hdnP (by rw [hnB, Y.suppName]; decide)
  have hskip : SkipFacts T e.platform s (fun u => u) u0 ((preparedCellV T.toThrowableT (freshCell P1.m.cls kX) a u0 sen).withEntry V.cur) :=
    ⟨{ ci198 := ci198, i198 := i198, fBack := fB }, ⟨hk198, hg198, ha198, hsB⟩, by
      have := fresh_default (c := P1.m.cls) tyB
      rw [htB] at this
      simpa [preparedCellV, Cell.setSlot, Cell.withEntry, Array.getElem?_setIfInBounds, bC, bS, bP, bC.symm, bS.symm, bP.symm, defaultValue] using this, fun _ _ => rfl⟩
  obtain ⟨tm, methC, cdC, kC, vm₁, hnC, -, -, -, -, -, -, -, hW₁, st1⟩ := Steps.initColdS (tb := p.tables) (e := e) (below := below) (s := s) (U := V) X.here hexec X.warmed hpl hown (t := Bundle.initS cls) rfl rfl (Bundle.fit_spec hcls).2
    (hh (.methodLink own ic (Bundle.initS cls)) (by simp [nAtoms])) (h (.instanceMethod (Bundle.initS cls)) (by simp [nAtoms, Bundle.passSAtoms])) (bytes := rx) (maxL := 2) (h (.code (Bundle.initS cls) rx 2 none) (by simp [nAtoms, Bundle.passSAtoms]))
    (f := g) hg (a := a) (msg := msg) (rest := .ref a :: rest) hstack hd6
  cases Option.some.inj (hnC.symm.trans hP1m)
  have X₁ := X.noted hW₁
  obtain ⟨vm₂, X₂, st2⟩ := X₁.ctorMessageOffV hexec (g := { g with stack := .ref a :: rest }) hg hsize T L Z LZ M LM (P1 :: P2 :: Ps)
    (fun P hP => by
      rcases List.mem_cons.mp hP with rfl | hP
      · exact L1
      · rcases List.mem_cons.mp hP with rfl | hP
        · exact L2
        · exact hL P hP) ⟨hsup, hlink2, hlink⟩ (u0 := u0) (sen := sen) (self := a) hmsg (cell := freshCell P1.m.cls kX) (cellS := cellS0)
    hcell (fun _ => by simp) (by simp) rfl rfl hsel0 hselF hcellS hneS hknownS hu0 hsen
    (Takes.of_laid hk hord tyC (by rw [Y.causeType]; rfl)) (Takes.of_laid hk hord tyS (by rw [Y.stackType]; exact fits_refV_array _ u0)) (Takes.of_laid hk hord tyP (by rw [Y.suppType]; exact fits_refV_object _ sen))
    (Takes.of_laid hk hord tyM (by rw [Y.msgType]; exact fits_refV_object _ ⟨msg, hmsg⟩)) Y.objLocals hskip htr [] hd6
    (by simp only [List.length_cons, hlen, List.length_nil]; omega) (by simp only [List.length_cons, hlen, List.length_nil]; exact hRlocals)
  obtain ⟨hwalk, hrun, hended, hWU, hsame⟩ := X₂.athrowLeaves hexec (g := { g with stack := .ref a :: rest, pc := g.pc + 3 }) hg hlocked hentered hout (a := a) (rest := rest) rfl hd9
  have hlt : a < ((V.setVm vm₁).setVm vm₂).heap.size := (Array.getElem?_eq_some_iff.mp hcell).1
  have hU := heapAt_setCell_self (s := (V.setVm vm₁).setVm vm₂) (plainBareV T.toThrowableT (freshCell P1.m.cls kX) a u0 sen msg) hlt
  refine ⟨_, st1 _ (fun acts => ?_), hrun, hended, hWU, hsame.weaken (fun y hy hlt' => ?_) (Nat.le_refl _) (Nat.le_refl _), _, hU, hfound, rfl⟩
  · rw [doInvoke_state]
    exact st2 _ hwalk
  · exfalso
    have hb : y.base = a := by
      simp only [List.nil_append, List.mem_cons, List.not_mem_nil, or_false] at hy
      rcases hy with rfl | rfl | rfl | rfl | rfl <;> rfl
    rw [hb] at hlt'
    exact Nat.not_lt.mpr hnew hlt'
end
section
/-! what a throw needs of the start: Throwable's two statics, what can be cast, the texts -/
def thW : List Cond := [.isRef (.static "java/lang/Throwable" "UNASSIGNED_STACK" "[Ljava/lang/StackTraceElement;"), .isRef (.static "java/lang/Throwable" "SUPPRESSED_SENTINEL" "Ljava/util/List;"), .laysStatic "java/lang/Throwable" "UNASSIGNED_STACK" "[Ljava/lang/StackTraceElement;", .laysStatic "java/lang/Throwable" "SUPPRESSED_SENTINEL" "Ljava/util/List;", .declares ⟨"java/lang/RuntimeException", "<init>", "(Ljava/lang/String;)V"⟩, .declares ⟨"java/lang/Exception", "<init>", "(Ljava/lang/String;)V"⟩, .declares ⟨"java/lang/Throwable", "<init>", "(Ljava/lang/String;)V"⟩, .castable "java/lang/IllegalArgumentException" "java/lang/IllegalArgumentException", .castable "java/lang/IllegalStateException" "java/lang/IllegalStateException", .castable "java/lang/UnsupportedOperationException" "java/lang/UnsupportedOperationException", .castable "java/util/NoSuchElementException" "java/util/NoSuchElementException", .stringRef "LogDesk" 61 "the kind is not 1 .. 14", .stringRef "LogDesk" 75 "the log is full", .stringRef "LogDesk" 96 "there is no such session", .stringRef "LogDesk" 101 "the session waits", .stringRef "LogDesk" 105 "the place is not in the log", .stringRef "LogDesk" 122 "the power went", .stringRef "LogDesk" 145 "the log can't begin there", .stringRef "LogDesk" 158 "there is no other record", .stringRef "LogDesk" 165 "the charge is not 0 .. 999"]
def TH (ws : va_W) (U : State) : Prop := ∃ s0 : State, s0.WarmedH U.vm ∧ s0.heap.size ≤ U.heap.size ∧ (∀ a : Nat, a < s0.heap.size → U.heap[a]? = s0.heap[a]?) ∧ (∀ (k : Nat) (q : Nat × va_E), ws[k]? = some q → s0.heap.size ≤ q.1) ∧ ∀ w ∈ thW, w.before #[] s0 = true
theorem th_lays {s0 U : State} {O f d : String} {a a' : Array Value} (hW : s0.WarmedH U.vm) (hh : ∀ a : Nat, a < s0.heap.size → U.heap[a]? = s0.heap[a]?) (h : (Cond.laysStatic O f d).before a s0 = true) : (Cond.laysStatic O f d).before a' U = true := by
  obtain ⟨c, k, i, fd, ad, cell, hc, hi, hst, ha, hcell, hs, hcls, hlt, hty⟩ := Cond.laysStatic_spec h
  obtain ⟨k', hi', hek⟩ := State.fieldFound?_setVm hW.alike hi
  have hlt2 : ad < s0.heap.size := (Array.getElem?_eq_some_iff.mp hcell).1
  exact Cond.laysStatic_of (s := U) (by rw [hW.alike.findClass]; exact hc) hi' hst (by rw [hek]; exact ha) (by rw [hh _ hlt2]; exact hcell) hs hcls hlt (by rw [hek]; exact hty)
theorem th_isref {s0 U : State} {O f d : String} {a a' : Array Value} (hW : s0.WarmedH U.vm) (hh : ∀ a : Nat, a < s0.heap.size → U.heap[a]? = s0.heap[a]?) (h : (Cond.laysStatic O f d).before a s0 = true) (h2 : (Cond.isRef (.static O f d)).before a s0 = true) : (Cond.isRef (.static O f d)).before a' U = true := by
  obtain ⟨c, k, i, fd, ad, cell, hc, hi, hst, ha, hcell, hs, hcls, hlt, hty⟩ := Cond.laysStatic_spec h
  obtain ⟨k', hi', hek⟩ := State.fieldFound?_setVm hW.alike hi
  have hi2 : U.fieldFound? O f d = some (c, k', i, fd) := hi'
  have hlt2 : ad < s0.heap.size := (Array.getElem?_eq_some_iff.mp hcell).1
  have hcU : U.heap[ad]? = some cell := by rw [hh _ hlt2]; exact hcell
  have haU : k'.statics = some ad := by rw [hek]; exact ha
  have e1 : (Term.static O f d).eval a s0 none [] s0 = cell.slots[fd.slot]? := by simp [Term.eval, State.fieldNamed?, hi, hst, ha, hcell, hs]
  have e2 : (Term.static O f d).eval a' U none [] U = cell.slots[fd.slot]? := by simp [Term.eval, State.fieldNamed?, hi2, hst, haU, hcU, hs]
  simp only [Cond.before, Cond.holds, Cond.value, e1] at h2
  simp only [Cond.before, Cond.holds, Cond.value, e2]
  exact h2
theorem th_cast {s0 U : State} {C D : String} {a a' : Array Value} (hW : s0.WarmedH U.vm) (h : (Cond.castable C D).before a s0 = true) : (Cond.castable C D).before a' U = true := by
  exact va_Nw.use rfl (va_Nw.warmC hW (va_Nw.of rfl h))
theorem th_decl {s0 U : State} {x : MethodName} {a a' : Array Value} (hW : s0.WarmedH U.vm) (h : (Cond.declares x).before a s0 = true) : (Cond.declares x).before a' U = true := va_Nw.use rfl (va_Nw.warmD hW (va_Nw.of rfl h))
theorem th_at {s0 U : State} (hW : s0.WarmedH U.vm) (hh : ∀ a : Nat, a < s0.heap.size → U.heap[a]? = s0.heap[a]?) (h : ∀ w ∈ thW, w.before #[] s0 = true) (a' : Array Value) : ∀ w ∈ thW.take 11, w.before a' U = true := by
  have h1 := h (.laysStatic "java/lang/Throwable" "UNASSIGNED_STACK" "[Ljava/lang/StackTraceElement;") (by simp [thW])
  have h2 := h (.laysStatic "java/lang/Throwable" "SUPPRESSED_SENTINEL" "Ljava/util/List;") (by simp [thW])
  have h3 := h (.isRef (.static "java/lang/Throwable" "UNASSIGNED_STACK" "[Ljava/lang/StackTraceElement;")) (by simp [thW])
  have h4 := h (.isRef (.static "java/lang/Throwable" "SUPPRESSED_SENTINEL" "Ljava/util/List;")) (by simp [thW])
  intro w hw
  have hw0 := h w (List.mem_of_mem_take hw)
  simp only [thW, List.take_succ_cons, List.take_zero, List.mem_cons, List.not_mem_nil, or_false] at hw
  rcases hw with rfl | rfl | rfl | rfl | rfl | rfl | rfl | rfl | rfl | rfl | rfl
  · exact th_isref hW hh h1 h3
  · exact th_isref hW hh h2 h4
  · exact th_lays hW hh h1
  · exact th_lays hW hh h2
  · exact th_decl hW hw0
  · exact th_decl hW hw0
  · exact th_decl hW hw0
  all_goals exact th_cast hW hw0
theorem th_str {s0 U : State} {own tx : String} {k : Nat} (hW : s0.WarmedH U.vm) (h : (Cond.stringRef own k tx).before #[] s0 = true) (hc : ∃ c, s0.vm.findClass own = some c) : ∃ q, vk_R own k tx q s0 := by
  obtain ⟨cur, hcur⟩ := hc
  obtain ⟨k', cf, i, a', hk, hcf, hcp, -, hr, hev'⟩ := Cond.stringRef_spec hcur h
  exact ⟨a', h, hev'⟩
section ZTH
variable {p : Program} {l : Launch} {e : Env} {R : Room} {s : State} {m : MethodId} {args : Array Value} {below : List Frame} {meth : Method} {c : Code} {H : Heap} {locs : List Loc} {A : Nat → Prop} {ws : va_W}
theorem th_hw (hown : s.vm.findClass "LogDesk" = some m.cls) (htg : ∀ w ∈ gw, w.before args s = true) (hT : TH ws s) (hAe : va_A ws s.heap.size = A) (hS : va_S A s.heap H locs) {cls text : String} {i0 i1 i2 : Nat} (k0 : Cond.classLink "LogDesk" i0 cls ∈ gw) (k1 : Cond.instantiable cls 6 ∈ gw) (k2 : Cond.initialized cls ∈ gw) (k3 : Cond.stringRef "LogDesk" i1 text ∈ thW) (k4 : ∀ a ∈ Bundle.ownAtoms "LogDesk" i2 cls ["java/lang/RuntimeException", "java/lang/Exception"], a ∈ gw ∨ a ∈ thW.take 11) :
    ∃ q, ∀ U : State, U.heap = H → s.WarmedH U.vm → U.vm.findClass "LogDesk" = some m.cls ∧ (Cond.classLink "LogDesk" i0 cls).before args U = true ∧ (Cond.instantiable cls 6).before args U = true ∧ (Cond.initialized cls).before args U = true ∧ vk_R "LogDesk" i1 text q U ∧ ∀ a ∈ Bundle.ownAtoms "LogDesk" i2 cls ["java/lang/RuntimeException", "java/lang/Exception"], a.before args U = true := by
  obtain ⟨s0, h1, h2, h3, h4, h5⟩ := hT
  obtain ⟨q, hq⟩ := th_str h1 (h5 _ k3) ⟨m.cls, by rw [← h1.alike.findClass]; exact hown⟩
  refine ⟨q, fun U hU hW => ?_⟩
  have hW0 : s0.WarmedH U.vm := State.WarmedH.trans h1 hW
  have hh : ∀ a : Nat, a < s0.heap.size → U.heap[a]? = s0.heap[a]? := by
    intro a ha
    rw [hU, hS.2.1 a (by omega), h3 a ha]
    rw [← hAe]
    rintro (⟨k, e, hk⟩ | hk)
    · have := h4 k _ hk
      omega
    · omega
  have pay := pay_in (ws := gw) htg (fun w hw => ⟨hw, gw_good hw⟩)
  refine ⟨by rw [hW.alike.findClass]; exact hown, pay _ k0 _ _ hW, pay _ k1 _ _ hW, pay _ k2 _ _ hW, hq.warm hW0, fun a ha => ?_⟩
  rcases k4 a ha with h | h
  · exact pay _ h _ _ hW
  · exact th_at hW0 hh h5 args a h
end ZTH
end
section
def zPcT (D : va_G) (tys : List (ClassId × FieldType)) (av : List Value) (ws : va_W) (sz : Nat) : Array Value → State → Prop :=
  va_Pc av (fun U => (U.heap.size = sz ∧ va_P D vwCl ws U.heap ∧ va_K D vwCl tys U ∧ va_D (fun _ => True) ws ∧ NZ U) ∧ TH ws U)
theorem zPcT_blind {D : va_G} {tys : List (ClassId × FieldType)} {av : List Value} {ws : va_W} {sz : Nat} : FrameBlind (zPcT D tys av ws sz) := fun a U g mk q => by
  obtain ⟨q0, ⟨q1, qP, qK, qD, qZ⟩, s0, h1, h2, h3, h4, h5⟩ := q
  exact ⟨q0, ⟨q1, qP, va_K.moved (u := U) (U := U.calling g mk a) (Vm.Alike.refl U.vm) qK, qD, NZ.same (u := U) (U := U.calling g mk a) rfl qZ⟩, s0, h1, h2, h3, h4, h5⟩
def ThrewC (c : String) (oc : Outcome) (t : State) : Prop := ∃ (x : Nat) (ce : Cell), oc = .threw x ∧ t.heap[x]? = some ce ∧ t.vm.findClass c = some ce.cls ∧ ce.vm = .none
def zQT {S : Type} (D : va_G) (tys : List (ClassId × FieldType)) (A : Nat → Prop) (c1 c2 : String) (kc : Int) (rv : Option Value) (Φ : S → Prop) (w : S → va_W) : Array Value → State → Outcome → State → Prop := fun _ st oc t =>
  (∃ u : S, Φ u ∧ zBx D tys A w u t ∧ ((kc = 0 ∧ oc = .returned rv) ∨ (kc = 1 ∧ ThrewC c1 oc t) ∨ (kc = 2 ∧ ThrewC c2 oc t))) ∧ va_F A st t
theorem zt_q {S : Type} {s : State} {args : Array Value} {D : va_G} {tys : List (ClassId × FieldType)} {A : Nat → Prop} {c1 c2 cls : String} {kc : Int} {rv : Option Value} {Φ : S → Prop} {w : S → va_W} {H : Heap} {locs : List Loc} (u : S) (hP : va_P D vwCl (w u) H) (hD : va_D A (w u)) (hK : va_K D vwCl tys s) (hS : va_S A s.heap H locs) (hΦ : Φ u) (hk : (kc = 1 ∧ cls = c1) ∨ (kc = 2 ∧ cls = c2)) :
    ∀ (t : State) (ce : Cell), H.size ≤ t.heap.size → (∀ a : Nat, a < H.size → t.heap[a]? = H[a]?) → t.heap[H.size]? = some ce → s.vm.findClass cls = some ce.cls → ce.vm = .none → s.WarmedH t.vm → zQT D tys A c1 c2 kc rv Φ w args s (.threw H.size) t := by
  intro t ce h1 h2 h3 h4 h5 h6
  refine ⟨⟨u, hΦ, ⟨hP.kept (fun k q hq => h2 q.1 (hP k q hq).lt), va_K.moved h6.alike hK, hD⟩, ?_⟩, ?_⟩
  · have hT : ThrewC cls (.threw H.size) t := ⟨H.size, ce, rfl, h3, by rw [h6.alike.findClass]; exact h4, h5⟩
    rcases hk with ⟨k1, rfl⟩ | ⟨k1, rfl⟩
    · exact Or.inr (Or.inl ⟨k1, hT⟩)
    · exact Or.inr (Or.inr ⟨k1, hT⟩)
  · exact ⟨Nat.le_trans hS.1 h1, fun q hq hA => by rw [h2 q (Nat.lt_of_lt_of_le hq hS.1)]; exact hS.2.1 q hq hA⟩
theorem own_63 : ∀ a ∈ Bundle.ownAtoms "LogDesk" 63 "java/lang/IllegalArgumentException" ["java/lang/RuntimeException", "java/lang/Exception"], a ∈ gw ∨ a ∈ thW.take 11 := by decide +kernel
theorem own_77 : ∀ a ∈ Bundle.ownAtoms "LogDesk" 77 "java/lang/IllegalStateException" ["java/lang/RuntimeException", "java/lang/Exception"], a ∈ gw ∨ a ∈ thW.take 11 := by decide +kernel
theorem own_124 : ∀ a ∈ Bundle.ownAtoms "LogDesk" 124 "java/lang/UnsupportedOperationException" ["java/lang/RuntimeException", "java/lang/Exception"], a ∈ gw ∨ a ∈ thW.take 11 := by decide +kernel
theorem aW_succ (al : Nat → Bool) (x : Int) {i : Int} (h : 0 ≤ i) : aW al x (i + 1).toNat = aP (aW al x i.toNat) (x + i) := by
  rw [show (i + 1).toNat = i.toNat + 1 by omega]
  show aP (aW al x i.toNat) (x + ((i.toNat : Nat) : Int)) = _
  rw [Int.toNat_of_nonneg h]
theorem uW_succ (u : Nat → Int) (x : Int) (f : Nat → Int) {i : Int} (h : 0 ≤ i) : uW u x f (i + 1).toNat = uP (uW u x f i.toNat) (x + i) (f i.toNat) := by
  rw [show (i + 1).toNat = i.toNat + 1 by omega]
  show uP (uW u x f i.toNat) (x + ((i.toNat : Nat) : Int)) (f i.toNat) = _
  rw [Int.toNat_of_nonneg h]
theorem aW_le (al : Nat → Bool) (x : Int) {m n : Nat} (h : m ≤ n) : cal (aW al x m) 32 ≤ cal (aW al x n) 32 := by
  induction n with
  | zero => rw [show m = 0 by omega]; exact Nat.le_refl _
  | succ n ih =>
    by_cases e : m = n + 1
    · subst e; exact Nat.le_refl _
    · exact Nat.le_trans (ih (by omega)) (aP_mono _ _)
theorem own_160 : ∀ a ∈ nAtoms "LogDesk" 160 "java/util/NoSuchElementException" 13 prog_19_method_4_code, a ∈ gw ∨ a ∈ thW.take 11 := by decide +kernel
end
section
section ZTN
variable {p : Program} {l : Launch} {e : Env} {R : Room} {s : State} {m : MethodId} {args : Array Value} {below : List Frame} {meth : Method} {c : Code} {H : Heap} {locs : List Loc} {cells slots : Nat} {Q : State → Prop} {T : State}
/-- new X; dup; ldc text; X.<init>(String); athrow: the object is thrown; nothing that was there has changed -/
theorem zt_throwN {cc : ByteArray} {pc : Nat} {ls : Array Slot} {rest : List Value} {Qc : Array Value → State → Outcome → State → Prop} {free : Addr → Prop} (hexec : p.tables.exec = Jvm.exec) (hb : c.code = cc) (hne : c.exceptionTable.isEmpty = true) (hlocks : meth.locks = false) (hfl : l.flags = flags0) {own cls text : String} {i0 i1 i2 q ix : Nat} {rx : ByteArray} (x0 : decode rx 0 = .ok (.aload_n 0, 1)) (x1 : decode rx 1 = .ok (.aload_n 1, 1)) (x2 : decode rx 2 = .ok (.invokespecial ix, 3)) (x5 : decode rx 5 = .ok (.return_, 1)) (hfit : Bundle.fit cls = true)
    (hw : ∀ U : State, U.heap = H → s.WarmedH U.vm → U.vm.findClass own = some m.cls ∧ (Cond.classLink own i0 cls).before args U = true ∧ (Cond.instantiable cls 6).before args U = true ∧ (Cond.initialized cls).before args U = true ∧ vk_R own i1 text q U ∧ ∀ a ∈ nAtoms own i2 cls ix rx, a.before args U = true)
    (d0 : decode cc pc = .ok (.new i0, 3)) (d3 : decode cc (pc + 3) = .ok (.dup, 1)) (d4 : decode cc (pc + 4) = .ok (.ldc i1, 2)) (d6 : decode cc (pc + 6) = .ok (.invokespecial i2, 3)) (d9 : decode cc (pc + 9) = .ok (.athrow, 1)) (hsize : ls.size = c.maxLocals)
    (hRf : 5 < R.frames) (hRl : (rest.map fun v => v.category).sum + 82 ≤ R.locals) (hc : cells + 1 ≤ R.cells) (hs : slots + 6 ≤ R.slots)
    (hq : ∀ (t : State) (ce : Cell), H.size ≤ t.heap.size → (∀ a, a < H.size → t.heap[a]? = H[a]?) → t.heap[H.size]? = some ce → s.vm.findClass cls = some ce.cls → ce.vm = .none → s.WarmedH t.vm → Qc args s (.threw H.size) t)
    (hf : ∀ q ∈ locs, free q.base) : W p l e R s m args below meth c H locs cells slots (MQT below Qc args s (cells + 1) (slots + 6) free) (F0 m pc ls rest) := by
  intro T hT X
  subst hT; subst hb
  have X0 := zt_rebase X (by omega) (by omega)
  obtain ⟨o1, o2, o3, o4, o5, o6⟩ := hw (T.setFrames (.invoking m args :: below)) rfl X.warmed
  obtain ⟨vm', cC, kC, h1, h2, h3, h4, X1, st1⟩ := X0.newCold hexec o1 o2 o3 o4 (g := F0 m pc ls rest) rfl d0 (by show 0 + 1 ≤ R.cells - cells; omega) (by show 0 + 6 ≤ R.slots - slots; omega)
  have hcell : ((T.setVm vm').pushCell { cls := cC, slots := kC.instanceTypes.map defaultValue, vm := .none }).heap[T.heap.size]? = some (freshCell cC kC) := State.heap_pushCell_size _ _
  obtain ⟨U, hst, hrun, hend, hW, hsame, ce, hce, hOc, hOv⟩ := zt_ctorN X1 hexec (Launch.traces_off hfl X.admits) x0 x1 x2 x5 o1 hfit o6
    h1 h2 hcell (Nat.le_refl _) (msg := .ref q) rfl (g := F0 m (pc + 6) ls (.ref q :: .ref T.heap.size :: .ref T.heap.size :: rest)) rfl hsize rfl rfl rfl d6 d9 (by intro x hx; rw [Array.isEmpty_iff] at hne; rw [hne] at hx; cases hx)
    (by show 5 < R.frames; omega) (by show 2 * 0 + (1 + (rest.map fun v => v.category).sum) + 81 ≤ R.locals; omega) hlocks
  have hsteps : Steps p.tables e below (T.setTop (F0 m pc ls rest)) U := by
    refine st1 _ ?_
    refine zt_dup X1 hexec d3 _ ?_
    exact X1.ldcString hexec o1 o5.1 o5.2 (g := F0 m (pc + 4) ls (.ref T.heap.size :: .ref T.heap.size :: rest)) rfl d4 _ hst
  have hW' : T.WarmedH U.vm := hW
  have hs2 : T.sameButNew ({ U with vm := T.vm } : State) [] 1 6 := by
    obtain ⟨q1, q2, q3, q4, q5, q6⟩ := hsame
    refine ⟨?_, q2, by simpa using q3, q4, by simpa using q5, q6⟩
    have e1 : ({ U with vm := T.vm } : State) = { (T.setFrames (.invoking m args :: below)).setFrames U.frames with heap := U.heap, slotsUsed := U.slotsUsed } := q1
    rw [State.setFrames_setFrames] at e1
    exact e1
  have hz : T.heap.size ≤ U.heap.size := hs2.2.1
  refine ⟨U, hsteps, .threw T.heap.size, hrun, hend, hq U ce hz (fun a ha => zt_same hs2 ha) hce ?_ hOv (State.WarmedH.trans X.warmed hW'), locs, ⟨Or.inr ⟨_, rfl⟩, State.WarmedH.trans X.warmed hW', ?_⟩, hf⟩
  · have h7 : T.vm.findClass cls = some ce.cls := hOc
    rw [X.warmed.alike.findClass] at h7
    exact h7
  · have h8 := X.same.trans (hs2.setVm s.vm)
    rw [List.append_nil] at h8
    exact h8
end ZTN
section ZTHN
variable {p : Program} {l : Launch} {e : Env} {R : Room} {s : State} {m : MethodId} {args : Array Value} {below : List Frame} {meth : Method} {c : Code} {H : Heap} {locs : List Loc} {A : Nat → Prop} {ws : va_W}
theorem th_hwN (hown : s.vm.findClass "LogDesk" = some m.cls) (htg : ∀ w ∈ gw, w.before args s = true) (hT : TH ws s) (hAe : va_A ws s.heap.size = A) (hS : va_S A s.heap H locs) {cls text : String} {i0 i1 i2 ix : Nat} {rx : ByteArray} (k0 : Cond.classLink "LogDesk" i0 cls ∈ gw) (k1 : Cond.instantiable cls 6 ∈ gw) (k2 : Cond.initialized cls ∈ gw) (k3 : Cond.stringRef "LogDesk" i1 text ∈ thW) (k4 : ∀ a ∈ nAtoms "LogDesk" i2 cls ix rx, a ∈ gw ∨ a ∈ thW.take 11) :
    ∃ q, ∀ U : State, U.heap = H → s.WarmedH U.vm → U.vm.findClass "LogDesk" = some m.cls ∧ (Cond.classLink "LogDesk" i0 cls).before args U = true ∧ (Cond.instantiable cls 6).before args U = true ∧ (Cond.initialized cls).before args U = true ∧ vk_R "LogDesk" i1 text q U ∧ ∀ a ∈ nAtoms "LogDesk" i2 cls ix rx, a.before args U = true := by
  obtain ⟨s0, h1, h2, h3, h4, h5⟩ := hT
  obtain ⟨q, hq⟩ := th_str h1 (h5 _ k3) ⟨m.cls, by rw [← h1.alike.findClass]; exact hown⟩
  refine ⟨q, fun U hU hW => ?_⟩
  have hW0 : s0.WarmedH U.vm := State.WarmedH.trans h1 hW
  have hh : ∀ a : Nat, a < s0.heap.size → U.heap[a]? = s0.heap[a]? := by
    intro a ha
    rw [hU, hS.2.1 a (by omega), h3 a ha]
    rw [← hAe]
    rintro (⟨k, e, hk⟩ | hk)
    · have := h4 k _ hk
      omega
    · omega
  have pay := pay_in (ws := gw) htg (fun w hw => ⟨hw, gw_good hw⟩)
  refine ⟨by rw [hW.alike.findClass]; exact hown, pay _ k0 _ _ hW, pay _ k1 _ _ hW, pay _ k2 _ _ hW, hq.warm hW0, fun a ha => ?_⟩
  rcases k4 a ha with h | h
  · exact pay _ h _ _ hW
  · exact th_at hW0 hh h5 args a h
end ZTHN
end
section
set_option maxHeartbeats 4000000 in
set_option maxRecDepth 100000 in
/-- charge -/
theorem c_De_charge (l : Launch) (dC : Nat → ClassId) (dI : Nat → Nat → Nat) (cB : ClassId) (cI : ClassId) (cJ : ClassId) (cZ : ClassId) (cQ : ClassId) (d0 r0 a0 w0 p0 i0 : Nat) (sz : Nat) (hfl : l.flags = flags0) (N : Int) (bg : Int) (en : Int) (fl : Int) (rs : Int) (wr : Int) (lf : Int) (x : Int) (hx0 : iB x) : MetT l y_De_charge ((Cond.code y_De_charge prog_1_method_15_code 2 none) :: gw) ({ frames := 6, cells := (0 + 1), slots := (0 + 6), locals := 90 } : Room) (zPcT (dC, dI) [(cB, .byte), (cI, .int), (cJ, .long), (cZ, .boolean), (cQ, .object "LogDesk$Block")] [.ref d0, .int (iZ x)] [(d0, .inr (6, [.int (iZ N), .ref r0, .ref a0, .ref w0, .ref p0, .ref i0, .int (iZ bg), .int (iZ en), .int (iZ fl), .int (iZ rs)])), (i0, .inr (1, [.int (iZ wr), .int (iZ lf)]))] sz) (zQT (dC, dI) [(cB, .byte), (cI, .int), (cJ, .long), (cZ, .boolean), (cQ, .object "LogDesk$Block")] (va_A [(d0, .inr (6, [.int (iZ N), .ref r0, .ref a0, .ref w0, .ref p0, .ref i0, .int (iZ bg), .int (iZ en), .int (iZ fl), .int (iZ rs)])), (i0, .inr (1, [.int (iZ wr), .int (iZ lf)]))] sz) "java/lang/IllegalArgumentException" "java/lang/IllegalArgumentException-" (if 0 ≤ x ∧ x ≤ 999 then 0 else 1) none (fun (q : Unit) => True) (fun (q : Unit) => [(d0, .inr (6, [.int (iZ N), .ref r0, .ref a0, .ref w0, .ref p0, .ref i0, .int (iZ bg), .int (iZ en), .int (iZ fl), .int (iZ rs)])), (i0, .inr (1, [.int (iZ wr), .int (iZ (if 0 ≤ x ∧ x ≤ 999 then x else lf))]))])) (0 + 1) (0 + 6) (va_A [(d0, .inr (6, [.int (iZ N), .ref r0, .ref a0, .ref w0, .ref p0, .ref i0, .int (iZ bg), .int (iZ en), .int (iZ fl), .int (iZ rs)])), (i0, .inr (1, [.int (iZ wr), .int (iZ lf)]))] sz) := by
  refine MetT.ofW (cc := prog_1_method_15_code) (maxL := 2) (ret := none) (by decide) rfl ?_
  intro p e s m args below meth c s₁ B hml hne hv
  obtain ⟨rfl, ⟨hsz, hP, hK, hD0, hZ⟩, hTH⟩ := hv
  have hx := B.exec
  have hb := B.bytes
  have hr := B.returns
  have hts := atoms_spec (ws := (Cond.code y_De_charge prog_1_method_15_code 2 none) :: gw) B.pre
  have htg : ∀ w ∈ gw, w.before _ s = true := fun w h => hts w (List.mem_cons_of_mem _ h)
  have hown : s.vm.findClass "LogDesk" = some m.cls := findClass_of_methodNamed B.named
  have hlocks := B.notSynchronized
  subst hsz
  have hD := hD0.self (sz := s.heap.size)
  generalize hAe : va_A [(d0, .inr (6, [.int (iZ N), .ref r0, .ref a0, .ref w0, .ref p0, .ref i0, .int (iZ bg), .int (iZ en), .int (iZ fl), .int (iZ rs)])), (i0, .inr (1, [.int (iZ wr), .int (iZ lf)]))] s.heap.size = A at hD ⊢
  have hRc : (headSpec ((Cond.code y_De_charge prog_1_method_15_code 2 none) :: gw) ({ frames := 6, cells := (0 + 1), slots := (0 + 6), locals := 90 } : Room)).room.cells = (0 + 1) := rfl
  have hRs : (headSpec ((Cond.code y_De_charge prog_1_method_15_code 2 none) :: gw) ({ frames := 6, cells := (0 + 1), slots := (0 + 6), locals := 90 } : Room)).room.slots = (0 + 6) := rfl
  have hA : ∀ q : Nat, s.heap.size ≤ q → A q := fun q h => by rw [← hAe]; exact Or.inr h
  have hS : va_S A s.heap s.heap [] := va_S.rf
  have hP : va_P (dC, dI) vwCl [(d0, .inr (6, [.int (iZ N), .ref r0, .ref a0, .ref w0, .ref p0, .ref i0, .int (iZ bg), .int (iZ en), .int (iZ fl), .int (iZ rs)])), (i0, .inr (1, [.int (iZ wr), .int (iZ lf)]))] s.heap := hP
  have hl := lv_entry ([.ref d0, .int (iZ x)]) (n := 2) (Nat.le_of_ble_eq_true rfl)
  rw [lg_entry_eq]
  generalize (lg_sl ([.ref d0, .int (iZ x)]) ++ List.replicate (2 - (lg_sl ([.ref d0, .int (iZ x)])).length) Slot.unset).toArray = ls at hl ⊢
  have hl : lv_has ls 2 [(0, .ref d0), (1, .int (iZ x))] := hl
  obtain ⟨hx1, hx2⟩ := hx0
  refine lv_iload_n hx hb d_De_charge_0 rfl (lv_at hl 1 rfl) ?_
  refine zz_if_lt (tgt := 11) hx hb d_De_charge_1 (by decide) ⟨by omega, by omega⟩ (fun c_1 => ?_) (fun c_1 => ?_)
  · have eW : ∀ (x0 y0 : Int), x0 = y0 → ([(d0, .inr (6, [.int (iZ N), .ref r0, .ref a0, .ref w0, .ref p0, .ref i0, .int (iZ bg), .int (iZ en), .int (iZ fl), .int (iZ rs)])), (i0, .inr (1, [.int (iZ wr), .int (iZ x0)]))] : va_W) = [(d0, .inr (6, [.int (iZ N), .ref r0, .ref a0, .ref w0, .ref p0, .ref i0, .int (iZ bg), .int (iZ en), .int (iZ fl), .int (iZ rs)])), (i0, .inr (1, [.int (iZ wr), .int (iZ y0)]))] := by intros; subst_vars; rfl
    have eW := eW lf (if 0 ≤ x ∧ x ≤ 999 then x else lf) (by omega)
    have hP : va_P (dC, dI) vwCl [(d0, .inr (6, [.int (iZ N), .ref r0, .ref a0, .ref w0, .ref p0, .ref i0, .int (iZ bg), .int (iZ en), .int (iZ fl), .int (iZ rs)])), (i0, .inr (1, [.int (iZ wr), .int (iZ (if 0 ≤ x ∧ x ≤ 999 then x else lf))]))] s.heap := eW ▸ hP
    have hD : va_D A [(d0, .inr (6, [.int (iZ N), .ref r0, .ref a0, .ref w0, .ref p0, .ref i0, .int (iZ bg), .int (iZ en), .int (iZ fl), .int (iZ rs)])), (i0, .inr (1, [.int (iZ wr), .int (iZ (if 0 ≤ x ∧ x ≤ 999 then x else lf))]))] := eW ▸ hD
    refine W.widen (k := 0) (n := 0) (by omega) (by omega) ?_
    obtain ⟨qs, hws⟩ := th_hw hown htg hTH hAe hS (i0 := 59) (i2 := 63) k_254 k_255 k_11 (show Cond.stringRef "LogDesk" 165 "the charge is not 0 .. 999" ∈ thW by simp [thW]) own_63
    subst hAe
    exact zt_throw hx hb hne hlocks hfl (by decide) hws d_De_charge_11 d_De_charge_14 d_De_charge_15 d_De_charge_17 d_De_charge_20 (hl.1.trans hml.symm) (Nat.le_of_ble_eq_true rfl) (Nat.le_of_ble_eq_true rfl) (by omega) (by omega) (zt_q () hP hD hK hS trivial (Or.inl ⟨(by omega), rfl⟩)) hS.2.2
  · refine lv_iload_n hx hb d_De_charge_4 rfl (lv_at hl 1 rfl) ?_
    refine lv_sipush (v := iZ 999) hx hb d_De_charge_5 (by decide) ?_
    refine zz_icmp_le (tgt := 21) hx hb d_De_charge_8 (by decide) ⟨by omega, by omega⟩ ⟨by omega, by omega⟩ (fun c_2 => ?_) (fun c_2 => ?_)
    · refine lv_aload_n hx hb d_De_charge_21 rfl (lv_at hl 0 rfl) ?_
      refine va_get (D := (dC, dI)) (ci := 6) (v := .ref i0) (C := "LogDesk") (T := F_De) (N := 10) hx hb htg hin_De hown hK hP 0 rfl rfl 5 (by decide) (htg _ k_95) (fun _ h9 => h9) rfl d_De_charge_22 ?_
      refine lv_iload_n hx hb d_De_charge_25 rfl (lv_at hl 1 rfl) ?_
      refine z_v (wr := [(d0, .inr (6, [.int (iZ N), .ref r0, .ref a0, .ref w0, .ref p0, .ref i0, .int (iZ bg), .int (iZ en), .int (iZ fl), .int (iZ rs)]))]) (va_runV (As := [.int (iZ x)]) (rest := []) ⟨hx, hb, hml, hown, htg⟩ (c_Di_setCharge l dC dI cB cI cJ cZ cQ i0 s.heap.size wr lf x) (cwV 1 htg (gw_V k_464 k_465 k_466 k_6 k_467) rfl rfl rfl (by decide +kernel) ⟨Nat.le_of_ble_eq_true rfl, Nat.le_of_ble_eq_true rfl⟩) (zPreV hK hP hD hZ [1] rfl (by decide) 1 (ci := 1) rfl rfl) rfl rfl hl.1 rfl (lv_room (Nat.le_of_ble_eq_true rfl)) d_De_charge_26 ⟨by omega, by omega⟩) hP hD hS hA [1] [0] rfl rfl (by decide) (by decide) (fun H locs hP hD hS => ?_)
      have hP : va_P (dC, dI) vwCl [(d0, .inr (6, [.int (iZ N), .ref r0, .ref a0, .ref w0, .ref p0, .ref i0, .int (iZ bg), .int (iZ en), .int (iZ fl), .int (iZ rs)])), (i0, .inr (1, [.int (iZ wr), .int (iZ x)]))] H := hP
      have hD : va_D A [(d0, .inr (6, [.int (iZ N), .ref r0, .ref a0, .ref w0, .ref p0, .ref i0, .int (iZ bg), .int (iZ en), .int (iZ fl), .int (iZ rs)])), (i0, .inr (1, [.int (iZ wr), .int (iZ x)]))] := hD
      have eW : ∀ (x0 y0 : Int), x0 = y0 → ([(d0, .inr (6, [.int (iZ N), .ref r0, .ref a0, .ref w0, .ref p0, .ref i0, .int (iZ bg), .int (iZ en), .int (iZ fl), .int (iZ rs)])), (i0, .inr (1, [.int (iZ wr), .int (iZ x0)]))] : va_W) = [(d0, .inr (6, [.int (iZ N), .ref r0, .ref a0, .ref w0, .ref p0, .ref i0, .int (iZ bg), .int (iZ en), .int (iZ fl), .int (iZ rs)])), (i0, .inr (1, [.int (iZ wr), .int (iZ y0)]))] := by intros; subst_vars; rfl
      have eW := eW x (if 0 ≤ x ∧ x ≤ 999 then x else lf) (by omega)
      have hP : va_P (dC, dI) vwCl [(d0, .inr (6, [.int (iZ N), .ref r0, .ref a0, .ref w0, .ref p0, .ref i0, .int (iZ bg), .int (iZ en), .int (iZ fl), .int (iZ rs)])), (i0, .inr (1, [.int (iZ wr), .int (iZ (if 0 ≤ x ∧ x ≤ 999 then x else lf))]))] H := eW ▸ hP
      have hD : va_D A [(d0, .inr (6, [.int (iZ N), .ref r0, .ref a0, .ref w0, .ref p0, .ref i0, .int (iZ bg), .int (iZ en), .int (iZ fl), .int (iZ rs)])), (i0, .inr (1, [.int (iZ wr), .int (iZ (if 0 ≤ x ∧ x ≤ 999 then x else lf))]))] := eW ▸ hD
      refine W.widen (k := (0 + 1)) (n := (0 + 6)) (by omega) (by omega) ?_
      refine W.mono (fun t h => MQT.of h) ?_
      exact W.vret hx hb hr (fun t ht hW => ⟨⟨(), trivial, ⟨by rw [ht]; exact hP, va_K.moved hW.alike hK, hAe ▸ hD⟩, Or.inl ⟨by omega, rfl⟩⟩, hAe ▸ hS.F ht⟩) (hAe ▸ hS.2.2) d_De_charge_29
    · have eW : ∀ (x0 y0 : Int), x0 = y0 → ([(d0, .inr (6, [.int (iZ N), .ref r0, .ref a0, .ref w0, .ref p0, .ref i0, .int (iZ bg), .int (iZ en), .int (iZ fl), .int (iZ rs)])), (i0, .inr (1, [.int (iZ wr), .int (iZ x0)]))] : va_W) = [(d0, .inr (6, [.int (iZ N), .ref r0, .ref a0, .ref w0, .ref p0, .ref i0, .int (iZ bg), .int (iZ en), .int (iZ fl), .int (iZ rs)])), (i0, .inr (1, [.int (iZ wr), .int (iZ y0)]))] := by intros; subst_vars; rfl
      have eW := eW lf (if 0 ≤ x ∧ x ≤ 999 then x else lf) (by omega)
      have hP : va_P (dC, dI) vwCl [(d0, .inr (6, [.int (iZ N), .ref r0, .ref a0, .ref w0, .ref p0, .ref i0, .int (iZ bg), .int (iZ en), .int (iZ fl), .int (iZ rs)])), (i0, .inr (1, [.int (iZ wr), .int (iZ (if 0 ≤ x ∧ x ≤ 999 then x else lf))]))] s.heap := eW ▸ hP
      have hD : va_D A [(d0, .inr (6, [.int (iZ N), .ref r0, .ref a0, .ref w0, .ref p0, .ref i0, .int (iZ bg), .int (iZ en), .int (iZ fl), .int (iZ rs)])), (i0, .inr (1, [.int (iZ wr), .int (iZ (if 0 ≤ x ∧ x ≤ 999 then x else lf))]))] := eW ▸ hD
      refine W.widen (k := 0) (n := 0) (by omega) (by omega) ?_
      obtain ⟨qs, hws⟩ := th_hw hown htg hTH hAe hS (i0 := 59) (i2 := 63) k_254 k_255 k_11 (show Cond.stringRef "LogDesk" 165 "the charge is not 0 .. 999" ∈ thW by simp [thW]) own_63
      subst hAe
      exact zt_throw hx hb hne hlocks hfl (by decide) hws d_De_charge_11 d_De_charge_14 d_De_charge_15 d_De_charge_17 d_De_charge_20 (hl.1.trans hml.symm) (Nat.le_of_ble_eq_true rfl) (Nat.le_of_ble_eq_true rfl) (by omega) (by omega) (zt_q () hP hD hK hS trivial (Or.inl ⟨(by omega), rfl⟩)) hS.2.2
end
section
set_option maxHeartbeats 4000000 in
set_option maxRecDepth 100000 in
/-- next -/
theorem c_De_next (l : Launch) (dC : Nat → ClassId) (dI : Nat → Nat → Nat) (cB : ClassId) (cI : ClassId) (cJ : ClassId) (cZ : ClassId) (cQ : ClassId) (d0 r0 a0 w0 p0 i0 r1 : Nat) (sz : Nat) (hfl : l.flags = flags0) (N : Int) (bg : Int) (en : Int) (fl : Int) (rs : Int) (pl : va_W) (g : Nat → Option Nat) (al : Nat → Bool) (u : Nat → Int) (hR : RK cB pl g al u) (hrs : -1 ≤ rs ∧ rs ≤ 1000000000) (hpl : 0 ≤ bg ∧ bg ≤ en ∧ en ≤ 1000000000 ∧ 0 ≤ fl ∧ fl ≤ 1000000000) : MetT l y_De_next ((Cond.code y_De_next prog_1_method_12_code 2 (some .int)) :: gw) ({ frames := 6, cells := (0 + 1), slots := (0 + 6), locals := 90 } : Room) (zPcT (dC, dI) [(cB, .byte), (cI, .int), (cJ, .long), (cZ, .boolean), (cQ, .object "LogDesk$Block")] [.ref d0] ([(d0, .inr (6, [.int (iZ N), .ref r0, .ref a0, .ref w0, .ref p0, .ref i0, .int (iZ bg), .int (iZ en), .int (iZ fl), .int (iZ rs)])), (r0, .inr (4, [.ref r1])), (r1, .inl (cQ, 32, .inr (.inr (.inr (.inr g)))))] ++ pl) sz) (zQT (dC, dI) [(cB, .byte), (cI, .int), (cJ, .long), (cZ, .boolean), (cQ, .object "LogDesk$Block")] (va_A ([(d0, .inr (6, [.int (iZ N), .ref r0, .ref a0, .ref w0, .ref p0, .ref i0, .int (iZ bg), .int (iZ en), .int (iZ fl), .int (iZ rs)])), (r0, .inr (4, [.ref r1])), (r1, .inl (cQ, 32, .inr (.inr (.inr (.inr g)))))] ++ pl) sz) "java/util/NoSuchElementException" "java/util/NoSuchElementException-" (if (if rs = -1 then bg else er u rs) < en then 0 else 1) (some (.int (iZ (rb u (if rs = -1 then bg else er u rs))))) (fun (q : Unit) => True) (fun (q : Unit) => ([(d0, .inr (6, [.int (iZ N), .ref r0, .ref a0, .ref w0, .ref p0, .ref i0, .int (iZ bg), .int (iZ en), .int (iZ fl), .int (iZ (if (if rs = -1 then bg else er u rs) < en then (if rs = -1 then bg else er u rs) else rs))])), (r0, .inr (4, [.ref r1])), (r1, .inl (cQ, 32, .inr (.inr (.inr (.inr g)))))] ++ pl))) (0 + 1) (0 + 6) (va_A ([(d0, .inr (6, [.int (iZ N), .ref r0, .ref a0, .ref w0, .ref p0, .ref i0, .int (iZ bg), .int (iZ en), .int (iZ fl), .int (iZ rs)])), (r0, .inr (4, [.ref r1])), (r1, .inl (cQ, 32, .inr (.inr (.inr (.inr g)))))] ++ pl) sz) := by
  refine MetT.ofW (cc := prog_1_method_12_code) (maxL := 2) (ret := (some .int)) (by decide) rfl ?_
  intro p e s m args below meth c s₁ B hml hne hv
  obtain ⟨rfl, ⟨hsz, hP, hK, hD0, hZ⟩, hTH⟩ := hv
  have hx := B.exec
  have hb := B.bytes
  have hr := B.returns
  have hts := atoms_spec (ws := (Cond.code y_De_next prog_1_method_12_code 2 (some .int)) :: gw) B.pre
  have htg : ∀ w ∈ gw, w.before _ s = true := fun w h => hts w (List.mem_cons_of_mem _ h)
  have hown : s.vm.findClass "LogDesk" = some m.cls := findClass_of_methodNamed B.named
  have hlocks := B.notSynchronized
  subst hsz
  have hD := hD0.self (sz := s.heap.size)
  generalize hAe : va_A ([(d0, .inr (6, [.int (iZ N), .ref r0, .ref a0, .ref w0, .ref p0, .ref i0, .int (iZ bg), .int (iZ en), .int (iZ fl), .int (iZ rs)])), (r0, .inr (4, [.ref r1])), (r1, .inl (cQ, 32, .inr (.inr (.inr (.inr g)))))] ++ pl) s.heap.size = A at hD ⊢
  have hRc : (headSpec ((Cond.code y_De_next prog_1_method_12_code 2 (some .int)) :: gw) ({ frames := 6, cells := (0 + 1), slots := (0 + 6), locals := 90 } : Room)).room.cells = (0 + 1) := rfl
  have hRs : (headSpec ((Cond.code y_De_next prog_1_method_12_code 2 (some .int)) :: gw) ({ frames := 6, cells := (0 + 1), slots := (0 + 6), locals := 90 } : Room)).room.slots = (0 + 6) := rfl
  have hA : ∀ q : Nat, s.heap.size ≤ q → A q := fun q h => by rw [← hAe]; exact Or.inr h
  have hS : va_S A s.heap s.heap [] := va_S.rf
  have hP : va_P (dC, dI) vwCl ([(d0, .inr (6, [.int (iZ N), .ref r0, .ref a0, .ref w0, .ref p0, .ref i0, .int (iZ bg), .int (iZ en), .int (iZ fl), .int (iZ rs)])), (r0, .inr (4, [.ref r1])), (r1, .inl (cQ, 32, .inr (.inr (.inr (.inr g)))))] ++ pl) s.heap := hP
  have hl := lv_entry ([.ref d0]) (n := 2) (Nat.le_of_ble_eq_true rfl)
  rw [lg_entry_eq]
  generalize (lg_sl ([.ref d0]) ++ List.replicate (2 - (lg_sl ([.ref d0])).length) Slot.unset).toArray = ls at hl ⊢
  have hl : lv_has ls 2 [(0, .ref d0)] := hl
  have her : er u rs = rs + 3 + bl u rs := rfl
  have hbl := bl_in u rs
  refine lv_aload_n hx hb d_De_next_0 rfl (lv_at hl 0 rfl) ?_
  refine va_get (D := (dC, dI)) (ci := 6) (v := .int (iZ rs)) (C := "LogDesk") (T := F_De) (N := 10) hx hb htg hin_De hown hK hP 0 rfl rfl 9 (by decide) (htg _ k_99) (fun _ h9 => h9) rfl d_De_next_1 ?_
  refine lv_iconst (v := iZ (-1)) hx hb d_De_next_4 rfl ?_
  refine zz_icmp_ne (tgt := 15) hx hb d_De_next_5 (by decide) ⟨by omega, by omega⟩ ⟨by omega, by omega⟩ (fun c_1 => ?_) (fun c_1 => ?_)
  · refine lv_aload_n hx hb d_De_next_15 rfl (lv_at hl 0 rfl) ?_
    refine lv_aload_n hx hb d_De_next_16 rfl (lv_at hl 0 rfl) ?_
    refine va_get (D := (dC, dI)) (ci := 6) (v := .int (iZ rs)) (C := "LogDesk") (T := F_De) (N := 10) hx hb htg hin_De hown hK hP 0 rfl rfl 9 (by decide) (htg _ k_99) (fun _ h9 => h9) rfl d_De_next_17 ?_
    refine zp_i (wr := []) (va_runV (As := [.int (iZ rs)]) (rest := []) ⟨hx, hb, hml, hown, htg⟩ (c_De_endOfRecord l dC dI cB cI cJ cZ cQ d0 r0 a0 w0 p0 i0 r1 s.heap.size N bg en fl rs pl g al u rs hR (by omega)) (cwV 1 htg (gw_V k_188 k_190 k_p1 k_1 k_191) rfl rfl rfl (by decide +kernel) ⟨Nat.le_of_ble_eq_true rfl, Nat.le_of_ble_eq_true rfl⟩) (zPreVP hK hP hD hZ [0, 1, 2] rfl (by decide) 0 (ci := 6) rfl rfl) rfl rfl hl.1 rfl (lv_room (Nat.le_of_ble_eq_true rfl)) d_De_next_20 ⟨by omega, by omega⟩) hP hD hS hA [0, 1, 2] [] rfl rfl (by decide) (by decide) (fun H locs hP hD hS => ?_)
    have hP : va_P (dC, dI) vwCl ([(d0, .inr (6, [.int (iZ N), .ref r0, .ref a0, .ref w0, .ref p0, .ref i0, .int (iZ bg), .int (iZ en), .int (iZ fl), .int (iZ rs)])), (r0, .inr (4, [.ref r1])), (r1, .inl (cQ, 32, .inr (.inr (.inr (.inr g)))))] ++ pl) H := hP
    have hD : va_D A ([(d0, .inr (6, [.int (iZ N), .ref r0, .ref a0, .ref w0, .ref p0, .ref i0, .int (iZ bg), .int (iZ en), .int (iZ fl), .int (iZ rs)])), (r0, .inr (4, [.ref r1])), (r1, .inl (cQ, 32, .inr (.inr (.inr (.inr g)))))] ++ pl) := hD
    refine lv_istore_n (lv' := [(1, .int (iZ (er u rs))), (0, .ref d0)]) hx hb d_De_next_23 rfl hl (by decide) rfl (fun ls hl => ?_)
    refine lv_iload_n hx hb d_De_next_24 rfl (lv_at hl 0 rfl) ?_
    refine lv_aload_n hx hb d_De_next_25 rfl (lv_at hl 1 rfl) ?_
    refine va_get (D := (dC, dI)) (ci := 6) (v := .int (iZ en)) (C := "LogDesk") (T := F_De) (N := 10) hx hb htg hin_De hown hK hP 0 rfl rfl 7 (by decide) (htg _ k_97) (fun _ h9 => h9) rfl d_De_next_26 ?_
    refine zz_icmp_lt (tgt := 42) hx hb d_De_next_29 (by decide) ⟨by omega, by omega⟩ ⟨by omega, by omega⟩ (fun c_2 => ?_) (fun c_2 => ?_)
    · refine lv_aload_n hx hb d_De_next_42 rfl (lv_at hl 1 rfl) ?_
      refine lv_iload_n hx hb d_De_next_43 rfl (lv_at hl 0 rfl) ?_
      refine va_put (D := (dC, dI)) (ci := 6) (v := .int (iZ (er u rs))) (ty := t_De 9) (C := "LogDesk") (T := F_De) (N := 10) hx hb htg hin_De t_De t_De_ok n_De hown hK hP hD hS 0 rfl rfl 9 (by decide) (htg _ k_99) (fun _ h9 => h9) rfl (by decide +kernel) rfl rfl (Nat.le_of_ble_eq_true rfl) d_De_next_44 (fun H locs hP hD hS => ?_)
      have hP : va_P (dC, dI) vwCl ([(d0, .inr (6, [.int (iZ N), .ref r0, .ref a0, .ref w0, .ref p0, .ref i0, .int (iZ bg), .int (iZ en), .int (iZ fl), .int (iZ (er u rs))])), (r0, .inr (4, [.ref r1])), (r1, .inl (cQ, 32, .inr (.inr (.inr (.inr g)))))] ++ pl) H := hP
      have hD : va_D A ([(d0, .inr (6, [.int (iZ N), .ref r0, .ref a0, .ref w0, .ref p0, .ref i0, .int (iZ bg), .int (iZ en), .int (iZ fl), .int (iZ (er u rs))])), (r0, .inr (4, [.ref r1])), (r1, .inl (cQ, 32, .inr (.inr (.inr (.inr g)))))] ++ pl) := hD
      refine lv_aload_n hx hb d_De_next_47 rfl (lv_at hl 1 rfl) ?_
      refine va_get (D := (dC, dI)) (ci := 6) (v := .ref r0) (C := "LogDesk") (T := F_De) (N := 10) hx hb htg hin_De hown hK hP 0 rfl rfl 1 (by decide) (htg _ k_91) (fun _ h9 => h9) rfl d_De_next_48 ?_
      refine lv_iload_n hx hb d_De_next_51 rfl (lv_at hl 0 rfl) ?_
      refine zp_i (wr := [(d0, .inr (6, [.int (iZ N), .ref r0, .ref a0, .ref w0, .ref p0, .ref i0, .int (iZ bg), .int (iZ en), .int (iZ fl), .int (iZ (er u rs))]))]) (va_runV (As := [.int (iZ (er u rs))]) (rest := []) ⟨hx, hb, hml, hown, htg⟩ (c_Ri_get l dC dI cB cI cJ cZ cQ r0 r1 H.size pl g al u (er u rs) hR (by omega)) (cwV 1 htg (gw_V k_196 k_197 k_198 k_2 k_199) rfl rfl rfl (by decide +kernel) ⟨Nat.le_of_ble_eq_true rfl, Nat.le_of_ble_eq_true rfl⟩) (zPreVP hK hP hD hZ [1, 2] rfl (by decide) 1 (ci := 4) rfl rfl) rfl rfl hl.1 rfl (lv_room (Nat.le_of_ble_eq_true rfl)) d_De_next_52 ⟨by omega, by omega⟩) hP hD hS hA [1, 2] [0] rfl rfl (by decide) (by decide) (fun H locs hP hD hS => ?_)
      have hP : va_P (dC, dI) vwCl ([(d0, .inr (6, [.int (iZ N), .ref r0, .ref a0, .ref w0, .ref p0, .ref i0, .int (iZ bg), .int (iZ en), .int (iZ fl), .int (iZ (er u rs))])), (r0, .inr (4, [.ref r1])), (r1, .inl (cQ, 32, .inr (.inr (.inr (.inr g)))))] ++ pl) H := hP
      have hD : va_D A ([(d0, .inr (6, [.int (iZ N), .ref r0, .ref a0, .ref w0, .ref p0, .ref i0, .int (iZ bg), .int (iZ en), .int (iZ fl), .int (iZ (er u rs))])), (r0, .inr (4, [.ref r1])), (r1, .inl (cQ, 32, .inr (.inr (.inr (.inr g)))))] ++ pl) := hD
      have eW : ∀ (x0 y0 : Int), x0 = y0 → (([(d0, .inr (6, [.int (iZ N), .ref r0, .ref a0, .ref w0, .ref p0, .ref i0, .int (iZ bg), .int (iZ en), .int (iZ fl), .int (iZ x0)])), (r0, .inr (4, [.ref r1])), (r1, .inl (cQ, 32, .inr (.inr (.inr (.inr g)))))] ++ pl) : va_W) = ([(d0, .inr (6, [.int (iZ N), .ref r0, .ref a0, .ref w0, .ref p0, .ref i0, .int (iZ bg), .int (iZ en), .int (iZ fl), .int (iZ y0)])), (r0, .inr (4, [.ref r1])), (r1, .inl (cQ, 32, .inr (.inr (.inr (.inr g)))))] ++ pl) := by intros; subst_vars; rfl
      have eW := eW (er u rs) (if (if rs = -1 then bg else er u rs) < en then (if rs = -1 then bg else er u rs) else rs) (by omega)
      have hP : va_P (dC, dI) vwCl ([(d0, .inr (6, [.int (iZ N), .ref r0, .ref a0, .ref w0, .ref p0, .ref i0, .int (iZ bg), .int (iZ en), .int (iZ fl), .int (iZ (if (if rs = -1 then bg else er u rs) < en then (if rs = -1 then bg else er u rs) else rs))])), (r0, .inr (4, [.ref r1])), (r1, .inl (cQ, 32, .inr (.inr (.inr (.inr g)))))] ++ pl) H := eW ▸ hP
      have hD : va_D A ([(d0, .inr (6, [.int (iZ N), .ref r0, .ref a0, .ref w0, .ref p0, .ref i0, .int (iZ bg), .int (iZ en), .int (iZ fl), .int (iZ (if (if rs = -1 then bg else er u rs) < en then (if rs = -1 then bg else er u rs) else rs))])), (r0, .inr (4, [.ref r1])), (r1, .inl (cQ, 32, .inr (.inr (.inr (.inr g)))))] ++ pl) := eW ▸ hD
      refine W.widen (k := (0 + 1)) (n := (0 + 6)) (by omega) (by omega) ?_
      refine W.mono (fun t h => MQT.of h) ?_
      exact W.iret (v := (iZ (u ((er u rs) % 16000).toNat % 256))) hx hb hr (fun t ht hW => ⟨⟨(), trivial, ⟨by rw [ht]; exact hP, va_K.moved hW.alike hK, hAe ▸ hD⟩, Or.inl ⟨by omega, congrArg (fun z => Outcome.returned (some (.int (iZ z)))) (show rb u _ = _ from congrArg (rb u) (by omega))⟩⟩, hAe ▸ hS.F ht⟩) (hAe ▸ hS.2.2) d_De_next_55
    · have eW : ∀ (x0 y0 : Int), x0 = y0 → (([(d0, .inr (6, [.int (iZ N), .ref r0, .ref a0, .ref w0, .ref p0, .ref i0, .int (iZ bg), .int (iZ en), .int (iZ fl), .int (iZ x0)])), (r0, .inr (4, [.ref r1])), (r1, .inl (cQ, 32, .inr (.inr (.inr (.inr g)))))] ++ pl) : va_W) = ([(d0, .inr (6, [.int (iZ N), .ref r0, .ref a0, .ref w0, .ref p0, .ref i0, .int (iZ bg), .int (iZ en), .int (iZ fl), .int (iZ y0)])), (r0, .inr (4, [.ref r1])), (r1, .inl (cQ, 32, .inr (.inr (.inr (.inr g)))))] ++ pl) := by intros; subst_vars; rfl
      have eW := eW rs (if (if rs = -1 then bg else er u rs) < en then (if rs = -1 then bg else er u rs) else rs) (by omega)
      have hP : va_P (dC, dI) vwCl ([(d0, .inr (6, [.int (iZ N), .ref r0, .ref a0, .ref w0, .ref p0, .ref i0, .int (iZ bg), .int (iZ en), .int (iZ fl), .int (iZ (if (if rs = -1 then bg else er u rs) < en then (if rs = -1 then bg else er u rs) else rs))])), (r0, .inr (4, [.ref r1])), (r1, .inl (cQ, 32, .inr (.inr (.inr (.inr g)))))] ++ pl) H := eW ▸ hP
      have hD : va_D A ([(d0, .inr (6, [.int (iZ N), .ref r0, .ref a0, .ref w0, .ref p0, .ref i0, .int (iZ bg), .int (iZ en), .int (iZ fl), .int (iZ (if (if rs = -1 then bg else er u rs) < en then (if rs = -1 then bg else er u rs) else rs))])), (r0, .inr (4, [.ref r1])), (r1, .inl (cQ, 32, .inr (.inr (.inr (.inr g)))))] ++ pl) := eW ▸ hD
      refine W.widen (k := 0) (n := 0) (by omega) (by omega) ?_
      obtain ⟨qs, hws⟩ := th_hwN hown htg hTH hAe hS (i0 := 156) (i2 := 160) k_440 k_441 k_17 (show Cond.stringRef "LogDesk" 158 "there is no other record" ∈ thW by simp [thW]) own_160
      subst hAe
      exact zt_throwN hx hb hne hlocks hfl (by decide +kernel) (by decide +kernel) (by decide +kernel) (by decide +kernel) (by decide) hws d_De_next_32 d_De_next_35 d_De_next_36 d_De_next_38 d_De_next_41 (hl.1.trans hml.symm) (Nat.le_of_ble_eq_true rfl) (Nat.le_of_ble_eq_true rfl) (by omega) (by omega) (zt_q () hP hD hK hS trivial (Or.inl ⟨(by omega), rfl⟩)) hS.2.2
  · refine lv_aload_n hx hb d_De_next_8 rfl (lv_at hl 0 rfl) ?_
    refine va_get (D := (dC, dI)) (ci := 6) (v := .int (iZ bg)) (C := "LogDesk") (T := F_De) (N := 10) hx hb htg hin_De hown hK hP 0 rfl rfl 6 (by decide) (htg _ k_96) (fun _ h9 => h9) rfl d_De_next_9 ?_
    refine lv_goto (tgt := 23) hx hb d_De_next_12 (by decide) ?_
    refine lv_istore_n (lv' := [(1, .int (iZ bg)), (0, .ref d0)]) hx hb d_De_next_23 rfl hl (by decide) rfl (fun ls hl => ?_)
    refine lv_iload_n hx hb d_De_next_24 rfl (lv_at hl 0 rfl) ?_
    refine lv_aload_n hx hb d_De_next_25 rfl (lv_at hl 1 rfl) ?_
    refine va_get (D := (dC, dI)) (ci := 6) (v := .int (iZ en)) (C := "LogDesk") (T := F_De) (N := 10) hx hb htg hin_De hown hK hP 0 rfl rfl 7 (by decide) (htg _ k_97) (fun _ h9 => h9) rfl d_De_next_26 ?_
    refine zz_icmp_lt (tgt := 42) hx hb d_De_next_29 (by decide) ⟨by omega, by omega⟩ ⟨by omega, by omega⟩ (fun c_3 => ?_) (fun c_3 => ?_)
    · refine lv_aload_n hx hb d_De_next_42 rfl (lv_at hl 1 rfl) ?_
      refine lv_iload_n hx hb d_De_next_43 rfl (lv_at hl 0 rfl) ?_
      refine va_put (D := (dC, dI)) (ci := 6) (v := .int (iZ bg)) (ty := t_De 9) (C := "LogDesk") (T := F_De) (N := 10) hx hb htg hin_De t_De t_De_ok n_De hown hK hP hD hS 0 rfl rfl 9 (by decide) (htg _ k_99) (fun _ h9 => h9) rfl (by decide +kernel) rfl rfl (Nat.le_of_ble_eq_true rfl) d_De_next_44 (fun H locs hP hD hS => ?_)
      have hP : va_P (dC, dI) vwCl ([(d0, .inr (6, [.int (iZ N), .ref r0, .ref a0, .ref w0, .ref p0, .ref i0, .int (iZ bg), .int (iZ en), .int (iZ fl), .int (iZ bg)])), (r0, .inr (4, [.ref r1])), (r1, .inl (cQ, 32, .inr (.inr (.inr (.inr g)))))] ++ pl) H := hP
      have hD : va_D A ([(d0, .inr (6, [.int (iZ N), .ref r0, .ref a0, .ref w0, .ref p0, .ref i0, .int (iZ bg), .int (iZ en), .int (iZ fl), .int (iZ bg)])), (r0, .inr (4, [.ref r1])), (r1, .inl (cQ, 32, .inr (.inr (.inr (.inr g)))))] ++ pl) := hD
      refine lv_aload_n hx hb d_De_next_47 rfl (lv_at hl 1 rfl) ?_
      refine va_get (D := (dC, dI)) (ci := 6) (v := .ref r0) (C := "LogDesk") (T := F_De) (N := 10) hx hb htg hin_De hown hK hP 0 rfl rfl 1 (by decide) (htg _ k_91) (fun _ h9 => h9) rfl d_De_next_48 ?_
      refine lv_iload_n hx hb d_De_next_51 rfl (lv_at hl 0 rfl) ?_
      refine zp_i (wr := [(d0, .inr (6, [.int (iZ N), .ref r0, .ref a0, .ref w0, .ref p0, .ref i0, .int (iZ bg), .int (iZ en), .int (iZ fl), .int (iZ bg)]))]) (va_runV (As := [.int (iZ bg)]) (rest := []) ⟨hx, hb, hml, hown, htg⟩ (c_Ri_get l dC dI cB cI cJ cZ cQ r0 r1 H.size pl g al u bg hR (by omega)) (cwV 1 htg (gw_V k_196 k_197 k_198 k_2 k_199) rfl rfl rfl (by decide +kernel) ⟨Nat.le_of_ble_eq_true rfl, Nat.le_of_ble_eq_true rfl⟩) (zPreVP hK hP hD hZ [1, 2] rfl (by decide) 1 (ci := 4) rfl rfl) rfl rfl hl.1 rfl (lv_room (Nat.le_of_ble_eq_true rfl)) d_De_next_52 ⟨by omega, by omega⟩) hP hD hS hA [1, 2] [0] rfl rfl (by decide) (by decide) (fun H locs hP hD hS => ?_)
      have hP : va_P (dC, dI) vwCl ([(d0, .inr (6, [.int (iZ N), .ref r0, .ref a0, .ref w0, .ref p0, .ref i0, .int (iZ bg), .int (iZ en), .int (iZ fl), .int (iZ bg)])), (r0, .inr (4, [.ref r1])), (r1, .inl (cQ, 32, .inr (.inr (.inr (.inr g)))))] ++ pl) H := hP
      have hD : va_D A ([(d0, .inr (6, [.int (iZ N), .ref r0, .ref a0, .ref w0, .ref p0, .ref i0, .int (iZ bg), .int (iZ en), .int (iZ fl), .int (iZ bg)])), (r0, .inr (4, [.ref r1])), (r1, .inl (cQ, 32, .inr (.inr (.inr (.inr g)))))] ++ pl) := hD
      have eW : ∀ (x0 y0 : Int), x0 = y0 → (([(d0, .inr (6, [.int (iZ N), .ref r0, .ref a0, .ref w0, .ref p0, .ref i0, .int (iZ bg), .int (iZ en), .int (iZ fl), .int (iZ x0)])), (r0, .inr (4, [.ref r1])), (r1, .inl (cQ, 32, .inr (.inr (.inr (.inr g)))))] ++ pl) : va_W) = ([(d0, .inr (6, [.int (iZ N), .ref r0, .ref a0, .ref w0, .ref p0, .ref i0, .int (iZ bg), .int (iZ en), .int (iZ fl), .int (iZ y0)])), (r0, .inr (4, [.ref r1])), (r1, .inl (cQ, 32, .inr (.inr (.inr (.inr g)))))] ++ pl) := by intros; subst_vars; rfl
      have eW := eW bg (if (if rs = -1 then bg else er u rs) < en then (if rs = -1 then bg else er u rs) else rs) (by omega)
      have hP : va_P (dC, dI) vwCl ([(d0, .inr (6, [.int (iZ N), .ref r0, .ref a0, .ref w0, .ref p0, .ref i0, .int (iZ bg), .int (iZ en), .int (iZ fl), .int (iZ (if (if rs = -1 then bg else er u rs) < en then (if rs = -1 then bg else er u rs) else rs))])), (r0, .inr (4, [.ref r1])), (r1, .inl (cQ, 32, .inr (.inr (.inr (.inr g)))))] ++ pl) H := eW ▸ hP
      have hD : va_D A ([(d0, .inr (6, [.int (iZ N), .ref r0, .ref a0, .ref w0, .ref p0, .ref i0, .int (iZ bg), .int (iZ en), .int (iZ fl), .int (iZ (if (if rs = -1 then bg else er u rs) < en then (if rs = -1 then bg else er u rs) else rs))])), (r0, .inr (4, [.ref r1])), (r1, .inl (cQ, 32, .inr (.inr (.inr (.inr g)))))] ++ pl) := eW ▸ hD
      refine W.widen (k := (0 + 1)) (n := (0 + 6)) (by omega) (by omega) ?_
      refine W.mono (fun t h => MQT.of h) ?_
      exact W.iret (v := (iZ (u (bg % 16000).toNat % 256))) hx hb hr (fun t ht hW => ⟨⟨(), trivial, ⟨by rw [ht]; exact hP, va_K.moved hW.alike hK, hAe ▸ hD⟩, Or.inl ⟨by omega, congrArg (fun z => Outcome.returned (some (.int (iZ z)))) (show rb u _ = _ from congrArg (rb u) (by omega))⟩⟩, hAe ▸ hS.F ht⟩) (hAe ▸ hS.2.2) d_De_next_55
    · have eW : ∀ (x0 y0 : Int), x0 = y0 → (([(d0, .inr (6, [.int (iZ N), .ref r0, .ref a0, .ref w0, .ref p0, .ref i0, .int (iZ bg), .int (iZ en), .int (iZ fl), .int (iZ x0)])), (r0, .inr (4, [.ref r1])), (r1, .inl (cQ, 32, .inr (.inr (.inr (.inr g)))))] ++ pl) : va_W) = ([(d0, .inr (6, [.int (iZ N), .ref r0, .ref a0, .ref w0, .ref p0, .ref i0, .int (iZ bg), .int (iZ en), .int (iZ fl), .int (iZ y0)])), (r0, .inr (4, [.ref r1])), (r1, .inl (cQ, 32, .inr (.inr (.inr (.inr g)))))] ++ pl) := by intros; subst_vars; rfl
      have eW := eW rs (if (if rs = -1 then bg else er u rs) < en then (if rs = -1 then bg else er u rs) else rs) (by omega)
      have hP : va_P (dC, dI) vwCl ([(d0, .inr (6, [.int (iZ N), .ref r0, .ref a0, .ref w0, .ref p0, .ref i0, .int (iZ bg), .int (iZ en), .int (iZ fl), .int (iZ (if (if rs = -1 then bg else er u rs) < en then (if rs = -1 then bg else er u rs) else rs))])), (r0, .inr (4, [.ref r1])), (r1, .inl (cQ, 32, .inr (.inr (.inr (.inr g)))))] ++ pl) s.heap := eW ▸ hP
      have hD : va_D A ([(d0, .inr (6, [.int (iZ N), .ref r0, .ref a0, .ref w0, .ref p0, .ref i0, .int (iZ bg), .int (iZ en), .int (iZ fl), .int (iZ (if (if rs = -1 then bg else er u rs) < en then (if rs = -1 then bg else er u rs) else rs))])), (r0, .inr (4, [.ref r1])), (r1, .inl (cQ, 32, .inr (.inr (.inr (.inr g)))))] ++ pl) := eW ▸ hD
      refine W.widen (k := 0) (n := 0) (by omega) (by omega) ?_
      obtain ⟨qs, hws⟩ := th_hwN hown htg hTH hAe hS (i0 := 156) (i2 := 160) k_440 k_441 k_17 (show Cond.stringRef "LogDesk" 158 "there is no other record" ∈ thW by simp [thW]) own_160
      subst hAe
      exact zt_throwN hx hb hne hlocks hfl (by decide +kernel) (by decide +kernel) (by decide +kernel) (by decide +kernel) (by decide) hws d_De_next_32 d_De_next_35 d_De_next_36 d_De_next_38 d_De_next_41 (hl.1.trans hml.symm) (Nat.le_of_ble_eq_true rfl) (Nat.le_of_ble_eq_true rfl) (by omega) (by omega) (zt_q () hP hD hK hS trivial (Or.inl ⟨(by omega), rfl⟩)) hS.2.2
end
section
set_option maxHeartbeats 4000000 in
set_option maxRecDepth 100000 in
/-- append -/
theorem c_De_append (l : Launch) (dC : Nat → ClassId) (dI : Nat → Nat → Nat) (cB : ClassId) (cI : ClassId) (cJ : ClassId) (cZ : ClassId) (cQ : ClassId) (d0 r0 a0 w0 p0 i0 r1 a1 : Nat) (sz : Nat) (hfl : l.flags = flags0) (N : Int) (bg : Int) (en : Int) (fl : Int) (rs : Int) (cnt : Int) (uh : Nat → Int) (pl : va_W) (g : Nat → Option Nat) (al : Nat → Bool) (u : Nat → Int) (kd : Int) (hR : RK cB pl g al u) (hc : 0 ≤ cnt ∧ cnt ≤ 600) (hpl : 0 ≤ bg ∧ bg ≤ en ∧ en ≤ 1000000000 ∧ 0 ≤ fl ∧ fl ≤ 1000000000) (hN : 3 ≤ N ∧ N ≤ 32) (hk0 : iB kd) : MetT l y_De_append ((Cond.code y_De_append prog_1_method_4_code 5 (some .int)) :: gw) ({ frames := 6, cells := (2 * (cal (aW (aP (aP (aP al en) (en + 1)) (en + 2)) (en + 3) cnt.toNat) 32 - cal al 32) + 1), slots := (501 * (cal (aW (aP (aP (aP al en) (en + 1)) (en + 2)) (en + 3) cnt.toNat) 32 - cal al 32) + 6), locals := 100 } : Room) (zPcT (dC, dI) [(cB, .byte), (cI, .int), (cJ, .long), (cZ, .boolean), (cQ, .object "LogDesk$Block")] [.ref d0, .int (iZ kd)] ([(d0, .inr (6, [.int (iZ N), .ref r0, .ref a0, .ref w0, .ref p0, .ref i0, .int (iZ bg), .int (iZ en), .int (iZ fl), .int (iZ rs)])), (r0, .inr (4, [.ref r1])), (r1, .inl (cQ, 32, .inr (.inr (.inr (.inr g))))), (a0, .inr (2, [.ref a1, .int (iZ cnt)])), (a1, .inl (cB, 600, .inl (fun j => iZ (Int.bmod (uh j) 256))))] ++ pl) sz) (zQT (dC, dI) [(cB, .byte), (cI, .int), (cJ, .long), (cZ, .boolean), (cQ, .object "LogDesk$Block")] (va_A ([(d0, .inr (6, [.int (iZ N), .ref r0, .ref a0, .ref w0, .ref p0, .ref i0, .int (iZ bg), .int (iZ en), .int (iZ fl), .int (iZ rs)])), (r0, .inr (4, [.ref r1])), (r1, .inl (cQ, 32, .inr (.inr (.inr (.inr g))))), (a0, .inr (2, [.ref a1, .int (iZ cnt)])), (a1, .inl (cB, 600, .inl (fun j => iZ (Int.bmod (uh j) 256))))] ++ pl) sz) "java/lang/IllegalArgumentException" "java/lang/IllegalStateException" (if ¬ (1 ≤ kd ∧ kd ≤ 14) then 1 else if (1000000000 < en + 3 + cnt ∨ N ≤ (en + 3 + cnt - 1) / 500 - bg / 500) then 2 else 0) (some (.int (iZ (en + 3 + cnt)))) (fun (q : va_W × (Nat → Option Nat)) => RK cB q.1 q.2 (if ((1 ≤ kd ∧ kd ≤ 14) ∧ ¬ (1000000000 < en + 3 + cnt ∨ N ≤ (en + 3 + cnt - 1) / 500 - bg / 500)) then (aW (aP (aP (aP al en) (en + 1)) (en + 2)) (en + 3) cnt.toNat) else al) (if ((1 ≤ kd ∧ kd ≤ 14) ∧ ¬ (1000000000 < en + 3 + cnt ∨ N ≤ (en + 3 + cnt - 1) / 500 - bg / 500)) then (uW (uP (uP (uP u en kd) (en + 1) (cnt / 256)) (en + 2) cnt) (en + 3) (fun j => uh j % 256) cnt.toNat) else u)) (fun (q : va_W × (Nat → Option Nat)) => ([(d0, .inr (6, [.int (iZ N), .ref r0, .ref a0, .ref w0, .ref p0, .ref i0, .int (iZ bg), .int (iZ (if ((1 ≤ kd ∧ kd ≤ 14) ∧ ¬ (1000000000 < en + 3 + cnt ∨ N ≤ (en + 3 + cnt - 1) / 500 - bg / 500)) then en + 3 + cnt else en)), .int (iZ fl), .int (iZ rs)])), (r0, .inr (4, [.ref r1])), (r1, .inl (cQ, 32, .inr (.inr (.inr (.inr q.2))))), (a0, .inr (2, [.ref a1, .int (iZ (if ((1 ≤ kd ∧ kd ≤ 14) ∧ ¬ (1000000000 < en + 3 + cnt ∨ N ≤ (en + 3 + cnt - 1) / 500 - bg / 500)) then 0 else cnt))])), (a1, .inl (cB, 600, .inl (fun j => iZ (Int.bmod (uh j) 256))))] ++ q.1))) (2 * (cal (aW (aP (aP (aP al en) (en + 1)) (en + 2)) (en + 3) cnt.toNat) 32 - cal al 32) + 1) (501 * (cal (aW (aP (aP (aP al en) (en + 1)) (en + 2)) (en + 3) cnt.toNat) 32 - cal al 32) + 6) (va_A ([(d0, .inr (6, [.int (iZ N), .ref r0, .ref a0, .ref w0, .ref p0, .ref i0, .int (iZ bg), .int (iZ en), .int (iZ fl), .int (iZ rs)])), (r0, .inr (4, [.ref r1])), (r1, .inl (cQ, 32, .inr (.inr (.inr (.inr g))))), (a0, .inr (2, [.ref a1, .int (iZ cnt)])), (a1, .inl (cB, 600, .inl (fun j => iZ (Int.bmod (uh j) 256))))] ++ pl) sz) := by
  refine MetT.ofW (cc := prog_1_method_4_code) (maxL := 5) (ret := (some .int)) (by decide) rfl ?_
  intro p e s m args below meth c s₁ B hml hne hv
  obtain ⟨rfl, ⟨hsz, hP, hK, hD0, hZ⟩, hTH⟩ := hv
  have hx := B.exec
  have hb := B.bytes
  have hr := B.returns
  have hts := atoms_spec (ws := (Cond.code y_De_append prog_1_method_4_code 5 (some .int)) :: gw) B.pre
  have htg : ∀ w ∈ gw, w.before _ s = true := fun w h => hts w (List.mem_cons_of_mem _ h)
  have hown : s.vm.findClass "LogDesk" = some m.cls := findClass_of_methodNamed B.named
  have hlocks := B.notSynchronized
  subst hsz
  have hD := hD0.self (sz := s.heap.size)
  generalize hAe : va_A ([(d0, .inr (6, [.int (iZ N), .ref r0, .ref a0, .ref w0, .ref p0, .ref i0, .int (iZ bg), .int (iZ en), .int (iZ fl), .int (iZ rs)])), (r0, .inr (4, [.ref r1])), (r1, .inl (cQ, 32, .inr (.inr (.inr (.inr g))))), (a0, .inr (2, [.ref a1, .int (iZ cnt)])), (a1, .inl (cB, 600, .inl (fun j => iZ (Int.bmod (uh j) 256))))] ++ pl) s.heap.size = A at hD ⊢
  have hRc : (headSpec ((Cond.code y_De_append prog_1_method_4_code 5 (some .int)) :: gw) ({ frames := 6, cells := (2 * (cal (aW (aP (aP (aP al en) (en + 1)) (en + 2)) (en + 3) cnt.toNat) 32 - cal al 32) + 1), slots := (501 * (cal (aW (aP (aP (aP al en) (en + 1)) (en + 2)) (en + 3) cnt.toNat) 32 - cal al 32) + 6), locals := 100 } : Room)).room.cells = (2 * (cal (aW (aP (aP (aP al en) (en + 1)) (en + 2)) (en + 3) cnt.toNat) 32 - cal al 32) + 1) := rfl
  have hRs : (headSpec ((Cond.code y_De_append prog_1_method_4_code 5 (some .int)) :: gw) ({ frames := 6, cells := (2 * (cal (aW (aP (aP (aP al en) (en + 1)) (en + 2)) (en + 3) cnt.toNat) 32 - cal al 32) + 1), slots := (501 * (cal (aW (aP (aP (aP al en) (en + 1)) (en + 2)) (en + 3) cnt.toNat) 32 - cal al 32) + 6), locals := 100 } : Room)).room.slots = (501 * (cal (aW (aP (aP (aP al en) (en + 1)) (en + 2)) (en + 3) cnt.toNat) 32 - cal al 32) + 6) := rfl
  generalize hQ : MQT below (zQT (dC, dI) [(cB, .byte), (cI, .int), (cJ, .long), (cZ, .boolean), (cQ, .object "LogDesk$Block")] A "java/lang/IllegalArgumentException" "java/lang/IllegalStateException" (if ¬ (1 ≤ kd ∧ kd ≤ 14) then 1 else if (1000000000 < en + 3 + cnt ∨ N ≤ (en + 3 + cnt - 1) / 500 - bg / 500) then 2 else 0) (some (.int (iZ (en + 3 + cnt)))) (fun (q : va_W × (Nat → Option Nat)) => RK cB q.1 q.2 (if ((1 ≤ kd ∧ kd ≤ 14) ∧ ¬ (1000000000 < en + 3 + cnt ∨ N ≤ (en + 3 + cnt - 1) / 500 - bg / 500)) then (aW (aP (aP (aP al en) (en + 1)) (en + 2)) (en + 3) cnt.toNat) else al) (if ((1 ≤ kd ∧ kd ≤ 14) ∧ ¬ (1000000000 < en + 3 + cnt ∨ N ≤ (en + 3 + cnt - 1) / 500 - bg / 500)) then (uW (uP (uP (uP u en kd) (en + 1) (cnt / 256)) (en + 2) cnt) (en + 3) (fun j => uh j % 256) cnt.toNat) else u)) (fun (q : va_W × (Nat → Option Nat)) => ([(d0, .inr (6, [.int (iZ N), .ref r0, .ref a0, .ref w0, .ref p0, .ref i0, .int (iZ bg), .int (iZ (if ((1 ≤ kd ∧ kd ≤ 14) ∧ ¬ (1000000000 < en + 3 + cnt ∨ N ≤ (en + 3 + cnt - 1) / 500 - bg / 500)) then en + 3 + cnt else en)), .int (iZ fl), .int (iZ rs)])), (r0, .inr (4, [.ref r1])), (r1, .inl (cQ, 32, .inr (.inr (.inr (.inr q.2))))), (a0, .inr (2, [.ref a1, .int (iZ (if ((1 ≤ kd ∧ kd ≤ 14) ∧ ¬ (1000000000 < en + 3 + cnt ∨ N ≤ (en + 3 + cnt - 1) / 500 - bg / 500)) then 0 else cnt))])), (a1, .inl (cB, 600, .inl (fun j => iZ (Int.bmod (uh j) 256))))] ++ q.1))) [.ref d0, .int (iZ kd)].toArray s (2 * (cal (aW (aP (aP (aP al en) (en + 1)) (en + 2)) (en + 3) cnt.toNat) 32 - cal al 32) + 1) (501 * (cal (aW (aP (aP (aP al en) (en + 1)) (en + 2)) (en + 3) cnt.toNat) 32 - cal al 32) + 6) A = QQ
  have hA : ∀ q : Nat, s.heap.size ≤ q → A q := fun q h => by rw [← hAe]; exact Or.inr h
  have hS : va_S A s.heap s.heap [] := va_S.rf
  have hP : va_P (dC, dI) vwCl ([(d0, .inr (6, [.int (iZ N), .ref r0, .ref a0, .ref w0, .ref p0, .ref i0, .int (iZ bg), .int (iZ en), .int (iZ fl), .int (iZ rs)])), (r0, .inr (4, [.ref r1])), (r1, .inl (cQ, 32, .inr (.inr (.inr (.inr g))))), (a0, .inr (2, [.ref a1, .int (iZ cnt)])), (a1, .inl (cB, 600, .inl (fun j => iZ (Int.bmod (uh j) 256))))] ++ pl) s.heap := hP
  have hl := lv_entry ([.ref d0, .int (iZ kd)]) (n := 5) (Nat.le_of_ble_eq_true rfl)
  rw [lg_entry_eq]
  generalize (lg_sl ([.ref d0, .int (iZ kd)]) ++ List.replicate (5 - (lg_sl ([.ref d0, .int (iZ kd)])).length) Slot.unset).toArray = ls at hl ⊢
  have hl : lv_has ls 5 [(0, .ref d0), (1, .int (iZ kd))] := hl
  obtain ⟨hk1, hk2⟩ := hk0
  have m0 := aP_mono al en
  have m1 := aP_mono (aP al en) (en + 1)
  have m2 := aP_mono (aP (aP al en) (en + 1)) (en + 2)
  have mF := aW_mono (aP (aP (aP al en) (en + 1)) (en + 2)) (en + 3) cnt.toNat
  refine lv_iload_n hx hb d_De_append_0 rfl (lv_at hl 1 rfl) ?_
  refine lv_iconst (v := iZ 1) hx hb d_De_append_1 rfl ?_
  refine zz_icmp_lt (tgt := 11) hx hb d_De_append_2 (by decide) ⟨by omega, by omega⟩ ⟨by omega, by omega⟩ (fun c_1 => ?_) (fun c_1 => ?_)
  · have eW : ∀ (x0 y0 : Int) (x1 y1 : Int), x0 = y0 → x1 = y1 → (([(d0, .inr (6, [.int (iZ N), .ref r0, .ref a0, .ref w0, .ref p0, .ref i0, .int (iZ bg), .int (iZ x0), .int (iZ fl), .int (iZ rs)])), (r0, .inr (4, [.ref r1])), (r1, .inl (cQ, 32, .inr (.inr (.inr (.inr g))))), (a0, .inr (2, [.ref a1, .int (iZ x1)])), (a1, .inl (cB, 600, .inl (fun j => iZ (Int.bmod (uh j) 256))))] ++ pl) : va_W) = ([(d0, .inr (6, [.int (iZ N), .ref r0, .ref a0, .ref w0, .ref p0, .ref i0, .int (iZ bg), .int (iZ y0), .int (iZ fl), .int (iZ rs)])), (r0, .inr (4, [.ref r1])), (r1, .inl (cQ, 32, .inr (.inr (.inr (.inr g))))), (a0, .inr (2, [.ref a1, .int (iZ y1)])), (a1, .inl (cB, 600, .inl (fun j => iZ (Int.bmod (uh j) 256))))] ++ pl) := by intros; subst_vars; rfl
    have eW := eW en (if ((1 ≤ kd ∧ kd ≤ 14) ∧ ¬ (1000000000 < en + 3 + cnt ∨ N ≤ (en + 3 + cnt - 1) / 500 - bg / 500)) then en + 3 + cnt else en) cnt (if ((1 ≤ kd ∧ kd ≤ 14) ∧ ¬ (1000000000 < en + 3 + cnt ∨ N ≤ (en + 3 + cnt - 1) / 500 - bg / 500)) then 0 else cnt) (by omega) (by omega)
    have hP : va_P (dC, dI) vwCl ([(d0, .inr (6, [.int (iZ N), .ref r0, .ref a0, .ref w0, .ref p0, .ref i0, .int (iZ bg), .int (iZ (if ((1 ≤ kd ∧ kd ≤ 14) ∧ ¬ (1000000000 < en + 3 + cnt ∨ N ≤ (en + 3 + cnt - 1) / 500 - bg / 500)) then en + 3 + cnt else en)), .int (iZ fl), .int (iZ rs)])), (r0, .inr (4, [.ref r1])), (r1, .inl (cQ, 32, .inr (.inr (.inr (.inr g))))), (a0, .inr (2, [.ref a1, .int (iZ (if ((1 ≤ kd ∧ kd ≤ 14) ∧ ¬ (1000000000 < en + 3 + cnt ∨ N ≤ (en + 3 + cnt - 1) / 500 - bg / 500)) then 0 else cnt))])), (a1, .inl (cB, 600, .inl (fun j => iZ (Int.bmod (uh j) 256))))] ++ pl) s.heap := eW ▸ hP
    have hD : va_D A ([(d0, .inr (6, [.int (iZ N), .ref r0, .ref a0, .ref w0, .ref p0, .ref i0, .int (iZ bg), .int (iZ (if ((1 ≤ kd ∧ kd ≤ 14) ∧ ¬ (1000000000 < en + 3 + cnt ∨ N ≤ (en + 3 + cnt - 1) / 500 - bg / 500)) then en + 3 + cnt else en)), .int (iZ fl), .int (iZ rs)])), (r0, .inr (4, [.ref r1])), (r1, .inl (cQ, 32, .inr (.inr (.inr (.inr g))))), (a0, .inr (2, [.ref a1, .int (iZ (if ((1 ≤ kd ∧ kd ≤ 14) ∧ ¬ (1000000000 < en + 3 + cnt ∨ N ≤ (en + 3 + cnt - 1) / 500 - bg / 500)) then 0 else cnt))])), (a1, .inl (cB, 600, .inl (fun j => iZ (Int.bmod (uh j) 256))))] ++ pl) := eW ▸ hD
    refine W.widen (k := 2 * (cal (aW (aP (aP (aP al en) (en + 1)) (en + 2)) (en + 3) cnt.toNat) 32 - cal al 32)) (n := 501 * (cal (aW (aP (aP (aP al en) (en + 1)) (en + 2)) (en + 3) cnt.toNat) 32 - cal al 32)) (by omega) (by omega) ?_
    subst hQ
    obtain ⟨qs, hws⟩ := th_hw hown htg hTH hAe hS (i0 := 59) (i2 := 63) k_254 k_255 k_11 (show Cond.stringRef "LogDesk" 61 "the kind is not 1 .. 14" ∈ thW by simp [thW]) own_63
    subst hAe
    exact zt_throw hx hb hne hlocks hfl (by decide) hws d_De_append_11 d_De_append_14 d_De_append_15 d_De_append_17 d_De_append_20 (hl.1.trans hml.symm) (Nat.le_of_ble_eq_true rfl) (Nat.le_of_ble_eq_true rfl) (by omega) (by omega) (zt_q (pl, g) hP hD hK hS (by rw [if_neg (fun h => by omega), if_neg (fun h => by omega)]; exact hR) (Or.inl ⟨(by omega), rfl⟩)) hS.2.2
  · refine lv_iload_n hx hb d_De_append_5 rfl (lv_at hl 1 rfl) ?_
    refine lv_bipush (v := iZ 15) hx hb d_De_append_6 (by decide) ?_
    refine zz_icmp_lt (tgt := 21) hx hb d_De_append_8 (by decide) ⟨by omega, by omega⟩ ⟨by omega, by omega⟩ (fun c_2 => ?_) (fun c_2 => ?_)
    · refine lv_aload_n hx hb d_De_append_21 rfl (lv_at hl 0 rfl) ?_
      refine va_get (D := (dC, dI)) (ci := 6) (v := .ref a0) (C := "LogDesk") (T := F_De) (N := 10) hx hb htg hin_De hown hK hP 0 rfl rfl 2 (by decide) (htg _ k_92) (fun _ h9 => h9) rfl d_De_append_22 ?_
      refine zq_i (wr := [(d0, .inr (6, [.int (iZ N), .ref r0, .ref a0, .ref w0, .ref p0, .ref i0, .int (iZ bg), .int (iZ en), .int (iZ fl), .int (iZ rs)])), (r0, .inr (4, [.ref r1])), (r1, .inl (cQ, 32, .inr (.inr (.inr (.inr g)))))]) (va_runV (As := []) (rest := []) ⟨hx, hb, hml, hown, htg⟩ (c_Ha_count l dC dI cB cI cJ cZ cQ a0 a1 s.heap.size cnt uh) (cwV 0 htg (gw_V k_230 k_231 k_232 k_3 k_233) rfl rfl rfl (by decide +kernel) ⟨Nat.le_of_ble_eq_true rfl, Nat.le_of_ble_eq_true rfl⟩) (zPreV hK hP hD hZ [3, 4] rfl (by decide) 3 (ci := 2) rfl rfl) rfl rfl hl.1 rfl (lv_room (Nat.le_of_ble_eq_true rfl)) d_De_append_25 ⟨by omega, by omega⟩) hP hD hS hA [3, 4] [0, 1, 2] rfl rfl (by decide) (by decide) rfl (fun H locs hP hD hS => ?_)
      have hP : va_P (dC, dI) vwCl ([(d0, .inr (6, [.int (iZ N), .ref r0, .ref a0, .ref w0, .ref p0, .ref i0, .int (iZ bg), .int (iZ en), .int (iZ fl), .int (iZ rs)])), (r0, .inr (4, [.ref r1])), (r1, .inl (cQ, 32, .inr (.inr (.inr (.inr g))))), (a0, .inr (2, [.ref a1, .int (iZ cnt)])), (a1, .inl (cB, 600, .inl (fun j => iZ (Int.bmod (uh j) 256))))] ++ pl) H := hP
      have hD : va_D A ([(d0, .inr (6, [.int (iZ N), .ref r0, .ref a0, .ref w0, .ref p0, .ref i0, .int (iZ bg), .int (iZ en), .int (iZ fl), .int (iZ rs)])), (r0, .inr (4, [.ref r1])), (r1, .inl (cQ, 32, .inr (.inr (.inr (.inr g))))), (a0, .inr (2, [.ref a1, .int (iZ cnt)])), (a1, .inl (cB, 600, .inl (fun j => iZ (Int.bmod (uh j) 256))))] ++ pl) := hD
      refine lv_istore_n (lv' := [(2, .int (iZ cnt)), (0, .ref d0), (1, .int (iZ kd))]) hx hb d_De_append_28 rfl hl (by decide) rfl (fun ls hl => ?_)
      refine lv_aload_n hx hb d_De_append_29 rfl (lv_at hl 1 rfl) ?_
      refine lv_iload_n hx hb d_De_append_30 rfl (lv_at hl 0 rfl) ?_
      refine zq_i (wr := [(r0, .inr (4, [.ref r1])), (r1, .inl (cQ, 32, .inr (.inr (.inr (.inr g))))), (a0, .inr (2, [.ref a1, .int (iZ cnt)])), (a1, .inl (cB, 600, .inl (fun j => iZ (Int.bmod (uh j) 256))))]) (va_runV (As := [.int (iZ cnt)]) (rest := []) ⟨hx, hb, hml, hown, htg⟩ (c_De_isFullFor l dC dI cB cI cJ cZ cQ d0 r0 a0 w0 p0 i0 H.size N bg en fl rs cnt hpl (by omega) hN) (cwV 1 htg (gw_V k_322 k_324 k_p4 k_1 k_325) rfl rfl rfl (by decide +kernel) ⟨Nat.le_of_ble_eq_true rfl, Nat.le_of_ble_eq_true rfl⟩) (zPreV hK hP hD hZ [0] rfl (by decide) 0 (ci := 6) rfl rfl) rfl rfl hl.1 rfl (lv_room (Nat.le_of_ble_eq_true rfl)) d_De_append_31 ⟨by omega, by omega⟩) hP hD hS hA [0] [1, 2, 3, 4] rfl rfl (by decide) (by decide) rfl (fun H locs hP hD hS => ?_)
      have hP : va_P (dC, dI) vwCl ([(r0, .inr (4, [.ref r1])), (r1, .inl (cQ, 32, .inr (.inr (.inr (.inr g))))), (a0, .inr (2, [.ref a1, .int (iZ cnt)])), (a1, .inl (cB, 600, .inl (fun j => iZ (Int.bmod (uh j) 256)))), (d0, .inr (6, [.int (iZ N), .ref r0, .ref a0, .ref w0, .ref p0, .ref i0, .int (iZ bg), .int (iZ en), .int (iZ fl), .int (iZ rs)]))] ++ pl) H := hP
      have hD : va_D A ([(r0, .inr (4, [.ref r1])), (r1, .inl (cQ, 32, .inr (.inr (.inr (.inr g))))), (a0, .inr (2, [.ref a1, .int (iZ cnt)])), (a1, .inl (cB, 600, .inl (fun j => iZ (Int.bmod (uh j) 256)))), (d0, .inr (6, [.int (iZ N), .ref r0, .ref a0, .ref w0, .ref p0, .ref i0, .int (iZ bg), .int (iZ en), .int (iZ fl), .int (iZ rs)]))] ++ pl) := hD
      rcases Classical.em (1000000000 < en + 3 + cnt ∨ N ≤ (en + 3 + cnt - 1) / 500 - bg / 500) with b_3 | b_3
      · rw [if_pos b_3]
        refine zz_if_eq (tgt := 47) hx hb d_De_append_34 (by decide) ⟨by omega, by omega⟩ (fun c_4 => ?_) (fun c_4 => ?_)
        · exfalso; omega
        · have hP := hP.part (cx := [(d0, .inr (6, [.int (iZ N), .ref r0, .ref a0, .ref w0, .ref p0, .ref i0, .int (iZ bg), .int (iZ en), .int (iZ fl), .int (iZ rs)])), (r0, .inr (4, [.ref r1])), (r1, .inl (cQ, 32, .inr (.inr (.inr (.inr g))))), (a0, .inr (2, [.ref a1, .int (iZ cnt)])), (a1, .inl (cB, 600, .inl (fun j => iZ (Int.bmod (uh j) 256))))]) [4, 0, 1, 2, 3] rfl
          have hD := hD.part (cx := [(d0, .inr (6, [.int (iZ N), .ref r0, .ref a0, .ref w0, .ref p0, .ref i0, .int (iZ bg), .int (iZ en), .int (iZ fl), .int (iZ rs)])), (r0, .inr (4, [.ref r1])), (r1, .inl (cQ, 32, .inr (.inr (.inr (.inr g))))), (a0, .inr (2, [.ref a1, .int (iZ cnt)])), (a1, .inl (cB, 600, .inl (fun j => iZ (Int.bmod (uh j) 256))))]) [4, 0, 1, 2, 3] (by decide) rfl
          have eW : ∀ (x0 y0 : Int) (x1 y1 : Int), x0 = y0 → x1 = y1 → (([(d0, .inr (6, [.int (iZ N), .ref r0, .ref a0, .ref w0, .ref p0, .ref i0, .int (iZ bg), .int (iZ x0), .int (iZ fl), .int (iZ rs)])), (r0, .inr (4, [.ref r1])), (r1, .inl (cQ, 32, .inr (.inr (.inr (.inr g))))), (a0, .inr (2, [.ref a1, .int (iZ x1)])), (a1, .inl (cB, 600, .inl (fun j => iZ (Int.bmod (uh j) 256))))] ++ pl) : va_W) = ([(d0, .inr (6, [.int (iZ N), .ref r0, .ref a0, .ref w0, .ref p0, .ref i0, .int (iZ bg), .int (iZ y0), .int (iZ fl), .int (iZ rs)])), (r0, .inr (4, [.ref r1])), (r1, .inl (cQ, 32, .inr (.inr (.inr (.inr g))))), (a0, .inr (2, [.ref a1, .int (iZ y1)])), (a1, .inl (cB, 600, .inl (fun j => iZ (Int.bmod (uh j) 256))))] ++ pl) := by intros; subst_vars; rfl
          have eW := eW en (if ((1 ≤ kd ∧ kd ≤ 14) ∧ ¬ (1000000000 < en + 3 + cnt ∨ N ≤ (en + 3 + cnt - 1) / 500 - bg / 500)) then en + 3 + cnt else en) cnt (if ((1 ≤ kd ∧ kd ≤ 14) ∧ ¬ (1000000000 < en + 3 + cnt ∨ N ≤ (en + 3 + cnt - 1) / 500 - bg / 500)) then 0 else cnt) (by omega) (by omega)
          have hP : va_P (dC, dI) vwCl ([(d0, .inr (6, [.int (iZ N), .ref r0, .ref a0, .ref w0, .ref p0, .ref i0, .int (iZ bg), .int (iZ (if ((1 ≤ kd ∧ kd ≤ 14) ∧ ¬ (1000000000 < en + 3 + cnt ∨ N ≤ (en + 3 + cnt - 1) / 500 - bg / 500)) then en + 3 + cnt else en)), .int (iZ fl), .int (iZ rs)])), (r0, .inr (4, [.ref r1])), (r1, .inl (cQ, 32, .inr (.inr (.inr (.inr g))))), (a0, .inr (2, [.ref a1, .int (iZ (if ((1 ≤ kd ∧ kd ≤ 14) ∧ ¬ (1000000000 < en + 3 + cnt ∨ N ≤ (en + 3 + cnt - 1) / 500 - bg / 500)) then 0 else cnt))])), (a1, .inl (cB, 600, .inl (fun j => iZ (Int.bmod (uh j) 256))))] ++ pl) H := eW ▸ hP
          have hD : va_D A ([(d0, .inr (6, [.int (iZ N), .ref r0, .ref a0, .ref w0, .ref p0, .ref i0, .int (iZ bg), .int (iZ (if ((1 ≤ kd ∧ kd ≤ 14) ∧ ¬ (1000000000 < en + 3 + cnt ∨ N ≤ (en + 3 + cnt - 1) / 500 - bg / 500)) then en + 3 + cnt else en)), .int (iZ fl), .int (iZ rs)])), (r0, .inr (4, [.ref r1])), (r1, .inl (cQ, 32, .inr (.inr (.inr (.inr g))))), (a0, .inr (2, [.ref a1, .int (iZ (if ((1 ≤ kd ∧ kd ≤ 14) ∧ ¬ (1000000000 < en + 3 + cnt ∨ N ≤ (en + 3 + cnt - 1) / 500 - bg / 500)) then 0 else cnt))])), (a1, .inl (cB, 600, .inl (fun j => iZ (Int.bmod (uh j) 256))))] ++ pl) := eW ▸ hD
          refine W.widen (k := 2 * (cal (aW (aP (aP (aP al en) (en + 1)) (en + 2)) (en + 3) cnt.toNat) 32 - cal al 32)) (n := 501 * (cal (aW (aP (aP (aP al en) (en + 1)) (en + 2)) (en + 3) cnt.toNat) 32 - cal al 32)) (by omega) (by omega) ?_
          subst hQ
          obtain ⟨qs, hws⟩ := th_hw hown htg hTH hAe hS (i0 := 73) (i2 := 77) k_328 k_329 k_12 (show Cond.stringRef "LogDesk" 75 "the log is full" ∈ thW by simp [thW]) own_77
          subst hAe
          exact zt_throw hx hb hne hlocks hfl (by decide) hws d_De_append_37 d_De_append_40 d_De_append_41 d_De_append_43 d_De_append_46 (hl.1.trans hml.symm) (Nat.le_of_ble_eq_true rfl) (Nat.le_of_ble_eq_true rfl) (by omega) (by omega) (zt_q (pl, g) hP hD hK hS (by rw [if_neg (fun h => by omega), if_neg (fun h => by omega)]; exact hR) (Or.inr ⟨(by omega), rfl⟩)) hS.2.2
      · rw [if_neg b_3]
        refine zz_if_eq (tgt := 47) hx hb d_De_append_34 (by decide) ⟨by omega, by omega⟩ (fun c_5 => ?_) (fun c_5 => ?_)
        · refine lv_aload_n hx hb d_De_append_47 rfl (lv_at hl 1 rfl) ?_
          refine lv_iload_n hx hb d_De_append_48 rfl (lv_at hl 2 rfl) ?_
          refine lv_iload_n hx hb d_De_append_49 rfl (lv_at hl 0 rfl) ?_
          refine zxp_i (wr := [(a0, .inr (2, [.ref a1, .int (iZ cnt)])), (a1, .inl (cB, 600, .inl (fun j => iZ (Int.bmod (uh j) 256))))]) (va_runV (As := [.int (iZ kd), .int (iZ cnt)]) (rest := []) ⟨hx, hb, hml, hown, htg⟩ (c_De_writeHead l dC dI cB cI cJ cZ cQ d0 r0 a0 w0 p0 i0 r1 H.size N bg en fl rs pl g al u kd cnt hR hpl (by omega)) (cwV 2 htg (gw_V k_344 k_346 k_p5 k_1 k_347) rfl rfl rfl (by decide +kernel) ⟨Nat.le_of_ble_eq_true rfl, Nat.le_of_ble_eq_true rfl⟩) (zPreVP hK hP hD hZ [4, 0, 1] rfl (by decide) 4 (ci := 6) rfl rfl) rfl rfl hl.1 rfl (lv_room (Nat.le_of_ble_eq_true rfl)) d_De_append_50 ⟨by omega, by omega⟩) hP hD hS hA [4, 0, 1] [2, 3] rfl rfl (by decide) (by decide) (fun uu_9 hq_8 H locs hP hD hS => ?_)
          obtain ⟨pl2_6, g2_7⟩ := uu_9
          try dsimp only at hq_8
          have hP : va_P (dC, dI) vwCl ([(a0, .inr (2, [.ref a1, .int (iZ cnt)])), (a1, .inl (cB, 600, .inl (fun j => iZ (Int.bmod (uh j) 256)))), (d0, .inr (6, [.int (iZ N), .ref r0, .ref a0, .ref w0, .ref p0, .ref i0, .int (iZ bg), .int (iZ en), .int (iZ fl), .int (iZ rs)])), (r0, .inr (4, [.ref r1])), (r1, .inl (cQ, 32, .inr (.inr (.inr (.inr g2_7)))))] ++ pl2_6) H := hP
          have hD : va_D A ([(a0, .inr (2, [.ref a1, .int (iZ cnt)])), (a1, .inl (cB, 600, .inl (fun j => iZ (Int.bmod (uh j) 256)))), (d0, .inr (6, [.int (iZ N), .ref r0, .ref a0, .ref w0, .ref p0, .ref i0, .int (iZ bg), .int (iZ en), .int (iZ fl), .int (iZ rs)])), (r0, .inr (4, [.ref r1])), (r1, .inl (cQ, 32, .inr (.inr (.inr (.inr g2_7)))))] ++ pl2_6) := hD
          have hqh := hq_8
          have e0 : cal (aW (aP (aP (aP al en) (en + 1)) (en + 2)) (en + 3) (Int.toNat 0)) 32 = cal (aP (aP (aP al en) (en + 1)) (en + 2)) 32 := rfl
          refine lv_istore_n (lv' := [(3, .int (iZ (en + 3))), (2, .int (iZ cnt)), (0, .ref d0), (1, .int (iZ kd))]) hx hb d_De_append_53 rfl hl (by decide) rfl (fun ls hl => ?_)
          refine lv_iconst (v := iZ 0) hx hb d_De_append_54 rfl ?_
          refine lv_istore (lv' := [(4, .int (iZ 0)), (3, .int (iZ (en + 3))), (2, .int (iZ cnt)), (0, .ref d0), (1, .int (iZ kd))]) hx hb d_De_append_55 hl (by decide) rfl (fun ls hl => ?_)
          have loop57 : ∀ (nn : Nat) (i : Int) (pv : va_W) (gv : Nat → Option Nat) (H : Heap) (locs : List Loc) (ls : Array Slot), (0 ≤ i ∧ i ≤ cnt) → (RK cB pv gv (aW (aP (aP (aP al en) (en + 1)) (en + 2)) (en + 3) (Int.toNat i)) (uW (uP (uP (uP u en kd) (en + 1) (cnt / 256)) (en + 2) cnt) (en + 3) (fun j => uh j % 256) (Int.toNat i))) → (cnt - i < (nn : Int)) → va_P (dC, dI) vwCl ([(d0, .inr (6, [.int (iZ N), .ref r0, .ref a0, .ref w0, .ref p0, .ref i0, .int (iZ bg), .int (iZ en), .int (iZ fl), .int (iZ rs)])), (r0, .inr (4, [.ref r1])), (r1, .inl (cQ, 32, .inr (.inr (.inr (.inr gv))))), (a0, .inr (2, [.ref a1, .int (iZ cnt)])), (a1, .inl (cB, 600, .inl (fun j => iZ (Int.bmod (uh j) 256))))] ++ pv) H → va_D A ([(d0, .inr (6, [.int (iZ N), .ref r0, .ref a0, .ref w0, .ref p0, .ref i0, .int (iZ bg), .int (iZ en), .int (iZ fl), .int (iZ rs)])), (r0, .inr (4, [.ref r1])), (r1, .inl (cQ, 32, .inr (.inr (.inr (.inr gv))))), (a0, .inr (2, [.ref a1, .int (iZ cnt)])), (a1, .inl (cB, 600, .inl (fun j => iZ (Int.bmod (uh j) 256))))] ++ pv) → va_S A s.heap H locs → lv_has ls 5 [(0, .ref d0), (1, .int (iZ kd)), (2, .int (iZ cnt)), (3, .int (iZ (en + 3))), (4, .int (iZ i))] → W p l e (headSpec ((Cond.code y_De_append prog_1_method_4_code 5 (some .int)) :: gw) ({ frames := 6, cells := (2 * (cal (aW (aP (aP (aP al en) (en + 1)) (en + 2)) (en + 3) cnt.toNat) 32 - cal al 32) + 1), slots := (501 * (cal (aW (aP (aP (aP al en) (en + 1)) (en + 2)) (en + 3) cnt.toNat) 32 - cal al 32) + 6), locals := 100 } : Room)).room s m [.ref d0, .int (iZ kd)].toArray below meth c H locs (2 * (cal (aW (aP (aP (aP al en) (en + 1)) (en + 2)) (en + 3) (Int.toNat i)) 32 - cal al 32)) (501 * (cal (aW (aP (aP (aP al en) (en + 1)) (en + 2)) (en + 3) (Int.toNat i)) 32 - cal al 32)) QQ (F0 m 57 ls []) := by
            intro nn
            induction nn with
            | zero => intro i pv gv H locs ls hi hw hm hP hD hS hl; exfalso; omega
            | succ nn ih =>
              intro i pv gv H locs ls hi hw hm hP hD hS hl
              have mi := aW_mono (aP (aP (aP al en) (en + 1)) (en + 2)) (en + 3) i.toNat
              have mk := aW_le (aP (aP (aP al en) (en + 1)) (en + 2)) (en + 3) (show i.toNat ≤ cnt.toNat by omega)
              refine lv_iload hx hb d_De_append_57 (lv_at hl 4 rfl) ?_
              refine lv_iload_n hx hb d_De_append_59 rfl (lv_at hl 2 rfl) ?_
              refine zz_icmp_ge (tgt := 89) hx hb d_De_append_60 (by decide) ⟨by omega, by omega⟩ ⟨by omega, by omega⟩ (fun c_10 => ?_) (fun c_10 => ?_)
              · obtain rfl : cnt = i := by omega
                refine lv_aload_n hx hb d_De_append_89 rfl (lv_at hl 0 rfl) ?_
                refine lv_iload_n hx hb d_De_append_90 rfl (lv_at hl 3 rfl) ?_
                refine lv_iload_n hx hb d_De_append_91 rfl (lv_at hl 2 rfl) ?_
                refine zz_iadd hx hb d_De_append_92 ?_
                refine va_put (D := (dC, dI)) (ci := 6) (v := .int (iZ ((en + 3) + cnt))) (ty := t_De 7) (C := "LogDesk") (T := F_De) (N := 10) hx hb htg hin_De t_De t_De_ok n_De hown hK hP hD hS 0 rfl rfl 7 (by decide) (htg _ k_97) (fun _ h9 => h9) rfl (by decide +kernel) rfl rfl (Nat.le_of_ble_eq_true rfl) d_De_append_93 (fun H locs hP hD hS => ?_)
                have hP : va_P (dC, dI) vwCl ([(d0, .inr (6, [.int (iZ N), .ref r0, .ref a0, .ref w0, .ref p0, .ref i0, .int (iZ bg), .int (iZ ((en + 3) + cnt)), .int (iZ fl), .int (iZ rs)])), (r0, .inr (4, [.ref r1])), (r1, .inl (cQ, 32, .inr (.inr (.inr (.inr gv))))), (a0, .inr (2, [.ref a1, .int (iZ cnt)])), (a1, .inl (cB, 600, .inl (fun j => iZ (Int.bmod (uh j) 256))))] ++ pv) H := hP
                have hD : va_D A ([(d0, .inr (6, [.int (iZ N), .ref r0, .ref a0, .ref w0, .ref p0, .ref i0, .int (iZ bg), .int (iZ ((en + 3) + cnt)), .int (iZ fl), .int (iZ rs)])), (r0, .inr (4, [.ref r1])), (r1, .inl (cQ, 32, .inr (.inr (.inr (.inr gv))))), (a0, .inr (2, [.ref a1, .int (iZ cnt)])), (a1, .inl (cB, 600, .inl (fun j => iZ (Int.bmod (uh j) 256))))] ++ pv) := hD
                refine lv_aload_n hx hb d_De_append_96 rfl (lv_at hl 0 rfl) ?_
                refine va_get (D := (dC, dI)) (ci := 6) (v := .ref a0) (C := "LogDesk") (T := F_De) (N := 10) hx hb htg hin_De hown hK hP 0 rfl rfl 2 (by decide) (htg _ k_92) (fun _ h9 => h9) rfl d_De_append_97 ?_
                refine zq_v (wr := [(d0, .inr (6, [.int (iZ N), .ref r0, .ref a0, .ref w0, .ref p0, .ref i0, .int (iZ bg), .int (iZ ((en + 3) + cnt)), .int (iZ fl), .int (iZ rs)])), (r0, .inr (4, [.ref r1])), (r1, .inl (cQ, 32, .inr (.inr (.inr (.inr gv)))))]) (va_runV (As := []) (rest := []) ⟨hx, hb, hml, hown, htg⟩ (c_Ha_clear l dC dI cB cI cJ cZ cQ a0 a1 H.size cnt uh) (cwV 0 htg (gw_V k_203 k_204 k_205 k_3 k_206) rfl rfl rfl (by decide +kernel) ⟨Nat.le_of_ble_eq_true rfl, Nat.le_of_ble_eq_true rfl⟩) (zPreV hK hP hD hZ [3, 4] rfl (by decide) 3 (ci := 2) rfl rfl) rfl rfl hl.1 rfl (lv_room (Nat.le_of_ble_eq_true rfl)) d_De_append_100 ⟨by omega, by omega⟩) hP hD hS hA [3, 4] [0, 1, 2] rfl rfl (by decide) (by decide) rfl (fun H locs hP hD hS => ?_)
                have hP : va_P (dC, dI) vwCl ([(d0, .inr (6, [.int (iZ N), .ref r0, .ref a0, .ref w0, .ref p0, .ref i0, .int (iZ bg), .int (iZ ((en + 3) + cnt)), .int (iZ fl), .int (iZ rs)])), (r0, .inr (4, [.ref r1])), (r1, .inl (cQ, 32, .inr (.inr (.inr (.inr gv))))), (a0, .inr (2, [.ref a1, .int (iZ 0)])), (a1, .inl (cB, 600, .inl (fun j => iZ (Int.bmod (uh j) 256))))] ++ pv) H := hP
                have hD : va_D A ([(d0, .inr (6, [.int (iZ N), .ref r0, .ref a0, .ref w0, .ref p0, .ref i0, .int (iZ bg), .int (iZ ((en + 3) + cnt)), .int (iZ fl), .int (iZ rs)])), (r0, .inr (4, [.ref r1])), (r1, .inl (cQ, 32, .inr (.inr (.inr (.inr gv))))), (a0, .inr (2, [.ref a1, .int (iZ 0)])), (a1, .inl (cB, 600, .inl (fun j => iZ (Int.bmod (uh j) 256))))] ++ pv) := hD
                refine lv_aload_n hx hb d_De_append_103 rfl (lv_at hl 0 rfl) ?_
                refine va_get (D := (dC, dI)) (ci := 6) (v := .int (iZ ((en + 3) + cnt))) (C := "LogDesk") (T := F_De) (N := 10) hx hb htg hin_De hown hK hP 0 rfl rfl 7 (by decide) (htg _ k_97) (fun _ h9 => h9) rfl d_De_append_104 ?_
                have eW : ∀ (x0 y0 : Int) (x1 y1 : Int), x0 = y0 → x1 = y1 → (([(d0, .inr (6, [.int (iZ N), .ref r0, .ref a0, .ref w0, .ref p0, .ref i0, .int (iZ bg), .int (iZ x0), .int (iZ fl), .int (iZ rs)])), (r0, .inr (4, [.ref r1])), (r1, .inl (cQ, 32, .inr (.inr (.inr (.inr gv))))), (a0, .inr (2, [.ref a1, .int (iZ x1)])), (a1, .inl (cB, 600, .inl (fun j => iZ (Int.bmod (uh j) 256))))] ++ pv) : va_W) = ([(d0, .inr (6, [.int (iZ N), .ref r0, .ref a0, .ref w0, .ref p0, .ref i0, .int (iZ bg), .int (iZ y0), .int (iZ fl), .int (iZ rs)])), (r0, .inr (4, [.ref r1])), (r1, .inl (cQ, 32, .inr (.inr (.inr (.inr gv))))), (a0, .inr (2, [.ref a1, .int (iZ y1)])), (a1, .inl (cB, 600, .inl (fun j => iZ (Int.bmod (uh j) 256))))] ++ pv) := by intros; subst_vars; rfl
                have eW := eW ((en + 3) + cnt) (if ((1 ≤ kd ∧ kd ≤ 14) ∧ ¬ (1000000000 < en + 3 + cnt ∨ N ≤ (en + 3 + cnt - 1) / 500 - bg / 500)) then en + 3 + cnt else en) 0 (if ((1 ≤ kd ∧ kd ≤ 14) ∧ ¬ (1000000000 < en + 3 + cnt ∨ N ≤ (en + 3 + cnt - 1) / 500 - bg / 500)) then 0 else cnt) (by omega) (by omega)
                have hP : va_P (dC, dI) vwCl ([(d0, .inr (6, [.int (iZ N), .ref r0, .ref a0, .ref w0, .ref p0, .ref i0, .int (iZ bg), .int (iZ (if ((1 ≤ kd ∧ kd ≤ 14) ∧ ¬ (1000000000 < en + 3 + cnt ∨ N ≤ (en + 3 + cnt - 1) / 500 - bg / 500)) then en + 3 + cnt else en)), .int (iZ fl), .int (iZ rs)])), (r0, .inr (4, [.ref r1])), (r1, .inl (cQ, 32, .inr (.inr (.inr (.inr gv))))), (a0, .inr (2, [.ref a1, .int (iZ (if ((1 ≤ kd ∧ kd ≤ 14) ∧ ¬ (1000000000 < en + 3 + cnt ∨ N ≤ (en + 3 + cnt - 1) / 500 - bg / 500)) then 0 else cnt))])), (a1, .inl (cB, 600, .inl (fun j => iZ (Int.bmod (uh j) 256))))] ++ pv) H := eW ▸ hP
                have hD : va_D A ([(d0, .inr (6, [.int (iZ N), .ref r0, .ref a0, .ref w0, .ref p0, .ref i0, .int (iZ bg), .int (iZ (if ((1 ≤ kd ∧ kd ≤ 14) ∧ ¬ (1000000000 < en + 3 + cnt ∨ N ≤ (en + 3 + cnt - 1) / 500 - bg / 500)) then en + 3 + cnt else en)), .int (iZ fl), .int (iZ rs)])), (r0, .inr (4, [.ref r1])), (r1, .inl (cQ, 32, .inr (.inr (.inr (.inr gv))))), (a0, .inr (2, [.ref a1, .int (iZ (if ((1 ≤ kd ∧ kd ≤ 14) ∧ ¬ (1000000000 < en + 3 + cnt ∨ N ≤ (en + 3 + cnt - 1) / 500 - bg / 500)) then 0 else cnt))])), (a1, .inl (cB, 600, .inl (fun j => iZ (Int.bmod (uh j) 256))))] ++ pv) := eW ▸ hD
                refine W.widen (k := (2 * (cal (aW (aP (aP (aP al en) (en + 1)) (en + 2)) (en + 3) cnt.toNat) 32 - cal al 32) + 1)) (n := (501 * (cal (aW (aP (aP (aP al en) (en + 1)) (en + 2)) (en + 3) cnt.toNat) 32 - cal al 32) + 6)) (by omega) (by omega) ?_
                subst hQ
                refine W.mono (fun t h => MQT.of h) ?_
                exact W.iret (v := (iZ ((en + 3) + cnt))) hx hb hr (fun t ht hW => ⟨⟨(pv, gv), by rw [if_pos (show ((1 ≤ kd ∧ kd ≤ 14) ∧ ¬ (1000000000 < en + 3 + cnt ∨ N ≤ (en + 3 + cnt - 1) / 500 - bg / 500)) from ⟨⟨by omega, by omega⟩, by omega⟩), if_pos (show ((1 ≤ kd ∧ kd ≤ 14) ∧ ¬ (1000000000 < en + 3 + cnt ∨ N ≤ (en + 3 + cnt - 1) / 500 - bg / 500)) from ⟨⟨by omega, by omega⟩, by omega⟩)]; exact hw, ⟨by rw [ht]; exact hP, va_K.moved hW.alike hK, hAe ▸ hD⟩, Or.inl ⟨by omega, congrArg (fun z => Outcome.returned (some (.int (iZ z)))) (by omega)⟩⟩, hAe ▸ hS.F ht⟩) (hAe ▸ hS.2.2) d_De_append_107
              · refine lv_aload_n hx hb d_De_append_63 rfl (lv_at hl 0 rfl) ?_
                refine va_get (D := (dC, dI)) (ci := 6) (v := .ref r0) (C := "LogDesk") (T := F_De) (N := 10) hx hb htg hin_De hown hK hP 0 rfl rfl 1 (by decide) (htg _ k_91) (fun _ h9 => h9) rfl d_De_append_64 ?_
                refine lv_iload_n hx hb d_De_append_67 rfl (lv_at hl 3 rfl) ?_
                refine lv_iload hx hb d_De_append_68 (lv_at hl 4 rfl) ?_
                refine zz_iadd hx hb d_De_append_70 ?_
                refine lv_aload_n hx hb d_De_append_71 rfl (lv_at hl 0 rfl) ?_
                refine va_get (D := (dC, dI)) (ci := 6) (v := .ref a0) (C := "LogDesk") (T := F_De) (N := 10) hx hb htg hin_De hown hK hP 0 rfl rfl 2 (by decide) (htg _ k_92) (fun _ h9 => h9) rfl d_De_append_72 ?_
                refine lv_iload hx hb d_De_append_75 (lv_at hl 4 rfl) ?_
                refine zq_i (wr := [(d0, .inr (6, [.int (iZ N), .ref r0, .ref a0, .ref w0, .ref p0, .ref i0, .int (iZ bg), .int (iZ en), .int (iZ fl), .int (iZ rs)])), (r0, .inr (4, [.ref r1])), (r1, .inl (cQ, 32, .inr (.inr (.inr (.inr gv)))))]) (va_runV (As := [.int (iZ i)]) (rest := [.int (iZ ((en + 3) + i)), .ref r0]) ⟨hx, hb, hml, hown, htg⟩ (c_Ha_get l dC dI cB cI cJ cZ cQ a0 a1 H.size cnt uh i hc (by omega)) (cwV 1 htg (gw_V k_362 k_363 k_364 k_3 k_365) rfl rfl rfl (by decide +kernel) ⟨Nat.le_of_ble_eq_true rfl, Nat.le_of_ble_eq_true rfl⟩) (zPreV hK hP hD hZ [3, 4] rfl (by decide) 3 (ci := 2) rfl rfl) rfl rfl hl.1 rfl (lv_room (Nat.le_of_ble_eq_true rfl)) d_De_append_77 ⟨by omega, by omega⟩) hP hD hS hA [3, 4] [0, 1, 2] rfl rfl (by decide) (by decide) rfl (fun H locs hP hD hS => ?_)
                have hP : va_P (dC, dI) vwCl ([(d0, .inr (6, [.int (iZ N), .ref r0, .ref a0, .ref w0, .ref p0, .ref i0, .int (iZ bg), .int (iZ en), .int (iZ fl), .int (iZ rs)])), (r0, .inr (4, [.ref r1])), (r1, .inl (cQ, 32, .inr (.inr (.inr (.inr gv))))), (a0, .inr (2, [.ref a1, .int (iZ cnt)])), (a1, .inl (cB, 600, .inl (fun j => iZ (Int.bmod (uh j) 256))))] ++ pv) H := hP
                have hD : va_D A ([(d0, .inr (6, [.int (iZ N), .ref r0, .ref a0, .ref w0, .ref p0, .ref i0, .int (iZ bg), .int (iZ en), .int (iZ fl), .int (iZ rs)])), (r0, .inr (4, [.ref r1])), (r1, .inl (cQ, 32, .inr (.inr (.inr (.inr gv))))), (a0, .inr (2, [.ref a1, .int (iZ cnt)])), (a1, .inl (cB, 600, .inl (fun j => iZ (Int.bmod (uh j) 256))))] ++ pv) := hD
                have es := aW_succ (aP (aP (aP al en) (en + 1)) (en + 2)) (en + 3) (i := i) (by omega)
                have ec := congrArg (fun z => cal z 32) es
                have mk1 := aW_le (aP (aP (aP al en) (en + 1)) (en + 2)) (en + 3) (show (i + 1).toNat ≤ cnt.toNat by omega)
                have mj0 := aP_mono (aW (aP (aP (aP al en) (en + 1)) (en + 2)) (en + 3) i.toNat) (en + 3 + i)
                try dsimp only at ec
                refine zxp_v (wr := [(d0, .inr (6, [.int (iZ N), .ref r0, .ref a0, .ref w0, .ref p0, .ref i0, .int (iZ bg), .int (iZ en), .int (iZ fl), .int (iZ rs)])), (a0, .inr (2, [.ref a1, .int (iZ cnt)])), (a1, .inl (cB, 600, .inl (fun j => iZ (Int.bmod (uh j) 256))))]) (va_runV (As := [.int (iZ ((en + 3) + i)), .int (iZ (uh i.toNat % 256))]) (rest := []) ⟨hx, hb, hml, hown, htg⟩ (c_Ri_set l dC dI cB cI cJ cZ cQ r0 r1 H.size pv gv (aW (aP (aP (aP al en) (en + 1)) (en + 2)) (en + 3) i.toNat) (uW (uP (uP (uP u en kd) (en + 1) (cnt / 256)) (en + 2) cnt) (en + 3) (fun j => uh j % 256) i.toNat) ((en + 3) + i) (uh i.toNat % 256) hw (by omega)) (cwV 2 htg (gw_V k_348 k_349 k_350 k_2 k_351) rfl rfl rfl (by decide +kernel) ⟨Nat.le_of_ble_eq_true rfl, Nat.le_of_ble_eq_true rfl⟩) (zPreVP hK hP hD hZ [1, 2] rfl (by decide) 1 (ci := 4) rfl rfl) rfl rfl hl.1 rfl (lv_room (Nat.le_of_ble_eq_true rfl)) d_De_append_80 ⟨by omega, by omega⟩) hP hD hS hA [1, 2] [0, 3, 4] rfl rfl (by decide) (by decide) (fun uu_14 hq_13 H locs hP hD hS => ?_)
                obtain ⟨pl2_11, g2_12⟩ := uu_14
                try dsimp only at hq_13
                have hP : va_P (dC, dI) vwCl ([(d0, .inr (6, [.int (iZ N), .ref r0, .ref a0, .ref w0, .ref p0, .ref i0, .int (iZ bg), .int (iZ en), .int (iZ fl), .int (iZ rs)])), (a0, .inr (2, [.ref a1, .int (iZ cnt)])), (a1, .inl (cB, 600, .inl (fun j => iZ (Int.bmod (uh j) 256)))), (r0, .inr (4, [.ref r1])), (r1, .inl (cQ, 32, .inr (.inr (.inr (.inr g2_12)))))] ++ pl2_11) H := hP
                have hD : va_D A ([(d0, .inr (6, [.int (iZ N), .ref r0, .ref a0, .ref w0, .ref p0, .ref i0, .int (iZ bg), .int (iZ en), .int (iZ fl), .int (iZ rs)])), (a0, .inr (2, [.ref a1, .int (iZ cnt)])), (a1, .inl (cB, 600, .inl (fun j => iZ (Int.bmod (uh j) 256)))), (r0, .inr (4, [.ref r1])), (r1, .inl (cQ, 32, .inr (.inr (.inr (.inr g2_12)))))] ++ pl2_11) := hD
                have hq9 := hq_13
                refine lv_iinc (v := iZ (i + 1)) (lv' := [(4, .int (iZ (i + 1))), (0, .ref d0), (1, .int (iZ kd)), (2, .int (iZ cnt)), (3, .int (iZ (en + 3)))]) hx hb d_De_append_83 hl (k := 4) rfl (iZ_add _ _) (by decide) rfl (fun ls hl => ?_)
                refine lv_goto (tgt := 57) hx hb d_De_append_86 (by decide) ?_
                have es := aW_succ (aP (aP (aP al en) (en + 1)) (en + 2)) (en + 3) (i := i) (by omega)
                have mj := aP_mono (aW (aP (aP (aP al en) (en + 1)) (en + 2)) (en + 3) i.toNat) (en + 3 + i)
                rw [← es] at mj
                have ec := congrArg (fun z => cal z 32) es
                try dsimp only at ec
                refine W.widen (k := (2 * (cal (aW (aP (aP (aP al en) (en + 1)) (en + 2)) (en + 3) (Int.toNat (i + 1))) 32 - cal al 32))) (n := (501 * (cal (aW (aP (aP (aP al en) (en + 1)) (en + 2)) (en + 3) (Int.toNat (i + 1))) 32 - cal al 32))) (by omega) (by omega) ?_
                exact ih (i + 1) pl2_11 g2_12 H _ ls (by omega) (by rw [aW_succ _ _ (by omega), uW_succ _ _ _ (by omega)]; exact hq9) (by omega) (hP.part [0, 3, 4, 1, 2] rfl) (hD.part [0, 3, 4, 1, 2] (by decide) rfl) hS (lv_sub hl [1, 2, 3, 4, 0] rfl)
          refine W.widen (k := (2 * (cal (aW (aP (aP (aP al en) (en + 1)) (en + 2)) (en + 3) (Int.toNat 0)) 32 - cal al 32))) (n := (501 * (cal (aW (aP (aP (aP al en) (en + 1)) (en + 2)) (en + 3) (Int.toNat 0)) 32 - cal al 32))) (by omega) (by omega) ?_
          have hq8 := hqh
          exact loop57 (Int.toNat (cnt - 0) + 1) 0 pl2_6 g2_7 H _ ls (by omega) hq8 (by omega) (hP.part [2, 3, 4, 0, 1] rfl) (hD.part [2, 3, 4, 0, 1] (by decide) rfl) hS (lv_sub hl [3, 4, 2, 1, 0] rfl)
        · exfalso; omega
    · have eW : ∀ (x0 y0 : Int) (x1 y1 : Int), x0 = y0 → x1 = y1 → (([(d0, .inr (6, [.int (iZ N), .ref r0, .ref a0, .ref w0, .ref p0, .ref i0, .int (iZ bg), .int (iZ x0), .int (iZ fl), .int (iZ rs)])), (r0, .inr (4, [.ref r1])), (r1, .inl (cQ, 32, .inr (.inr (.inr (.inr g))))), (a0, .inr (2, [.ref a1, .int (iZ x1)])), (a1, .inl (cB, 600, .inl (fun j => iZ (Int.bmod (uh j) 256))))] ++ pl) : va_W) = ([(d0, .inr (6, [.int (iZ N), .ref r0, .ref a0, .ref w0, .ref p0, .ref i0, .int (iZ bg), .int (iZ y0), .int (iZ fl), .int (iZ rs)])), (r0, .inr (4, [.ref r1])), (r1, .inl (cQ, 32, .inr (.inr (.inr (.inr g))))), (a0, .inr (2, [.ref a1, .int (iZ y1)])), (a1, .inl (cB, 600, .inl (fun j => iZ (Int.bmod (uh j) 256))))] ++ pl) := by intros; subst_vars; rfl
      have eW := eW en (if ((1 ≤ kd ∧ kd ≤ 14) ∧ ¬ (1000000000 < en + 3 + cnt ∨ N ≤ (en + 3 + cnt - 1) / 500 - bg / 500)) then en + 3 + cnt else en) cnt (if ((1 ≤ kd ∧ kd ≤ 14) ∧ ¬ (1000000000 < en + 3 + cnt ∨ N ≤ (en + 3 + cnt - 1) / 500 - bg / 500)) then 0 else cnt) (by omega) (by omega)
      have hP : va_P (dC, dI) vwCl ([(d0, .inr (6, [.int (iZ N), .ref r0, .ref a0, .ref w0, .ref p0, .ref i0, .int (iZ bg), .int (iZ (if ((1 ≤ kd ∧ kd ≤ 14) ∧ ¬ (1000000000 < en + 3 + cnt ∨ N ≤ (en + 3 + cnt - 1) / 500 - bg / 500)) then en + 3 + cnt else en)), .int (iZ fl), .int (iZ rs)])), (r0, .inr (4, [.ref r1])), (r1, .inl (cQ, 32, .inr (.inr (.inr (.inr g))))), (a0, .inr (2, [.ref a1, .int (iZ (if ((1 ≤ kd ∧ kd ≤ 14) ∧ ¬ (1000000000 < en + 3 + cnt ∨ N ≤ (en + 3 + cnt - 1) / 500 - bg / 500)) then 0 else cnt))])), (a1, .inl (cB, 600, .inl (fun j => iZ (Int.bmod (uh j) 256))))] ++ pl) s.heap := eW ▸ hP
      have hD : va_D A ([(d0, .inr (6, [.int (iZ N), .ref r0, .ref a0, .ref w0, .ref p0, .ref i0, .int (iZ bg), .int (iZ (if ((1 ≤ kd ∧ kd ≤ 14) ∧ ¬ (1000000000 < en + 3 + cnt ∨ N ≤ (en + 3 + cnt - 1) / 500 - bg / 500)) then en + 3 + cnt else en)), .int (iZ fl), .int (iZ rs)])), (r0, .inr (4, [.ref r1])), (r1, .inl (cQ, 32, .inr (.inr (.inr (.inr g))))), (a0, .inr (2, [.ref a1, .int (iZ (if ((1 ≤ kd ∧ kd ≤ 14) ∧ ¬ (1000000000 < en + 3 + cnt ∨ N ≤ (en + 3 + cnt - 1) / 500 - bg / 500)) then 0 else cnt))])), (a1, .inl (cB, 600, .inl (fun j => iZ (Int.bmod (uh j) 256))))] ++ pl) := eW ▸ hD
      refine W.widen (k := 2 * (cal (aW (aP (aP (aP al en) (en + 1)) (en + 2)) (en + 3) cnt.toNat) 32 - cal al 32)) (n := 501 * (cal (aW (aP (aP (aP al en) (en + 1)) (en + 2)) (en + 3) cnt.toNat) 32 - cal al 32)) (by omega) (by omega) ?_
      subst hQ
      obtain ⟨qs, hws⟩ := th_hw hown htg hTH hAe hS (i0 := 59) (i2 := 63) k_254 k_255 k_11 (show Cond.stringRef "LogDesk" 61 "the kind is not 1 .. 14" ∈ thW by simp [thW]) own_63
      subst hAe
      exact zt_throw hx hb hne hlocks hfl (by decide) hws d_De_append_11 d_De_append_14 d_De_append_15 d_De_append_17 d_De_append_20 (hl.1.trans hml.symm) (Nat.le_of_ble_eq_true rfl) (Nat.le_of_ble_eq_true rfl) (by omega) (by omega) (zt_q (pl, g) hP hD hK hS (by rw [if_neg (fun h => by omega), if_neg (fun h => by omega)]; exact hR) (Or.inl ⟨(by omega), rfl⟩)) hS.2.2
end
section
set_option maxHeartbeats 4000000 in
set_option maxRecDepth 100000 in
/-- commit -/
theorem c_De_commit (l : Launch) (dC : Nat → ClassId) (dI : Nat → Nat → Nat) (cB : ClassId) (cI : ClassId) (cJ : ClassId) (cZ : ClassId) (cQ : ClassId) (d0 r0 a0 w0 p0 i0 r1 w1 : Nat) (sz : Nat) (hfl : l.flags = flags0) (N : Int) (bg : Int) (en : Int) (fl : Int) (rs : Int) (ge : Nat → Int) (pl : va_W) (g : Nat → Option Nat) (al : Nat → Bool) (u : Nat → Int) (x : Int) (hR : RK cB pl g al u) (hge : ∀ j : Nat, 0 ≤ ge j ∧ ge j < 1000000000) (hpl : 0 ≤ bg ∧ bg ≤ en ∧ en ≤ 1000000000 ∧ 0 ≤ fl ∧ fl ≤ 1000000000) (hN : 3 ≤ N ∧ N ≤ 32) (hx0 : iB x) : MetT l y_De_commit ((Cond.code y_De_commit prog_1_method_5_code 3 (some .int)) :: gw) ({ frames := 6, cells := (2 * (cal (aP (aP (aP (aP al en) (en + 1)) (en + 2)) (en + 3)) 32 - cal al 32) + 1), slots := (501 * (cal (aP (aP (aP (aP al en) (en + 1)) (en + 2)) (en + 3)) 32 - cal al 32) + 6), locals := 100 } : Room) (zPcT (dC, dI) [(cB, .byte), (cI, .int), (cJ, .long), (cZ, .boolean), (cQ, .object "LogDesk$Block")] [.ref d0, .int (iZ x)] ([(d0, .inr (6, [.int (iZ N), .ref r0, .ref a0, .ref w0, .ref p0, .ref i0, .int (iZ bg), .int (iZ en), .int (iZ fl), .int (iZ rs)])), (r0, .inr (4, [.ref r1])), (r1, .inl (cQ, 32, .inr (.inr (.inr (.inr g))))), (w0, .inr (5, [.ref w1])), (w1, .inl (cI, 6, .inl (fun j => iZ (ge j))))] ++ pl) sz) (zQT (dC, dI) [(cB, .byte), (cI, .int), (cJ, .long), (cZ, .boolean), (cQ, .object "LogDesk$Block")] (va_A ([(d0, .inr (6, [.int (iZ N), .ref r0, .ref a0, .ref w0, .ref p0, .ref i0, .int (iZ bg), .int (iZ en), .int (iZ fl), .int (iZ rs)])), (r0, .inr (4, [.ref r1])), (r1, .inl (cQ, 32, .inr (.inr (.inr (.inr g))))), (w0, .inr (5, [.ref w1])), (w1, .inl (cI, 6, .inl (fun j => iZ (ge j))))] ++ pl) sz) "java/lang/IllegalArgumentException" "java/lang/IllegalStateException" (if ¬ (0 ≤ x ∧ x < 6) then 1 else if (ge x.toNat ≠ 0 ∨ (1000000000 < en + 3 + 1 ∨ N ≤ (en + 3 + 1 - 1) / 500 - bg / 500)) then 2 else 0) (some (.int (iZ (en + 4)))) (fun (q : va_W × (Nat → Option Nat)) => RK cB q.1 q.2 (if ((0 ≤ x ∧ x < 6) ∧ ¬ (ge x.toNat ≠ 0 ∨ (1000000000 < en + 3 + 1 ∨ N ≤ (en + 3 + 1 - 1) / 500 - bg / 500))) then (aP (aP (aP (aP al en) (en + 1)) (en + 2)) (en + 3)) else al) (if ((0 ≤ x ∧ x < 6) ∧ ¬ (ge x.toNat ≠ 0 ∨ (1000000000 < en + 3 + 1 ∨ N ≤ (en + 3 + 1 - 1) / 500 - bg / 500))) then (uP (uP (uP (uP u en 15) (en + 1) (1 / 256)) (en + 2) 1) (en + 3) x) else u)) (fun (q : va_W × (Nat → Option Nat)) => ([(d0, .inr (6, [.int (iZ N), .ref r0, .ref a0, .ref w0, .ref p0, .ref i0, .int (iZ bg), .int (iZ (if ((0 ≤ x ∧ x < 6) ∧ ¬ (ge x.toNat ≠ 0 ∨ (1000000000 < en + 3 + 1 ∨ N ≤ (en + 3 + 1 - 1) / 500 - bg / 500))) then en + 4 else en)), .int (iZ fl), .int (iZ rs)])), (r0, .inr (4, [.ref r1])), (r1, .inl (cQ, 32, .inr (.inr (.inr (.inr q.2))))), (w0, .inr (5, [.ref w1])), (w1, .inl (cI, 6, .inl (fun j => iZ ((if ((0 ≤ x ∧ x < 6) ∧ ¬ (ge x.toNat ≠ 0 ∨ (1000000000 < en + 3 + 1 ∨ N ≤ (en + 3 + 1 - 1) / 500 - bg / 500))) then va_up ge x.toNat (en + 4) else ge) j))))] ++ q.1))) (2 * (cal (aP (aP (aP (aP al en) (en + 1)) (en + 2)) (en + 3)) 32 - cal al 32) + 1) (501 * (cal (aP (aP (aP (aP al en) (en + 1)) (en + 2)) (en + 3)) 32 - cal al 32) + 6) (va_A ([(d0, .inr (6, [.int (iZ N), .ref r0, .ref a0, .ref w0, .ref p0, .ref i0, .int (iZ bg), .int (iZ en), .int (iZ fl), .int (iZ rs)])), (r0, .inr (4, [.ref r1])), (r1, .inl (cQ, 32, .inr (.inr (.inr (.inr g))))), (w0, .inr (5, [.ref w1])), (w1, .inl (cI, 6, .inl (fun j => iZ (ge j))))] ++ pl) sz) := by
  refine MetT.ofW (cc := prog_1_method_5_code) (maxL := 3) (ret := (some .int)) (by decide) rfl ?_
  intro p e s m args below meth c s₁ B hml hne hv
  obtain ⟨rfl, ⟨hsz, hP, hK, hD0, hZ⟩, hTH⟩ := hv
  have hx := B.exec
  have hb := B.bytes
  have hr := B.returns
  have hts := atoms_spec (ws := (Cond.code y_De_commit prog_1_method_5_code 3 (some .int)) :: gw) B.pre
  have htg : ∀ w ∈ gw, w.before _ s = true := fun w h => hts w (List.mem_cons_of_mem _ h)
  have hown : s.vm.findClass "LogDesk" = some m.cls := findClass_of_methodNamed B.named
  have hlocks := B.notSynchronized
  subst hsz
  have hD := hD0.self (sz := s.heap.size)
  generalize hAe : va_A ([(d0, .inr (6, [.int (iZ N), .ref r0, .ref a0, .ref w0, .ref p0, .ref i0, .int (iZ bg), .int (iZ en), .int (iZ fl), .int (iZ rs)])), (r0, .inr (4, [.ref r1])), (r1, .inl (cQ, 32, .inr (.inr (.inr (.inr g))))), (w0, .inr (5, [.ref w1])), (w1, .inl (cI, 6, .inl (fun j => iZ (ge j))))] ++ pl) s.heap.size = A at hD ⊢
  have hRc : (headSpec ((Cond.code y_De_commit prog_1_method_5_code 3 (some .int)) :: gw) ({ frames := 6, cells := (2 * (cal (aP (aP (aP (aP al en) (en + 1)) (en + 2)) (en + 3)) 32 - cal al 32) + 1), slots := (501 * (cal (aP (aP (aP (aP al en) (en + 1)) (en + 2)) (en + 3)) 32 - cal al 32) + 6), locals := 100 } : Room)).room.cells = (2 * (cal (aP (aP (aP (aP al en) (en + 1)) (en + 2)) (en + 3)) 32 - cal al 32) + 1) := rfl
  have hRs : (headSpec ((Cond.code y_De_commit prog_1_method_5_code 3 (some .int)) :: gw) ({ frames := 6, cells := (2 * (cal (aP (aP (aP (aP al en) (en + 1)) (en + 2)) (en + 3)) 32 - cal al 32) + 1), slots := (501 * (cal (aP (aP (aP (aP al en) (en + 1)) (en + 2)) (en + 3)) 32 - cal al 32) + 6), locals := 100 } : Room)).room.slots = (501 * (cal (aP (aP (aP (aP al en) (en + 1)) (en + 2)) (en + 3)) 32 - cal al 32) + 6) := rfl
  have hA : ∀ q : Nat, s.heap.size ≤ q → A q := fun q h => by rw [← hAe]; exact Or.inr h
  have hS : va_S A s.heap s.heap [] := va_S.rf
  have hP : va_P (dC, dI) vwCl ([(d0, .inr (6, [.int (iZ N), .ref r0, .ref a0, .ref w0, .ref p0, .ref i0, .int (iZ bg), .int (iZ en), .int (iZ fl), .int (iZ rs)])), (r0, .inr (4, [.ref r1])), (r1, .inl (cQ, 32, .inr (.inr (.inr (.inr g))))), (w0, .inr (5, [.ref w1])), (w1, .inl (cI, 6, .inl (fun j => iZ (ge j))))] ++ pl) s.heap := hP
  have hl := lv_entry ([.ref d0, .int (iZ x)]) (n := 3) (Nat.le_of_ble_eq_true rfl)
  rw [lg_entry_eq]
  generalize (lg_sl ([.ref d0, .int (iZ x)]) ++ List.replicate (3 - (lg_sl ([.ref d0, .int (iZ x)])).length) Slot.unset).toArray = ls at hl ⊢
  have hl : lv_has ls 3 [(0, .ref d0), (1, .int (iZ x))] := hl
  obtain ⟨hx1, hx2⟩ := id hx0
  have hgx := hge x.toNat
  have m0 := aP_mono al en
  have m1 := aP_mono (aP al en) (en + 1)
  have m2 := aP_mono (aP (aP al en) (en + 1)) (en + 2)
  have m3 := aP_mono (aP (aP (aP al en) (en + 1)) (en + 2)) (en + 3)
  refine lv_iload_n hx hb d_De_commit_0 rfl (lv_at hl 1 rfl) ?_
  refine zz_if_lt (tgt := 10) hx hb d_De_commit_1 (by decide) ⟨by omega, by omega⟩ (fun c_1 => ?_) (fun c_1 => ?_)
  · have eW : ∀ (x0 y0 : Int) (x1 y1 : Nat → Int), x0 = y0 → x1 = y1 → (([(d0, .inr (6, [.int (iZ N), .ref r0, .ref a0, .ref w0, .ref p0, .ref i0, .int (iZ bg), .int (iZ x0), .int (iZ fl), .int (iZ rs)])), (r0, .inr (4, [.ref r1])), (r1, .inl (cQ, 32, .inr (.inr (.inr (.inr g))))), (w0, .inr (5, [.ref w1])), (w1, .inl (cI, 6, .inl (fun j => iZ (x1 j))))] ++ pl) : va_W) = ([(d0, .inr (6, [.int (iZ N), .ref r0, .ref a0, .ref w0, .ref p0, .ref i0, .int (iZ bg), .int (iZ y0), .int (iZ fl), .int (iZ rs)])), (r0, .inr (4, [.ref r1])), (r1, .inl (cQ, 32, .inr (.inr (.inr (.inr g))))), (w0, .inr (5, [.ref w1])), (w1, .inl (cI, 6, .inl (fun j => iZ (y1 j))))] ++ pl) := by intros; subst_vars; rfl
    have eW := eW en (if ((0 ≤ x ∧ x < 6) ∧ ¬ (ge x.toNat ≠ 0 ∨ (1000000000 < en + 3 + 1 ∨ N ≤ (en + 3 + 1 - 1) / 500 - bg / 500))) then en + 4 else en) ge (if ((0 ≤ x ∧ x < 6) ∧ ¬ (ge x.toNat ≠ 0 ∨ (1000000000 < en + 3 + 1 ∨ N ≤ (en + 3 + 1 - 1) / 500 - bg / 500))) then va_up ge x.toNat (en + 4) else ge) (by omega) ((if_neg (fun h => by omega)).symm)
    have hP : va_P (dC, dI) vwCl ([(d0, .inr (6, [.int (iZ N), .ref r0, .ref a0, .ref w0, .ref p0, .ref i0, .int (iZ bg), .int (iZ (if ((0 ≤ x ∧ x < 6) ∧ ¬ (ge x.toNat ≠ 0 ∨ (1000000000 < en + 3 + 1 ∨ N ≤ (en + 3 + 1 - 1) / 500 - bg / 500))) then en + 4 else en)), .int (iZ fl), .int (iZ rs)])), (r0, .inr (4, [.ref r1])), (r1, .inl (cQ, 32, .inr (.inr (.inr (.inr g))))), (w0, .inr (5, [.ref w1])), (w1, .inl (cI, 6, .inl (fun j => iZ ((if ((0 ≤ x ∧ x < 6) ∧ ¬ (ge x.toNat ≠ 0 ∨ (1000000000 < en + 3 + 1 ∨ N ≤ (en + 3 + 1 - 1) / 500 - bg / 500))) then va_up ge x.toNat (en + 4) else ge) j))))] ++ pl) s.heap := eW ▸ hP
    have hD : va_D A ([(d0, .inr (6, [.int (iZ N), .ref r0, .ref a0, .ref w0, .ref p0, .ref i0, .int (iZ bg), .int (iZ (if ((0 ≤ x ∧ x < 6) ∧ ¬ (ge x.toNat ≠ 0 ∨ (1000000000 < en + 3 + 1 ∨ N ≤ (en + 3 + 1 - 1) / 500 - bg / 500))) then en + 4 else en)), .int (iZ fl), .int (iZ rs)])), (r0, .inr (4, [.ref r1])), (r1, .inl (cQ, 32, .inr (.inr (.inr (.inr g))))), (w0, .inr (5, [.ref w1])), (w1, .inl (cI, 6, .inl (fun j => iZ ((if ((0 ≤ x ∧ x < 6) ∧ ¬ (ge x.toNat ≠ 0 ∨ (1000000000 < en + 3 + 1 ∨ N ≤ (en + 3 + 1 - 1) / 500 - bg / 500))) then va_up ge x.toNat (en + 4) else ge) j))))] ++ pl) := eW ▸ hD
    refine W.widen (k := 2 * (cal (aP (aP (aP (aP al en) (en + 1)) (en + 2)) (en + 3)) 32 - cal al 32)) (n := 501 * (cal (aP (aP (aP (aP al en) (en + 1)) (en + 2)) (en + 3)) 32 - cal al 32)) (by omega) (by omega) ?_
    obtain ⟨qs, hws⟩ := th_hw hown htg hTH hAe hS (i0 := 59) (i2 := 63) k_254 k_255 k_11 (show Cond.stringRef "LogDesk" 96 "there is no such session" ∈ thW by simp [thW]) own_63
    subst hAe
    exact zt_throw hx hb hne hlocks hfl (by decide) hws d_De_commit_10 d_De_commit_13 d_De_commit_14 d_De_commit_16 d_De_commit_19 (hl.1.trans hml.symm) (Nat.le_of_ble_eq_true rfl) (Nat.le_of_ble_eq_true rfl) (by omega) (by omega) (zt_q (pl, g) hP hD hK hS (by rw [if_neg (fun h => by omega), if_neg (fun h => by omega)]; exact hR) (Or.inl ⟨(by omega), rfl⟩)) hS.2.2
  · refine lv_iload_n hx hb d_De_commit_4 rfl (lv_at hl 1 rfl) ?_
    refine lv_bipush (v := iZ 6) hx hb d_De_commit_5 (by decide) ?_
    refine zz_icmp_lt (tgt := 20) hx hb d_De_commit_7 (by decide) ⟨by omega, by omega⟩ ⟨by omega, by omega⟩ (fun c_2 => ?_) (fun c_2 => ?_)
    · refine lv_aload_n hx hb d_De_commit_20 rfl (lv_at hl 0 rfl) ?_
      refine va_get (D := (dC, dI)) (ci := 6) (v := .ref w0) (C := "LogDesk") (T := F_De) (N := 10) hx hb htg hin_De hown hK hP 0 rfl rfl 3 (by decide) (htg _ k_93) (fun _ h9 => h9) rfl d_De_commit_21 ?_
      refine lv_iload_n hx hb d_De_commit_24 rfl (lv_at hl 1 rfl) ?_
      refine zq_i (wr := [(d0, .inr (6, [.int (iZ N), .ref r0, .ref a0, .ref w0, .ref p0, .ref i0, .int (iZ bg), .int (iZ en), .int (iZ fl), .int (iZ rs)])), (r0, .inr (4, [.ref r1])), (r1, .inl (cQ, 32, .inr (.inr (.inr (.inr g)))))]) (va_runV (As := [.int (iZ x)]) (rest := []) ⟨hx, hb, hml, hown, htg⟩ (c_Wa_has l dC dI cB cI cJ cZ cQ w0 w1 s.heap.size ge x hge hx0) (cwV 1 htg (gw_V k_374 k_146 k_147 k_4 k_148) rfl rfl rfl (by decide +kernel) ⟨Nat.le_of_ble_eq_true rfl, Nat.le_of_ble_eq_true rfl⟩) (zPreV hK hP hD hZ [3, 4] rfl (by decide) 3 (ci := 5) rfl rfl) rfl rfl hl.1 rfl (lv_room (Nat.le_of_ble_eq_true rfl)) d_De_commit_25 ⟨by omega, by omega⟩) hP hD hS hA [3, 4] [0, 1, 2] rfl rfl (by decide) (by decide) rfl (fun H locs hP hD hS => ?_)
      have hP : va_P (dC, dI) vwCl ([(d0, .inr (6, [.int (iZ N), .ref r0, .ref a0, .ref w0, .ref p0, .ref i0, .int (iZ bg), .int (iZ en), .int (iZ fl), .int (iZ rs)])), (r0, .inr (4, [.ref r1])), (r1, .inl (cQ, 32, .inr (.inr (.inr (.inr g))))), (w0, .inr (5, [.ref w1])), (w1, .inl (cI, 6, .inl (fun j => iZ (ge j))))] ++ pl) H := hP
      have hD : va_D A ([(d0, .inr (6, [.int (iZ N), .ref r0, .ref a0, .ref w0, .ref p0, .ref i0, .int (iZ bg), .int (iZ en), .int (iZ fl), .int (iZ rs)])), (r0, .inr (4, [.ref r1])), (r1, .inl (cQ, 32, .inr (.inr (.inr (.inr g))))), (w0, .inr (5, [.ref w1])), (w1, .inl (cI, 6, .inl (fun j => iZ (ge j))))] ++ pl) := hD
      rcases Classical.em ((0 ≤ x ∧ x < 6) ∧ ge x.toNat ≠ 0) with b_3 | b_3
      · rw [if_pos b_3]
        refine zz_if_eq (tgt := 41) hx hb d_De_commit_28 (by decide) ⟨by omega, by omega⟩ (fun c_4 => ?_) (fun c_4 => ?_)
        · exfalso; omega
        · have eW : ∀ (x0 y0 : Int) (x1 y1 : Nat → Int), x0 = y0 → x1 = y1 → (([(d0, .inr (6, [.int (iZ N), .ref r0, .ref a0, .ref w0, .ref p0, .ref i0, .int (iZ bg), .int (iZ x0), .int (iZ fl), .int (iZ rs)])), (r0, .inr (4, [.ref r1])), (r1, .inl (cQ, 32, .inr (.inr (.inr (.inr g))))), (w0, .inr (5, [.ref w1])), (w1, .inl (cI, 6, .inl (fun j => iZ (x1 j))))] ++ pl) : va_W) = ([(d0, .inr (6, [.int (iZ N), .ref r0, .ref a0, .ref w0, .ref p0, .ref i0, .int (iZ bg), .int (iZ y0), .int (iZ fl), .int (iZ rs)])), (r0, .inr (4, [.ref r1])), (r1, .inl (cQ, 32, .inr (.inr (.inr (.inr g))))), (w0, .inr (5, [.ref w1])), (w1, .inl (cI, 6, .inl (fun j => iZ (y1 j))))] ++ pl) := by intros; subst_vars; rfl
          have eW := eW en (if ((0 ≤ x ∧ x < 6) ∧ ¬ (ge x.toNat ≠ 0 ∨ (1000000000 < en + 3 + 1 ∨ N ≤ (en + 3 + 1 - 1) / 500 - bg / 500))) then en + 4 else en) ge (if ((0 ≤ x ∧ x < 6) ∧ ¬ (ge x.toNat ≠ 0 ∨ (1000000000 < en + 3 + 1 ∨ N ≤ (en + 3 + 1 - 1) / 500 - bg / 500))) then va_up ge x.toNat (en + 4) else ge) (by omega) ((if_neg (fun h => by omega)).symm)
          have hP : va_P (dC, dI) vwCl ([(d0, .inr (6, [.int (iZ N), .ref r0, .ref a0, .ref w0, .ref p0, .ref i0, .int (iZ bg), .int (iZ (if ((0 ≤ x ∧ x < 6) ∧ ¬ (ge x.toNat ≠ 0 ∨ (1000000000 < en + 3 + 1 ∨ N ≤ (en + 3 + 1 - 1) / 500 - bg / 500))) then en + 4 else en)), .int (iZ fl), .int (iZ rs)])), (r0, .inr (4, [.ref r1])), (r1, .inl (cQ, 32, .inr (.inr (.inr (.inr g))))), (w0, .inr (5, [.ref w1])), (w1, .inl (cI, 6, .inl (fun j => iZ ((if ((0 ≤ x ∧ x < 6) ∧ ¬ (ge x.toNat ≠ 0 ∨ (1000000000 < en + 3 + 1 ∨ N ≤ (en + 3 + 1 - 1) / 500 - bg / 500))) then va_up ge x.toNat (en + 4) else ge) j))))] ++ pl) H := eW ▸ hP
          have hD : va_D A ([(d0, .inr (6, [.int (iZ N), .ref r0, .ref a0, .ref w0, .ref p0, .ref i0, .int (iZ bg), .int (iZ (if ((0 ≤ x ∧ x < 6) ∧ ¬ (ge x.toNat ≠ 0 ∨ (1000000000 < en + 3 + 1 ∨ N ≤ (en + 3 + 1 - 1) / 500 - bg / 500))) then en + 4 else en)), .int (iZ fl), .int (iZ rs)])), (r0, .inr (4, [.ref r1])), (r1, .inl (cQ, 32, .inr (.inr (.inr (.inr g))))), (w0, .inr (5, [.ref w1])), (w1, .inl (cI, 6, .inl (fun j => iZ ((if ((0 ≤ x ∧ x < 6) ∧ ¬ (ge x.toNat ≠ 0 ∨ (1000000000 < en + 3 + 1 ∨ N ≤ (en + 3 + 1 - 1) / 500 - bg / 500))) then va_up ge x.toNat (en + 4) else ge) j))))] ++ pl) := eW ▸ hD
          refine W.widen (k := 2 * (cal (aP (aP (aP (aP al en) (en + 1)) (en + 2)) (en + 3)) 32 - cal al 32)) (n := 501 * (cal (aP (aP (aP (aP al en) (en + 1)) (en + 2)) (en + 3)) 32 - cal al 32)) (by omega) (by omega) ?_
          obtain ⟨qs, hws⟩ := th_hw hown htg hTH hAe hS (i0 := 73) (i2 := 77) k_328 k_329 k_12 (show Cond.stringRef "LogDesk" 101 "the session waits" ∈ thW by simp [thW]) own_77
          subst hAe
          exact zt_throw hx hb hne hlocks hfl (by decide) hws d_De_commit_31 d_De_commit_34 d_De_commit_35 d_De_commit_37 d_De_commit_40 (hl.1.trans hml.symm) (Nat.le_of_ble_eq_true rfl) (Nat.le_of_ble_eq_true rfl) (by omega) (by omega) (zt_q (pl, g) hP hD hK hS (by rw [if_neg (fun h => by omega), if_neg (fun h => by omega)]; exact hR) (Or.inr ⟨(by omega), rfl⟩)) hS.2.2
      · rw [if_neg b_3]
        refine zz_if_eq (tgt := 41) hx hb d_De_commit_28 (by decide) ⟨by omega, by omega⟩ (fun c_5 => ?_) (fun c_5 => ?_)
        · refine lv_aload_n hx hb d_De_commit_41 rfl (lv_at hl 0 rfl) ?_
          refine lv_iconst (v := iZ 1) hx hb d_De_commit_42 rfl ?_
          refine zq_i (wr := [(r0, .inr (4, [.ref r1])), (r1, .inl (cQ, 32, .inr (.inr (.inr (.inr g))))), (w0, .inr (5, [.ref w1])), (w1, .inl (cI, 6, .inl (fun j => iZ (ge j))))]) (va_runV (As := [.int (iZ 1)]) (rest := []) ⟨hx, hb, hml, hown, htg⟩ (c_De_isFullFor l dC dI cB cI cJ cZ cQ d0 r0 a0 w0 p0 i0 H.size N bg en fl rs 1 hpl (by omega) hN) (cwV 1 htg (gw_V k_322 k_324 k_p4 k_1 k_325) rfl rfl rfl (by decide +kernel) ⟨Nat.le_of_ble_eq_true rfl, Nat.le_of_ble_eq_true rfl⟩) (zPreV hK hP hD hZ [0] rfl (by decide) 0 (ci := 6) rfl rfl) rfl rfl hl.1 rfl (lv_room (Nat.le_of_ble_eq_true rfl)) d_De_commit_43 ⟨by omega, by omega⟩) hP hD hS hA [0] [1, 2, 3, 4] rfl rfl (by decide) (by decide) rfl (fun H locs hP hD hS => ?_)
          have hP : va_P (dC, dI) vwCl ([(r0, .inr (4, [.ref r1])), (r1, .inl (cQ, 32, .inr (.inr (.inr (.inr g))))), (w0, .inr (5, [.ref w1])), (w1, .inl (cI, 6, .inl (fun j => iZ (ge j)))), (d0, .inr (6, [.int (iZ N), .ref r0, .ref a0, .ref w0, .ref p0, .ref i0, .int (iZ bg), .int (iZ en), .int (iZ fl), .int (iZ rs)]))] ++ pl) H := hP
          have hD : va_D A ([(r0, .inr (4, [.ref r1])), (r1, .inl (cQ, 32, .inr (.inr (.inr (.inr g))))), (w0, .inr (5, [.ref w1])), (w1, .inl (cI, 6, .inl (fun j => iZ (ge j)))), (d0, .inr (6, [.int (iZ N), .ref r0, .ref a0, .ref w0, .ref p0, .ref i0, .int (iZ bg), .int (iZ en), .int (iZ fl), .int (iZ rs)]))] ++ pl) := hD
          rcases Classical.em (1000000000 < en + 3 + 1 ∨ N ≤ (en + 3 + 1 - 1) / 500 - bg / 500) with b_6 | b_6
          · rw [if_pos b_6]
            refine zz_if_eq (tgt := 59) hx hb d_De_commit_46 (by decide) ⟨by omega, by omega⟩ (fun c_7 => ?_) (fun c_7 => ?_)
            · exfalso; omega
            · have hP := hP.part (cx := [(d0, .inr (6, [.int (iZ N), .ref r0, .ref a0, .ref w0, .ref p0, .ref i0, .int (iZ bg), .int (iZ en), .int (iZ fl), .int (iZ rs)])), (r0, .inr (4, [.ref r1])), (r1, .inl (cQ, 32, .inr (.inr (.inr (.inr g))))), (w0, .inr (5, [.ref w1])), (w1, .inl (cI, 6, .inl (fun j => iZ (ge j))))]) [4, 0, 1, 2, 3] rfl
              have hD := hD.part (cx := [(d0, .inr (6, [.int (iZ N), .ref r0, .ref a0, .ref w0, .ref p0, .ref i0, .int (iZ bg), .int (iZ en), .int (iZ fl), .int (iZ rs)])), (r0, .inr (4, [.ref r1])), (r1, .inl (cQ, 32, .inr (.inr (.inr (.inr g))))), (w0, .inr (5, [.ref w1])), (w1, .inl (cI, 6, .inl (fun j => iZ (ge j))))]) [4, 0, 1, 2, 3] (by decide) rfl
              have eW : ∀ (x0 y0 : Int) (x1 y1 : Nat → Int), x0 = y0 → x1 = y1 → (([(d0, .inr (6, [.int (iZ N), .ref r0, .ref a0, .ref w0, .ref p0, .ref i0, .int (iZ bg), .int (iZ x0), .int (iZ fl), .int (iZ rs)])), (r0, .inr (4, [.ref r1])), (r1, .inl (cQ, 32, .inr (.inr (.inr (.inr g))))), (w0, .inr (5, [.ref w1])), (w1, .inl (cI, 6, .inl (fun j => iZ (x1 j))))] ++ pl) : va_W) = ([(d0, .inr (6, [.int (iZ N), .ref r0, .ref a0, .ref w0, .ref p0, .ref i0, .int (iZ bg), .int (iZ y0), .int (iZ fl), .int (iZ rs)])), (r0, .inr (4, [.ref r1])), (r1, .inl (cQ, 32, .inr (.inr (.inr (.inr g))))), (w0, .inr (5, [.ref w1])), (w1, .inl (cI, 6, .inl (fun j => iZ (y1 j))))] ++ pl) := by intros; subst_vars; rfl
              have eW := eW en (if ((0 ≤ x ∧ x < 6) ∧ ¬ (ge x.toNat ≠ 0 ∨ (1000000000 < en + 3 + 1 ∨ N ≤ (en + 3 + 1 - 1) / 500 - bg / 500))) then en + 4 else en) ge (if ((0 ≤ x ∧ x < 6) ∧ ¬ (ge x.toNat ≠ 0 ∨ (1000000000 < en + 3 + 1 ∨ N ≤ (en + 3 + 1 - 1) / 500 - bg / 500))) then va_up ge x.toNat (en + 4) else ge) (by omega) ((if_neg (fun h => by omega)).symm)
              have hP : va_P (dC, dI) vwCl ([(d0, .inr (6, [.int (iZ N), .ref r0, .ref a0, .ref w0, .ref p0, .ref i0, .int (iZ bg), .int (iZ (if ((0 ≤ x ∧ x < 6) ∧ ¬ (ge x.toNat ≠ 0 ∨ (1000000000 < en + 3 + 1 ∨ N ≤ (en + 3 + 1 - 1) / 500 - bg / 500))) then en + 4 else en)), .int (iZ fl), .int (iZ rs)])), (r0, .inr (4, [.ref r1])), (r1, .inl (cQ, 32, .inr (.inr (.inr (.inr g))))), (w0, .inr (5, [.ref w1])), (w1, .inl (cI, 6, .inl (fun j => iZ ((if ((0 ≤ x ∧ x < 6) ∧ ¬ (ge x.toNat ≠ 0 ∨ (1000000000 < en + 3 + 1 ∨ N ≤ (en + 3 + 1 - 1) / 500 - bg / 500))) then va_up ge x.toNat (en + 4) else ge) j))))] ++ pl) H := eW ▸ hP
              have hD : va_D A ([(d0, .inr (6, [.int (iZ N), .ref r0, .ref a0, .ref w0, .ref p0, .ref i0, .int (iZ bg), .int (iZ (if ((0 ≤ x ∧ x < 6) ∧ ¬ (ge x.toNat ≠ 0 ∨ (1000000000 < en + 3 + 1 ∨ N ≤ (en + 3 + 1 - 1) / 500 - bg / 500))) then en + 4 else en)), .int (iZ fl), .int (iZ rs)])), (r0, .inr (4, [.ref r1])), (r1, .inl (cQ, 32, .inr (.inr (.inr (.inr g))))), (w0, .inr (5, [.ref w1])), (w1, .inl (cI, 6, .inl (fun j => iZ ((if ((0 ≤ x ∧ x < 6) ∧ ¬ (ge x.toNat ≠ 0 ∨ (1000000000 < en + 3 + 1 ∨ N ≤ (en + 3 + 1 - 1) / 500 - bg / 500))) then va_up ge x.toNat (en + 4) else ge) j))))] ++ pl) := eW ▸ hD
              refine W.widen (k := 2 * (cal (aP (aP (aP (aP al en) (en + 1)) (en + 2)) (en + 3)) 32 - cal al 32)) (n := 501 * (cal (aP (aP (aP (aP al en) (en + 1)) (en + 2)) (en + 3)) 32 - cal al 32)) (by omega) (by omega) ?_
              obtain ⟨qs, hws⟩ := th_hw hown htg hTH hAe hS (i0 := 73) (i2 := 77) k_328 k_329 k_12 (show Cond.stringRef "LogDesk" 75 "the log is full" ∈ thW by simp [thW]) own_77
              subst hAe
              exact zt_throw hx hb hne hlocks hfl (by decide) hws d_De_commit_49 d_De_commit_52 d_De_commit_53 d_De_commit_55 d_De_commit_58 (hl.1.trans hml.symm) (Nat.le_of_ble_eq_true rfl) (Nat.le_of_ble_eq_true rfl) (by omega) (by omega) (zt_q (pl, g) hP hD hK hS (by rw [if_neg (fun h => by omega), if_neg (fun h => by omega)]; exact hR) (Or.inr ⟨(by omega), rfl⟩)) hS.2.2
          · rw [if_neg b_6]
            refine zz_if_eq (tgt := 59) hx hb d_De_commit_46 (by decide) ⟨by omega, by omega⟩ (fun c_8 => ?_) (fun c_8 => ?_)
            · refine lv_aload_n hx hb d_De_commit_59 rfl (lv_at hl 0 rfl) ?_
              refine lv_bipush (v := iZ 15) hx hb d_De_commit_60 (by decide) ?_
              refine lv_iconst (v := iZ 1) hx hb d_De_commit_62 rfl ?_
              refine zxp_i (wr := [(w0, .inr (5, [.ref w1])), (w1, .inl (cI, 6, .inl (fun j => iZ (ge j))))]) (va_runV (As := [.int (iZ 15), .int (iZ 1)]) (rest := []) ⟨hx, hb, hml, hown, htg⟩ (c_De_writeHead l dC dI cB cI cJ cZ cQ d0 r0 a0 w0 p0 i0 r1 H.size N bg en fl rs pl g al u 15 1 hR hpl (by omega)) (cwV 2 htg (gw_V k_344 k_346 k_p5 k_1 k_347) rfl rfl rfl (by decide +kernel) ⟨Nat.le_of_ble_eq_true rfl, Nat.le_of_ble_eq_true rfl⟩) (zPreVP hK hP hD hZ [4, 0, 1] rfl (by decide) 4 (ci := 6) rfl rfl) rfl rfl hl.1 rfl (lv_room (Nat.le_of_ble_eq_true rfl)) d_De_commit_63 ⟨by omega, by omega⟩) hP hD hS hA [4, 0, 1] [2, 3] rfl rfl (by decide) (by decide) (fun uu_12 hq_11 H locs hP hD hS => ?_)
              obtain ⟨pl2_9, g2_10⟩ := uu_12
              try dsimp only at hq_11
              have hP : va_P (dC, dI) vwCl ([(w0, .inr (5, [.ref w1])), (w1, .inl (cI, 6, .inl (fun j => iZ (ge j)))), (d0, .inr (6, [.int (iZ N), .ref r0, .ref a0, .ref w0, .ref p0, .ref i0, .int (iZ bg), .int (iZ en), .int (iZ fl), .int (iZ rs)])), (r0, .inr (4, [.ref r1])), (r1, .inl (cQ, 32, .inr (.inr (.inr (.inr g2_10)))))] ++ pl2_9) H := hP
              have hD : va_D A ([(w0, .inr (5, [.ref w1])), (w1, .inl (cI, 6, .inl (fun j => iZ (ge j)))), (d0, .inr (6, [.int (iZ N), .ref r0, .ref a0, .ref w0, .ref p0, .ref i0, .int (iZ bg), .int (iZ en), .int (iZ fl), .int (iZ rs)])), (r0, .inr (4, [.ref r1])), (r1, .inl (cQ, 32, .inr (.inr (.inr (.inr g2_10)))))] ++ pl2_9) := hD
              refine lv_istore_n (lv' := [(2, .int (iZ (en + 3))), (0, .ref d0), (1, .int (iZ x))]) hx hb d_De_commit_66 rfl hl (by decide) rfl (fun ls hl => ?_)
              refine lv_aload_n hx hb d_De_commit_67 rfl (lv_at hl 1 rfl) ?_
              refine va_get (D := (dC, dI)) (ci := 6) (v := .ref r0) (C := "LogDesk") (T := F_De) (N := 10) hx hb htg hin_De hown hK hP 2 rfl rfl 1 (by decide) (htg _ k_91) (fun _ h9 => h9) rfl d_De_commit_68 ?_
              refine lv_iload_n hx hb d_De_commit_71 rfl (lv_at hl 0 rfl) ?_
              refine lv_iload_n hx hb d_De_commit_72 rfl (lv_at hl 2 rfl) ?_
              refine zxp_v (wr := [(w0, .inr (5, [.ref w1])), (w1, .inl (cI, 6, .inl (fun j => iZ (ge j)))), (d0, .inr (6, [.int (iZ N), .ref r0, .ref a0, .ref w0, .ref p0, .ref i0, .int (iZ bg), .int (iZ en), .int (iZ fl), .int (iZ rs)]))]) (va_runV (As := [.int (iZ (en + 3)), .int (iZ x)]) (rest := []) ⟨hx, hb, hml, hown, htg⟩ (c_Ri_set l dC dI cB cI cJ cZ cQ r0 r1 H.size pl2_9 g2_10 (aP (aP (aP al en) (en + 1)) (en + 2)) (uP (uP (uP u en 15) (en + 1) (1 / 256)) (en + 2) 1) (en + 3) x hq_11 (by omega)) (cwV 2 htg (gw_V k_348 k_349 k_350 k_2 k_351) rfl rfl rfl (by decide +kernel) ⟨Nat.le_of_ble_eq_true rfl, Nat.le_of_ble_eq_true rfl⟩) (zPreVP hK hP hD hZ [3, 4] rfl (by decide) 3 (ci := 4) rfl rfl) rfl rfl hl.1 rfl (lv_room (Nat.le_of_ble_eq_true rfl)) d_De_commit_73 ⟨by omega, by omega⟩) hP hD hS hA [3, 4] [0, 1, 2] rfl rfl (by decide) (by decide) (fun uu_16 hq_15 H locs hP hD hS => ?_)
              obtain ⟨pl2_13, g2_14⟩ := uu_16
              try dsimp only at hq_15
              have hP : va_P (dC, dI) vwCl ([(w0, .inr (5, [.ref w1])), (w1, .inl (cI, 6, .inl (fun j => iZ (ge j)))), (d0, .inr (6, [.int (iZ N), .ref r0, .ref a0, .ref w0, .ref p0, .ref i0, .int (iZ bg), .int (iZ en), .int (iZ fl), .int (iZ rs)])), (r0, .inr (4, [.ref r1])), (r1, .inl (cQ, 32, .inr (.inr (.inr (.inr g2_14)))))] ++ pl2_13) H := hP
              have hD : va_D A ([(w0, .inr (5, [.ref w1])), (w1, .inl (cI, 6, .inl (fun j => iZ (ge j)))), (d0, .inr (6, [.int (iZ N), .ref r0, .ref a0, .ref w0, .ref p0, .ref i0, .int (iZ bg), .int (iZ en), .int (iZ fl), .int (iZ rs)])), (r0, .inr (4, [.ref r1])), (r1, .inl (cQ, 32, .inr (.inr (.inr (.inr g2_14)))))] ++ pl2_13) := hD
              have hq9 := hq_15
              refine lv_aload_n hx hb d_De_commit_76 rfl (lv_at hl 1 rfl) ?_
              refine lv_iload_n hx hb d_De_commit_77 rfl (lv_at hl 0 rfl) ?_
              refine lv_iconst (v := iZ 1) hx hb d_De_commit_78 rfl ?_
              refine zz_iadd hx hb d_De_commit_79 ?_
              refine va_put (D := (dC, dI)) (ci := 6) (v := .int (iZ ((en + 3) + 1))) (ty := t_De 7) (C := "LogDesk") (T := F_De) (N := 10) hx hb htg hin_De t_De t_De_ok n_De hown hK hP hD hS 2 rfl rfl 7 (by decide) (htg _ k_97) (fun _ h9 => h9) rfl (by decide +kernel) rfl rfl (Nat.le_of_ble_eq_true rfl) d_De_commit_80 (fun H locs hP hD hS => ?_)
              have hP : va_P (dC, dI) vwCl ([(w0, .inr (5, [.ref w1])), (w1, .inl (cI, 6, .inl (fun j => iZ (ge j)))), (d0, .inr (6, [.int (iZ N), .ref r0, .ref a0, .ref w0, .ref p0, .ref i0, .int (iZ bg), .int (iZ ((en + 3) + 1)), .int (iZ fl), .int (iZ rs)])), (r0, .inr (4, [.ref r1])), (r1, .inl (cQ, 32, .inr (.inr (.inr (.inr g2_14)))))] ++ pl2_13) H := hP
              have hD : va_D A ([(w0, .inr (5, [.ref w1])), (w1, .inl (cI, 6, .inl (fun j => iZ (ge j)))), (d0, .inr (6, [.int (iZ N), .ref r0, .ref a0, .ref w0, .ref p0, .ref i0, .int (iZ bg), .int (iZ ((en + 3) + 1)), .int (iZ fl), .int (iZ rs)])), (r0, .inr (4, [.ref r1])), (r1, .inl (cQ, 32, .inr (.inr (.inr (.inr g2_14)))))] ++ pl2_13) := hD
              refine lv_aload_n hx hb d_De_commit_83 rfl (lv_at hl 1 rfl) ?_
              refine va_get (D := (dC, dI)) (ci := 6) (v := .ref w0) (C := "LogDesk") (T := F_De) (N := 10) hx hb htg hin_De hown hK hP 2 rfl rfl 3 (by decide) (htg _ k_93) (fun _ h9 => h9) rfl d_De_commit_84 ?_
              refine lv_iload_n hx hb d_De_commit_87 rfl (lv_at hl 2 rfl) ?_
              refine lv_aload_n hx hb d_De_commit_88 rfl (lv_at hl 1 rfl) ?_
              refine va_get (D := (dC, dI)) (ci := 6) (v := .int (iZ ((en + 3) + 1))) (C := "LogDesk") (T := F_De) (N := 10) hx hb htg hin_De hown hK hP 2 rfl rfl 7 (by decide) (htg _ k_97) (fun _ h9 => h9) rfl d_De_commit_89 ?_
              refine zq_v (wr := [(d0, .inr (6, [.int (iZ N), .ref r0, .ref a0, .ref w0, .ref p0, .ref i0, .int (iZ bg), .int (iZ ((en + 3) + 1)), .int (iZ fl), .int (iZ rs)])), (r0, .inr (4, [.ref r1])), (r1, .inl (cQ, 32, .inr (.inr (.inr (.inr g2_14)))))]) (va_runV (As := [.int (iZ x), .int (iZ ((en + 3) + 1))]) (rest := []) ⟨hx, hb, hml, hown, htg⟩ (c_Wa_add l dC dI cB cI cJ cZ cQ w0 w1 H.size ge x ((en + 3) + 1) (by omega)) (cwV 2 htg (gw_V k_376 k_377 k_378 k_4 k_379) rfl rfl rfl (by decide +kernel) ⟨Nat.le_of_ble_eq_true rfl, Nat.le_of_ble_eq_true rfl⟩) (zPreV hK hP hD hZ [0, 1] rfl (by decide) 0 (ci := 5) rfl rfl) rfl rfl hl.1 rfl (lv_room (Nat.le_of_ble_eq_true rfl)) d_De_commit_92 ⟨by omega, by omega⟩) hP hD hS hA [0, 1] [2, 3, 4] rfl rfl (by decide) (by decide) rfl (fun H locs hP hD hS => ?_)
              have hP : va_P (dC, dI) vwCl ([(d0, .inr (6, [.int (iZ N), .ref r0, .ref a0, .ref w0, .ref p0, .ref i0, .int (iZ bg), .int (iZ ((en + 3) + 1)), .int (iZ fl), .int (iZ rs)])), (r0, .inr (4, [.ref r1])), (r1, .inl (cQ, 32, .inr (.inr (.inr (.inr g2_14))))), (w0, .inr (5, [.ref w1])), (w1, .inl (cI, 6, .inl (fun j => iZ ((va_up ge x.toNat ((en + 3) + 1)) j))))] ++ pl2_13) H := hP
              have hD : va_D A ([(d0, .inr (6, [.int (iZ N), .ref r0, .ref a0, .ref w0, .ref p0, .ref i0, .int (iZ bg), .int (iZ ((en + 3) + 1)), .int (iZ fl), .int (iZ rs)])), (r0, .inr (4, [.ref r1])), (r1, .inl (cQ, 32, .inr (.inr (.inr (.inr g2_14))))), (w0, .inr (5, [.ref w1])), (w1, .inl (cI, 6, .inl (fun j => iZ ((va_up ge x.toNat ((en + 3) + 1)) j))))] ++ pl2_13) := hD
              refine lv_aload_n hx hb d_De_commit_95 rfl (lv_at hl 1 rfl) ?_
              refine va_get (D := (dC, dI)) (ci := 6) (v := .int (iZ ((en + 3) + 1))) (C := "LogDesk") (T := F_De) (N := 10) hx hb htg hin_De hown hK hP 0 rfl rfl 7 (by decide) (htg _ k_97) (fun _ h9 => h9) rfl d_De_commit_96 ?_
              have eW : ∀ (x0 y0 : Int) (x1 y1 : Nat → Int), x0 = y0 → x1 = y1 → (([(d0, .inr (6, [.int (iZ N), .ref r0, .ref a0, .ref w0, .ref p0, .ref i0, .int (iZ bg), .int (iZ x0), .int (iZ fl), .int (iZ rs)])), (r0, .inr (4, [.ref r1])), (r1, .inl (cQ, 32, .inr (.inr (.inr (.inr g2_14))))), (w0, .inr (5, [.ref w1])), (w1, .inl (cI, 6, .inl (fun j => iZ (x1 j))))] ++ pl2_13) : va_W) = ([(d0, .inr (6, [.int (iZ N), .ref r0, .ref a0, .ref w0, .ref p0, .ref i0, .int (iZ bg), .int (iZ y0), .int (iZ fl), .int (iZ rs)])), (r0, .inr (4, [.ref r1])), (r1, .inl (cQ, 32, .inr (.inr (.inr (.inr g2_14))))), (w0, .inr (5, [.ref w1])), (w1, .inl (cI, 6, .inl (fun j => iZ (y1 j))))] ++ pl2_13) := by intros; subst_vars; rfl
              have eW := eW ((en + 3) + 1) (if ((0 ≤ x ∧ x < 6) ∧ ¬ (ge x.toNat ≠ 0 ∨ (1000000000 < en + 3 + 1 ∨ N ≤ (en + 3 + 1 - 1) / 500 - bg / 500))) then en + 4 else en) (va_up ge x.toNat ((en + 3) + 1)) (if ((0 ≤ x ∧ x < 6) ∧ ¬ (ge x.toNat ≠ 0 ∨ (1000000000 < en + 3 + 1 ∨ N ≤ (en + 3 + 1 - 1) / 500 - bg / 500))) then va_up ge x.toNat (en + 4) else ge) (by rw [if_pos (show ((0 ≤ x ∧ x < 6) ∧ ¬ (ge x.toNat ≠ 0 ∨ (1000000000 < en + 3 + 1 ∨ N ≤ (en + 3 + 1 - 1) / 500 - bg / 500))) from ⟨⟨by omega, by omega⟩, by omega⟩)]; omega) (by rw [if_pos (show ((0 ≤ x ∧ x < 6) ∧ ¬ (ge x.toNat ≠ 0 ∨ (1000000000 < en + 3 + 1 ∨ N ≤ (en + 3 + 1 - 1) / 500 - bg / 500))) from ⟨⟨by omega, by omega⟩, by omega⟩), show en + 3 + 1 = en + 4 by omega])
              have hP : va_P (dC, dI) vwCl ([(d0, .inr (6, [.int (iZ N), .ref r0, .ref a0, .ref w0, .ref p0, .ref i0, .int (iZ bg), .int (iZ (if ((0 ≤ x ∧ x < 6) ∧ ¬ (ge x.toNat ≠ 0 ∨ (1000000000 < en + 3 + 1 ∨ N ≤ (en + 3 + 1 - 1) / 500 - bg / 500))) then en + 4 else en)), .int (iZ fl), .int (iZ rs)])), (r0, .inr (4, [.ref r1])), (r1, .inl (cQ, 32, .inr (.inr (.inr (.inr g2_14))))), (w0, .inr (5, [.ref w1])), (w1, .inl (cI, 6, .inl (fun j => iZ ((if ((0 ≤ x ∧ x < 6) ∧ ¬ (ge x.toNat ≠ 0 ∨ (1000000000 < en + 3 + 1 ∨ N ≤ (en + 3 + 1 - 1) / 500 - bg / 500))) then va_up ge x.toNat (en + 4) else ge) j))))] ++ pl2_13) H := eW ▸ hP
              have hD : va_D A ([(d0, .inr (6, [.int (iZ N), .ref r0, .ref a0, .ref w0, .ref p0, .ref i0, .int (iZ bg), .int (iZ (if ((0 ≤ x ∧ x < 6) ∧ ¬ (ge x.toNat ≠ 0 ∨ (1000000000 < en + 3 + 1 ∨ N ≤ (en + 3 + 1 - 1) / 500 - bg / 500))) then en + 4 else en)), .int (iZ fl), .int (iZ rs)])), (r0, .inr (4, [.ref r1])), (r1, .inl (cQ, 32, .inr (.inr (.inr (.inr g2_14))))), (w0, .inr (5, [.ref w1])), (w1, .inl (cI, 6, .inl (fun j => iZ ((if ((0 ≤ x ∧ x < 6) ∧ ¬ (ge x.toNat ≠ 0 ∨ (1000000000 < en + 3 + 1 ∨ N ≤ (en + 3 + 1 - 1) / 500 - bg / 500))) then va_up ge x.toNat (en + 4) else ge) j))))] ++ pl2_13) := eW ▸ hD
              refine W.widen (k := (2 * (cal (aP (aP (aP (aP al en) (en + 1)) (en + 2)) (en + 3)) 32 - cal al 32) + 1)) (n := (501 * (cal (aP (aP (aP (aP al en) (en + 1)) (en + 2)) (en + 3)) 32 - cal al 32) + 6)) (by omega) (by omega) ?_
              refine W.mono (fun t h => MQT.of h) ?_
              exact W.iret (v := (iZ ((en + 3) + 1))) hx hb hr (fun t ht hW => ⟨⟨(pl2_13, g2_14), by rw [if_pos (show ((0 ≤ x ∧ x < 6) ∧ ¬ (ge x.toNat ≠ 0 ∨ (1000000000 < en + 3 + 1 ∨ N ≤ (en + 3 + 1 - 1) / 500 - bg / 500))) from ⟨⟨by omega, by omega⟩, by omega⟩), if_pos (show ((0 ≤ x ∧ x < 6) ∧ ¬ (ge x.toNat ≠ 0 ∨ (1000000000 < en + 3 + 1 ∨ N ≤ (en + 3 + 1 - 1) / 500 - bg / 500))) from ⟨⟨by omega, by omega⟩, by omega⟩)]; exact hq9, ⟨by rw [ht]; exact hP, va_K.moved hW.alike hK, hAe ▸ hD⟩, Or.inl ⟨by omega, congrArg (fun z => Outcome.returned (some (.int (iZ z)))) (by omega)⟩⟩, hAe ▸ hS.F ht⟩) (hAe ▸ hS.2.2) d_De_commit_99
            · exfalso; omega
        · exfalso; omega
    · have eW : ∀ (x0 y0 : Int) (x1 y1 : Nat → Int), x0 = y0 → x1 = y1 → (([(d0, .inr (6, [.int (iZ N), .ref r0, .ref a0, .ref w0, .ref p0, .ref i0, .int (iZ bg), .int (iZ x0), .int (iZ fl), .int (iZ rs)])), (r0, .inr (4, [.ref r1])), (r1, .inl (cQ, 32, .inr (.inr (.inr (.inr g))))), (w0, .inr (5, [.ref w1])), (w1, .inl (cI, 6, .inl (fun j => iZ (x1 j))))] ++ pl) : va_W) = ([(d0, .inr (6, [.int (iZ N), .ref r0, .ref a0, .ref w0, .ref p0, .ref i0, .int (iZ bg), .int (iZ y0), .int (iZ fl), .int (iZ rs)])), (r0, .inr (4, [.ref r1])), (r1, .inl (cQ, 32, .inr (.inr (.inr (.inr g))))), (w0, .inr (5, [.ref w1])), (w1, .inl (cI, 6, .inl (fun j => iZ (y1 j))))] ++ pl) := by intros; subst_vars; rfl
      have eW := eW en (if ((0 ≤ x ∧ x < 6) ∧ ¬ (ge x.toNat ≠ 0 ∨ (1000000000 < en + 3 + 1 ∨ N ≤ (en + 3 + 1 - 1) / 500 - bg / 500))) then en + 4 else en) ge (if ((0 ≤ x ∧ x < 6) ∧ ¬ (ge x.toNat ≠ 0 ∨ (1000000000 < en + 3 + 1 ∨ N ≤ (en + 3 + 1 - 1) / 500 - bg / 500))) then va_up ge x.toNat (en + 4) else ge) (by omega) ((if_neg (fun h => by omega)).symm)
      have hP : va_P (dC, dI) vwCl ([(d0, .inr (6, [.int (iZ N), .ref r0, .ref a0, .ref w0, .ref p0, .ref i0, .int (iZ bg), .int (iZ (if ((0 ≤ x ∧ x < 6) ∧ ¬ (ge x.toNat ≠ 0 ∨ (1000000000 < en + 3 + 1 ∨ N ≤ (en + 3 + 1 - 1) / 500 - bg / 500))) then en + 4 else en)), .int (iZ fl), .int (iZ rs)])), (r0, .inr (4, [.ref r1])), (r1, .inl (cQ, 32, .inr (.inr (.inr (.inr g))))), (w0, .inr (5, [.ref w1])), (w1, .inl (cI, 6, .inl (fun j => iZ ((if ((0 ≤ x ∧ x < 6) ∧ ¬ (ge x.toNat ≠ 0 ∨ (1000000000 < en + 3 + 1 ∨ N ≤ (en + 3 + 1 - 1) / 500 - bg / 500))) then va_up ge x.toNat (en + 4) else ge) j))))] ++ pl) s.heap := eW ▸ hP
      have hD : va_D A ([(d0, .inr (6, [.int (iZ N), .ref r0, .ref a0, .ref w0, .ref p0, .ref i0, .int (iZ bg), .int (iZ (if ((0 ≤ x ∧ x < 6) ∧ ¬ (ge x.toNat ≠ 0 ∨ (1000000000 < en + 3 + 1 ∨ N ≤ (en + 3 + 1 - 1) / 500 - bg / 500))) then en + 4 else en)), .int (iZ fl), .int (iZ rs)])), (r0, .inr (4, [.ref r1])), (r1, .inl (cQ, 32, .inr (.inr (.inr (.inr g))))), (w0, .inr (5, [.ref w1])), (w1, .inl (cI, 6, .inl (fun j => iZ ((if ((0 ≤ x ∧ x < 6) ∧ ¬ (ge x.toNat ≠ 0 ∨ (1000000000 < en + 3 + 1 ∨ N ≤ (en + 3 + 1 - 1) / 500 - bg / 500))) then va_up ge x.toNat (en + 4) else ge) j))))] ++ pl) := eW ▸ hD
      refine W.widen (k := 2 * (cal (aP (aP (aP (aP al en) (en + 1)) (en + 2)) (en + 3)) 32 - cal al 32)) (n := 501 * (cal (aP (aP (aP (aP al en) (en + 1)) (en + 2)) (en + 3)) 32 - cal al 32)) (by omega) (by omega) ?_
      obtain ⟨qs, hws⟩ := th_hw hown htg hTH hAe hS (i0 := 59) (i2 := 63) k_254 k_255 k_11 (show Cond.stringRef "LogDesk" 96 "there is no such session" ∈ thW by simp [thW]) own_63
      subst hAe
      exact zt_throw hx hb hne hlocks hfl (by decide) hws d_De_commit_10 d_De_commit_13 d_De_commit_14 d_De_commit_16 d_De_commit_19 (hl.1.trans hml.symm) (Nat.le_of_ble_eq_true rfl) (Nat.le_of_ble_eq_true rfl) (by omega) (by omega) (zt_q (pl, g) hP hD hK hS (by rw [if_neg (fun h => by omega), if_neg (fun h => by omega)]; exact hR) (Or.inl ⟨(by omega), rfl⟩)) hS.2.2
end
