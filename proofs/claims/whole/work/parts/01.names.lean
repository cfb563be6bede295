-- ===== PART A: goes FIRST, ahead of the names: the tables' words, and 'selects' of the private methods out of them =====
/-- a private method of a class that the tables say can be made, by its rows of tables_1 -/
def lw_okq (q : MethodName × Nat) : Prop := (q.1.cls ≠ "java/lang/invoke/MethodHandle" ∧ q.1.cls ≠ "java/lang/invoke/VarHandle") ∧ Cond.instantiable q.1.cls q.2 ∈ tables_1 ∧ Cond.privateMethod q.1 ∈ tables_1 ∧ Cond.instanceMethod q.1 ∈ tables_1
theorem lw_p0 : lw_okq (⟨"TabledOrigin", "makeRequest", "(IZII)I"⟩, 6) := ⟨⟨by decide +kernel, by decide +kernel⟩, List.mem_of_getElem? (i := 13) (by decide +kernel), List.mem_of_getElem? (i := 228) (by decide +kernel), List.mem_of_getElem? (i := 229) (by decide +kernel)⟩
theorem lw_p1 : lw_okq (⟨"TabledOrigin", "requestAt", "(I)LTabledOrigin$Request;"⟩, 6) := ⟨⟨by decide +kernel, by decide +kernel⟩, List.mem_of_getElem? (i := 13) (by decide +kernel), List.mem_of_getElem? (i := 313) (by decide +kernel), List.mem_of_getElem? (i := 314) (by decide +kernel)⟩
theorem lw_p2 : lw_okq (⟨"TabledOrigin$Server", "answerPut", "(LTabledOrigin$Request;LTabledOrigin$Resource;)LTabledOrigin$Answer;"⟩, 6) := ⟨⟨by decide +kernel, by decide +kernel⟩, List.mem_of_getElem? (i := 21) (by decide +kernel), List.mem_of_getElem? (i := 325) (by decide +kernel), List.mem_of_getElem? (i := 326) (by decide +kernel)⟩
theorem lw_p3 : lw_okq (⟨"TabledOrigin$Table", "findLive", "(II)I"⟩, 8) := ⟨⟨by decide +kernel, by decide +kernel⟩, List.mem_of_getElem? (i := 49) (by decide +kernel), List.mem_of_getElem? (i := 390) (by decide +kernel), List.mem_of_getElem? (i := 391) (by decide +kernel)⟩
theorem lw_p4 : lw_okq (⟨"TabledOrigin$Table", "refer", "(LTabledOrigin$Answer;I)V"⟩, 8) := ⟨⟨by decide +kernel, by decide +kernel⟩, List.mem_of_getElem? (i := 49) (by decide +kernel), List.mem_of_getElem? (i := 412) (by decide +kernel), List.mem_of_getElem? (i := 413) (by decide +kernel)⟩
theorem lw_p5 : lw_okq (⟨"TabledOrigin$Table", "hasRoomFor", "(LTabledOrigin$Answer;)Z"⟩, 8) := ⟨⟨by decide +kernel, by decide +kernel⟩, List.mem_of_getElem? (i := 49) (by decide +kernel), List.mem_of_getElem? (i := 421) (by decide +kernel), List.mem_of_getElem? (i := 422) (by decide +kernel)⟩
theorem lw_p6 : lw_okq (⟨"TabledOrigin$Table", "makeEntry", "(II)I"⟩, 8) := ⟨⟨by decide +kernel, by decide +kernel⟩, List.mem_of_getElem? (i := 49) (by decide +kernel), List.mem_of_getElem? (i := 433) (by decide +kernel), List.mem_of_getElem? (i := 434) (by decide +kernel)⟩
theorem lw_p7 : lw_okq (⟨"TabledOrigin$Server", "answerGet", "(LTabledOrigin$Request;LTabledOrigin$Resource;)LTabledOrigin$Answer;"⟩, 6) := ⟨⟨by decide +kernel, by decide +kernel⟩, List.mem_of_getElem? (i := 21) (by decide +kernel), List.mem_of_getElem? (i := 437) (by decide +kernel), List.mem_of_getElem? (i := 438) (by decide +kernel)⟩
theorem lw_p8 : lw_okq (⟨"TabledOrigin$Client", "store", "(LTabledOrigin$StoredAnswer;LTabledOrigin$Request;LTabledOrigin$Answer;)V"⟩, 4) := ⟨⟨by decide +kernel, by decide +kernel⟩, List.mem_of_getElem? (i := 109) (by decide +kernel), List.mem_of_getElem? (i := 462) (by decide +kernel), List.mem_of_getElem? (i := 463) (by decide +kernel)⟩
theorem lw_p9 : lw_okq (⟨"TabledOrigin$Client", "renew", "(LTabledOrigin$StoredAnswer;LTabledOrigin$Request;LTabledOrigin$Answer;)V"⟩, 4) := ⟨⟨by decide +kernel, by decide +kernel⟩, List.mem_of_getElem? (i := 109) (by decide +kernel), List.mem_of_getElem? (i := 466) (by decide +kernel), List.mem_of_getElem? (i := 467) (by decide +kernel)⟩
theorem lw_p10 : lw_okq (⟨"TabledOrigin$Client", "acknowledge", "(LTabledOrigin$Request;LTabledOrigin$Answer;LTabledOrigin$FeedbackRoad;)V"⟩, 4) := ⟨⟨by decide +kernel, by decide +kernel⟩, List.mem_of_getElem? (i := 109) (by decide +kernel), List.mem_of_getElem? (i := 470) (by decide +kernel), List.mem_of_getElem? (i := 471) (by decide +kernel)⟩
theorem lw_p11 : lw_okq (⟨"TabledOrigin", "readUnblocked", "()I"⟩, 6) := ⟨⟨by decide +kernel, by decide +kernel⟩, List.mem_of_getElem? (i := 13) (by decide +kernel), List.mem_of_getElem? (i := 483) (by decide +kernel), List.mem_of_getElem? (i := 484) (by decide +kernel)⟩
theorem lw_p12 : lw_okq (⟨"TabledOrigin", "endOutstanding", "(IZ)V"⟩, 6) := ⟨⟨by decide +kernel, by decide +kernel⟩, List.mem_of_getElem? (i := 13) (by decide +kernel), List.mem_of_getElem? (i := 506) (by decide +kernel), List.mem_of_getElem? (i := 507) (by decide +kernel)⟩
theorem lw_p13 : lw_okq (⟨"TabledOrigin", "refuseFrom", "(I)I"⟩, 6) := ⟨⟨by decide +kernel, by decide +kernel⟩, List.mem_of_getElem? (i := 13) (by decide +kernel), List.mem_of_getElem? (i := 532) (by decide +kernel), List.mem_of_getElem? (i := 533) (by decide +kernel)⟩
theorem lw_p14 : lw_okq (⟨"TabledOrigin", "blockedAnswers", "()I"⟩, 6) := ⟨⟨by decide +kernel, by decide +kernel⟩, List.mem_of_getElem? (i := 13) (by decide +kernel), List.mem_of_getElem? (i := 576) (by decide +kernel), List.mem_of_getElem? (i := 577) (by decide +kernel)⟩
theorem lw_p15 : lw_okq (⟨"TabledOriginModel", "write", "(III)I"⟩, 40) := ⟨⟨by decide +kernel, by decide +kernel⟩, List.mem_of_getElem? (i := 580) (by decide +kernel), List.mem_of_getElem? (i := 715) (by decide +kernel), List.mem_of_getElem? (i := 716) (by decide +kernel)⟩
def lw_privs_1 : List (MethodName × Nat) := [(⟨"TabledOrigin", "makeRequest", "(IZII)I"⟩, 6), (⟨"TabledOrigin", "requestAt", "(I)LTabledOrigin$Request;"⟩, 6), (⟨"TabledOrigin$Server", "answerPut", "(LTabledOrigin$Request;LTabledOrigin$Resource;)LTabledOrigin$Answer;"⟩, 6), (⟨"TabledOrigin$Table", "findLive", "(II)I"⟩, 8), (⟨"TabledOrigin$Table", "refer", "(LTabledOrigin$Answer;I)V"⟩, 8), (⟨"TabledOrigin$Table", "hasRoomFor", "(LTabledOrigin$Answer;)Z"⟩, 8), (⟨"TabledOrigin$Table", "makeEntry", "(II)I"⟩, 8), (⟨"TabledOrigin$Server", "answerGet", "(LTabledOrigin$Request;LTabledOrigin$Resource;)LTabledOrigin$Answer;"⟩, 6), (⟨"TabledOrigin$Client", "store", "(LTabledOrigin$StoredAnswer;LTabledOrigin$Request;LTabledOrigin$Answer;)V"⟩, 4), (⟨"TabledOrigin$Client", "renew", "(LTabledOrigin$StoredAnswer;LTabledOrigin$Request;LTabledOrigin$Answer;)V"⟩, 4), (⟨"TabledOrigin$Client", "acknowledge", "(LTabledOrigin$Request;LTabledOrigin$Answer;LTabledOrigin$FeedbackRoad;)V"⟩, 4), (⟨"TabledOrigin", "readUnblocked", "()I"⟩, 6), (⟨"TabledOrigin", "endOutstanding", "(IZ)V"⟩, 6), (⟨"TabledOrigin", "refuseFrom", "(I)I"⟩, 6), (⟨"TabledOrigin", "blockedAnswers", "()I"⟩, 6), (⟨"TabledOriginModel", "write", "(III)I"⟩, 40)]
theorem lw_r1 : ∀ q ∈ lw_privs_1, lw_okq q := List.forall_mem_cons.mpr ⟨lw_p0, List.forall_mem_cons.mpr ⟨lw_p1, List.forall_mem_cons.mpr ⟨lw_p2, List.forall_mem_cons.mpr ⟨lw_p3, List.forall_mem_cons.mpr ⟨lw_p4, List.forall_mem_cons.mpr ⟨lw_p5, List.forall_mem_cons.mpr ⟨lw_p6, List.forall_mem_cons.mpr ⟨lw_p7, List.forall_mem_cons.mpr ⟨lw_p8, List.forall_mem_cons.mpr ⟨lw_p9, List.forall_mem_cons.mpr ⟨lw_p10, List.forall_mem_cons.mpr ⟨lw_p11, List.forall_mem_cons.mpr ⟨lw_p12, List.forall_mem_cons.mpr ⟨lw_p13, List.forall_mem_cons.mpr ⟨lw_p14, List.forall_mem_cons.mpr ⟨lw_p15, fun _ h => absurd h List.not_mem_nil⟩⟩⟩⟩⟩⟩⟩⟩⟩⟩⟩⟩⟩⟩⟩⟩
theorem lw_p16 : lw_okq (⟨"TabledOriginModel", "decide", "(I)I"⟩, 40) := ⟨⟨by decide +kernel, by decide +kernel⟩, List.mem_of_getElem? (i := 580) (by decide +kernel), List.mem_of_getElem? (i := 727) (by decide +kernel), List.mem_of_getElem? (i := 728) (by decide +kernel)⟩
theorem lw_p17 : lw_okq (⟨"TabledOriginModel", "field", "(III)V"⟩, 40) := ⟨⟨by decide +kernel, by decide +kernel⟩, List.mem_of_getElem? (i := 580) (by decide +kernel), List.mem_of_getElem? (i := 731) (by decide +kernel), List.mem_of_getElem? (i := 732) (by decide +kernel)⟩
theorem lw_p18 : lw_okq (⟨"TabledOriginModel", "after", "(I)I"⟩, 40) := ⟨⟨by decide +kernel, by decide +kernel⟩, List.mem_of_getElem? (i := 580) (by decide +kernel), List.mem_of_getElem? (i := 735) (by decide +kernel), List.mem_of_getElem? (i := 736) (by decide +kernel)⟩
theorem lw_p19 : lw_okq (⟨"TabledOriginModel", "need", "(I)I"⟩, 40) := ⟨⟨by decide +kernel, by decide +kernel⟩, List.mem_of_getElem? (i := 580) (by decide +kernel), List.mem_of_getElem? (i := 739) (by decide +kernel), List.mem_of_getElem? (i := 740) (by decide +kernel)⟩
theorem lw_p20 : lw_okq (⟨"TabledOriginModel", "risky", "(II)I"⟩, 40) := ⟨⟨by decide +kernel, by decide +kernel⟩, List.mem_of_getElem? (i := 580) (by decide +kernel), List.mem_of_getElem? (i := 743) (by decide +kernel), List.mem_of_getElem? (i := 744) (by decide +kernel)⟩
theorem lw_p21 : lw_okq (⟨"TabledOriginModel", "outstanding", "(I)Z"⟩, 40) := ⟨⟨by decide +kernel, by decide +kernel⟩, List.mem_of_getElem? (i := 580) (by decide +kernel), List.mem_of_getElem? (i := 747) (by decide +kernel), List.mem_of_getElem? (i := 748) (by decide +kernel)⟩
theorem lw_p22 : lw_okq (⟨"TabledOriginModel", "oldest", "()I"⟩, 40) := ⟨⟨by decide +kernel, by decide +kernel⟩, List.mem_of_getElem? (i := 580) (by decide +kernel), List.mem_of_getElem? (i := 751) (by decide +kernel), List.mem_of_getElem? (i := 752) (by decide +kernel)⟩
theorem lw_p23 : lw_okq (⟨"TabledOriginModel", "uses", "(II)I"⟩, 40) := ⟨⟨by decide +kernel, by decide +kernel⟩, List.mem_of_getElem? (i := 580) (by decide +kernel), List.mem_of_getElem? (i := 755) (by decide +kernel), List.mem_of_getElem? (i := 756) (by decide +kernel)⟩
theorem lw_p24 : lw_okq (⟨"TabledOriginModel", "ask", "(IZII)I"⟩, 40) := ⟨⟨by decide +kernel, by decide +kernel⟩, List.mem_of_getElem? (i := 580) (by decide +kernel), List.mem_of_getElem? (i := 771) (by decide +kernel), List.mem_of_getElem? (i := 772) (by decide +kernel)⟩
theorem lw_p25 : lw_okq (⟨"TabledOriginModel", "read", "(I)I"⟩, 40) := ⟨⟨by decide +kernel, by decide +kernel⟩, List.mem_of_getElem? (i := 580) (by decide +kernel), List.mem_of_getElem? (i := 783) (by decide +kernel), List.mem_of_getElem? (i := 784) (by decide +kernel)⟩
theorem lw_p26 : lw_okq (⟨"TabledOriginModel", "tell", "(II)V"⟩, 40) := ⟨⟨by decide +kernel, by decide +kernel⟩, List.mem_of_getElem? (i := 580) (by decide +kernel), List.mem_of_getElem? (i := 787) (by decide +kernel), List.mem_of_getElem? (i := 788) (by decide +kernel)⟩
def lw_privs_2 : List (MethodName × Nat) := [(⟨"TabledOriginModel", "decide", "(I)I"⟩, 40), (⟨"TabledOriginModel", "field", "(III)V"⟩, 40), (⟨"TabledOriginModel", "after", "(I)I"⟩, 40), (⟨"TabledOriginModel", "need", "(I)I"⟩, 40), (⟨"TabledOriginModel", "risky", "(II)I"⟩, 40), (⟨"TabledOriginModel", "outstanding", "(I)Z"⟩, 40), (⟨"TabledOriginModel", "oldest", "()I"⟩, 40), (⟨"TabledOriginModel", "uses", "(II)I"⟩, 40), (⟨"TabledOriginModel", "ask", "(IZII)I"⟩, 40), (⟨"TabledOriginModel", "read", "(I)I"⟩, 40), (⟨"TabledOriginModel", "tell", "(II)V"⟩, 40)]
theorem lw_r2 : ∀ q ∈ lw_privs_2, lw_okq q := List.forall_mem_cons.mpr ⟨lw_p16, List.forall_mem_cons.mpr ⟨lw_p17, List.forall_mem_cons.mpr ⟨lw_p18, List.forall_mem_cons.mpr ⟨lw_p19, List.forall_mem_cons.mpr ⟨lw_p20, List.forall_mem_cons.mpr ⟨lw_p21, List.forall_mem_cons.mpr ⟨lw_p22, List.forall_mem_cons.mpr ⟨lw_p23, List.forall_mem_cons.mpr ⟨lw_p24, List.forall_mem_cons.mpr ⟨lw_p25, List.forall_mem_cons.mpr ⟨lw_p26, fun _ h => absurd h List.not_mem_nil⟩⟩⟩⟩⟩⟩⟩⟩⟩⟩⟩
def lw_privs : List (MethodName × Nat) := lw_privs_1 ++ (lw_privs_2)
def lw_tbl : List Cond := k2_sels lw_privs ++ tables_1
theorem lw_privs_ok : ∀ q ∈ lw_privs, lw_okq q := by
  show ∀ q ∈ lw_privs_1 ++ (lw_privs_2), lw_okq q
  exact List.forall_mem_append.mpr ⟨lw_r1, lw_r2⟩
def zws : List Cond := lw_tbl.filter goodWord
theorem zin {w : Cond} (i : Nat) (h : tables_1[i]? = some w) (hn : goodWord w = true) : w ∈ zws := List.mem_filter.mpr ⟨List.mem_append_right _ (List.mem_of_getElem? h), hn⟩
theorem zsel {w : Cond} (i : Nat) (h : (k2_sels lw_privs)[i]? = some w) (hn : goodWord w = true) : w ∈ zws := List.mem_filter.mpr ⟨List.mem_append_left _ (List.mem_of_getElem? h), hn⟩
theorem z_good : zws.all goodWord = true := List.all_eq_true.mpr fun _ h => (List.mem_filter.mp h).2
theorem zgood {y : MethodName} {b : ByteArray} {ml : Nat} {r : Option FieldType} (h : Cond.code y b ml r ∈ zws) : GoodIn zws (Cond.code y b ml r :: zws) := by
  intro w hw
  rcases List.mem_cons.mp hw with rfl | hw
  · exact ⟨h, good_of_word (List.all_eq_true.mp z_good _ h)⟩
  · exact ⟨hw, good_of_word (List.all_eq_true.mp z_good w hw)⟩
abbrev fR_0 : String := "TabledOrigin$Answer"
def fT_0 : u_T := fun k => match k with
  | 0 => ("TabledOrigin$Answer", "status", "I", true)
  | 1 => ("TabledOrigin$Answer", "referredTo", "[I", true)
  | 2 => ("TabledOrigin$Answer", "referenceCount", "I", false)
  | 3 => ("TabledOrigin$Answer", "need", "I", false)
  | 4 => ("TabledOrigin$Answer", "tag", "I", false)
  | 5 => ("TabledOrigin$Answer", "lifetime", "I", false)
  | 6 => ("TabledOrigin$Answer", "content", "I", false)
  | 7 => ("TabledOrigin$Answer", "underWay", "Z", false)
  | 8 => ("TabledOrigin$Answer", "blocked", "Z", false)
  | _ => ("TabledOrigin$Answer", "outstanding", "Z", false)
def ty_0 : Nat → FieldType := fun k => match k with
  | 0 => .int
  | 1 => .array .int
  | 2 => .int
  | 3 => .int
  | 4 => .int
  | 5 => .int
  | 6 => .int
  | 7 => .boolean
  | 8 => .boolean
  | _ => .boolean
theorem nm_0 : ∀ a, a < 10 → ∀ b, b < 10 → a ≠ b → (fT_0 a).2.1 ≠ (fT_0 b).2.1 := by decide +kernel
theorem tyok_0 : ∀ k, k < 10 → parseFieldDescriptor (fT_0 k).2.2.1 = some (ty_0 k) := by decide +kernel
abbrev fR_1 : String := "TabledOrigin$Client"
def fT_1 : u_T := fun k => match k with
  | 0 => ("TabledOrigin$Client", "storedAnswers", "[LTabledOrigin$StoredAnswer;", true)
  | 1 => ("TabledOrigin$Client", "instructionsCome", "I", false)
  | 2 => ("TabledOrigin$Client", "told", "I", false)
  | _ => ("TabledOrigin$Client", "noticeTaken", "Z", false)
def ty_1 : Nat → FieldType := fun k => match k with
  | 0 => .array (.object "TabledOrigin$StoredAnswer")
  | 1 => .int
  | 2 => .int
  | _ => .boolean
theorem nm_1 : ∀ a, a < 4 → ∀ b, b < 4 → a ≠ b → (fT_1 a).2.1 ≠ (fT_1 b).2.1 := by decide +kernel
theorem tyok_1 : ∀ k, k < 4 → parseFieldDescriptor (fT_1 k).2.2.1 = some (ty_1 k) := by decide +kernel
abbrev fR_2 : String := "TabledOrigin$FeedbackRoad"
def fT_2 : u_T := fun k => match k with
  | 0 => ("TabledOrigin$FeedbackRoad", "kinds", "[I", true)
  | 1 => ("TabledOrigin$FeedbackRoad", "numbers", "[I", true)
  | 2 => ("TabledOrigin$FeedbackRoad", "length", "I", false)
  | _ => ("TabledOrigin$FeedbackRoad", "taken", "I", false)
def ty_2 : Nat → FieldType := fun k => match k with
  | 0 => .array .int
  | 1 => .array .int
  | 2 => .int
  | _ => .int
theorem nm_2 : ∀ a, a < 4 → ∀ b, b < 4 → a ≠ b → (fT_2 a).2.1 ≠ (fT_2 b).2.1 := by decide +kernel
theorem tyok_2 : ∀ k, k < 4 → parseFieldDescriptor (fT_2 k).2.2.1 = some (ty_2 k) := by decide +kernel
abbrev fR_3 : String := "TabledOrigin$Request"
def fT_3 : u_T := fun k => match k with
  | 0 => ("TabledOrigin$Request", "number", "I", true)
  | 1 => ("TabledOrigin$Request", "resource", "I", true)
  | 2 => ("TabledOrigin$Request", "isPut", "Z", true)
  | 3 => ("TabledOrigin$Request", "content", "I", true)
  | 4 => ("TabledOrigin$Request", "lifetime", "I", true)
  | 5 => ("TabledOrigin$Request", "tag", "I", false)
  | 6 => ("TabledOrigin$Request", "sent", "I", false)
  | 7 => ("TabledOrigin$Request", "keptContent", "I", false)
  | 8 => ("TabledOrigin$Request", "underWay", "Z", false)
  | 9 => ("TabledOrigin$Request", "outcome", "I", false)
  | 10 => ("TabledOrigin$Request", "outcomeContent", "I", false)
  | _ => ("TabledOrigin$Request", "answer", "LTabledOrigin$Answer;", false)
def ty_3 : Nat → FieldType := fun k => match k with
  | 0 => .int
  | 1 => .int
  | 2 => .boolean
  | 3 => .int
  | 4 => .int
  | 5 => .int
  | 6 => .int
  | 7 => .int
  | 8 => .boolean
  | 9 => .int
  | 10 => .int
  | _ => .object "TabledOrigin$Answer"
theorem nm_3 : ∀ a, a < 12 → ∀ b, b < 12 → a ≠ b → (fT_3 a).2.1 ≠ (fT_3 b).2.1 := by decide +kernel
theorem tyok_3 : ∀ k, k < 12 → parseFieldDescriptor (fT_3 k).2.2.1 = some (ty_3 k) := by decide +kernel
abbrev fR_4 : String := "TabledOrigin$Resource"
def fT_4 : u_T := fun k => match k with
  | 0 => ("TabledOrigin$Resource", "there", "Z", false)
  | 1 => ("TabledOrigin$Resource", "tag", "I", false)
  | 2 => ("TabledOrigin$Resource", "content", "I", false)
  | _ => ("TabledOrigin$Resource", "lifetime", "I", false)
def ty_4 : Nat → FieldType := fun k => match k with
  | 0 => .boolean
  | 1 => .int
  | 2 => .int
  | _ => .int
theorem nm_4 : ∀ a, a < 4 → ∀ b, b < 4 → a ≠ b → (fT_4 a).2.1 ≠ (fT_4 b).2.1 := by decide +kernel
theorem tyok_4 : ∀ k, k < 4 → parseFieldDescriptor (fT_4 k).2.2.1 = some (ty_4 k) := by decide +kernel
abbrev fR_5 : String := "TabledOrigin$Server"
def fT_5 : u_T := fun k => match k with
  | 0 => ("TabledOrigin$Server", "resources", "[LTabledOrigin$Resource;", true)
  | 1 => ("TabledOrigin$Server", "table", "LTabledOrigin$Table;", true)
  | 2 => ("TabledOrigin$Server", "newestTag", "I", false)
  | 3 => ("TabledOrigin$Server", "answeredEnd", "I", false)
  | 4 => ("TabledOrigin$Server", "limitAnnounced", "Z", false)
  | _ => ("TabledOrigin$Server", "limit", "I", false)
def ty_5 : Nat → FieldType := fun k => match k with
  | 0 => .array (.object "TabledOrigin$Resource")
  | 1 => .object "TabledOrigin$Table"
  | 2 => .int
  | 3 => .int
  | 4 => .boolean
  | _ => .int
theorem nm_5 : ∀ a, a < 6 → ∀ b, b < 6 → a ≠ b → (fT_5 a).2.1 ≠ (fT_5 b).2.1 := by decide +kernel
theorem tyok_5 : ∀ k, k < 6 → parseFieldDescriptor (fT_5 k).2.2.1 = some (ty_5 k) := by decide +kernel
abbrev fR_6 : String := "TabledOrigin$StoredAnswer"
def fT_6 : u_T := fun k => match k with
  | 0 => ("TabledOrigin$StoredAnswer", "there", "Z", false)
  | 1 => ("TabledOrigin$StoredAnswer", "tag", "I", false)
  | 2 => ("TabledOrigin$StoredAnswer", "content", "I", false)
  | 3 => ("TabledOrigin$StoredAnswer", "lifetime", "I", false)
  | 4 => ("TabledOrigin$StoredAnswer", "since", "I", false)
  | _ => ("TabledOrigin$StoredAnswer", "request", "I", false)
def ty_6 : Nat → FieldType := fun k => match k with
  | 0 => .boolean
  | 1 => .int
  | 2 => .int
  | 3 => .int
  | 4 => .int
  | _ => .int
theorem nm_6 : ∀ a, a < 6 → ∀ b, b < 6 → a ≠ b → (fT_6 a).2.1 ≠ (fT_6 b).2.1 := by decide +kernel
theorem tyok_6 : ∀ k, k < 6 → parseFieldDescriptor (fT_6 k).2.2.1 = some (ty_6 k) := by decide +kernel
abbrev fR_7 : String := "TabledOrigin$Table"
def fT_7 : u_T := fun k => match k with
  | 0 => ("TabledOrigin$Table", "names", "[I", true)
  | 1 => ("TabledOrigin$Table", "values", "[I", true)
  | 2 => ("TabledOrigin$Table", "answers", "[LTabledOrigin$Answer;", true)
  | 3 => ("TabledOrigin$Table", "answerCount", "I", false)
  | 4 => ("TabledOrigin$Table", "made", "I", false)
  | 5 => ("TabledOrigin$Table", "known", "I", false)
  | 6 => ("TabledOrigin$Table", "literals", "I", false)
  | _ => ("TabledOrigin$Table", "references", "I", false)
def ty_7 : Nat → FieldType := fun k => match k with
  | 0 => .array .int
  | 1 => .array .int
  | 2 => .array (.object "TabledOrigin$Answer")
  | 3 => .int
  | 4 => .int
  | 5 => .int
  | 6 => .int
  | _ => .int
theorem nm_7 : ∀ a, a < 8 → ∀ b, b < 8 → a ≠ b → (fT_7 a).2.1 ≠ (fT_7 b).2.1 := by decide +kernel
theorem tyok_7 : ∀ k, k < 8 → parseFieldDescriptor (fT_7 k).2.2.1 = some (ty_7 k) := by decide +kernel
abbrev fR_8 : String := "TabledOrigin"
def fT_8 : u_T := fun k => match k with
  | 0 => ("TabledOrigin", "server", "LTabledOrigin$Server;", true)
  | 1 => ("TabledOrigin", "client", "LTabledOrigin$Client;", true)
  | 2 => ("TabledOrigin", "feedbackRoad", "LTabledOrigin$FeedbackRoad;", true)
  | 3 => ("TabledOrigin", "requests", "[LTabledOrigin$Request;", true)
  | 4 => ("TabledOrigin", "requestCount", "I", false)
  | _ => ("TabledOrigin", "clock", "I", false)
def ty_8 : Nat → FieldType := fun k => match k with
  | 0 => .object "TabledOrigin$Server"
  | 1 => .object "TabledOrigin$Client"
  | 2 => .object "TabledOrigin$FeedbackRoad"
  | 3 => .array (.object "TabledOrigin$Request")
  | 4 => .int
  | _ => .int
theorem nm_8 : ∀ a, a < 6 → ∀ b, b < 6 → a ≠ b → (fT_8 a).2.1 ≠ (fT_8 b).2.1 := by decide +kernel
theorem tyok_8 : ∀ k, k < 6 → parseFieldDescriptor (fT_8 k).2.2.1 = some (ty_8 k) := by decide +kernel
abbrev fR_9 : String := "TabledOriginModel"
def fT_9 : u_T := fun k => match k with
  | 0 => ("TabledOriginModel", "there", "[Z", true)
  | 1 => ("TabledOriginModel", "text", "[I", true)
  | 2 => ("TabledOriginModel", "life", "[I", true)
  | 3 => ("TabledOriginModel", "tag", "[I", true)
  | 4 => ("TabledOriginModel", "newest", "I", false)
  | 5 => ("TabledOriginModel", "clock", "I", false)
  | 6 => ("TabledOriginModel", "requests", "I", false)
  | 7 => ("TabledOriginModel", "writes", "[Z", true)
  | 8 => ("TabledOriginModel", "resource", "[I", true)
  | 9 => ("TabledOriginModel", "result", "[I", true)
  | 10 => ("TabledOriginModel", "body", "[I", true)
  | 11 => ("TabledOriginModel", "lasts", "[I", true)
  | 12 => ("TabledOriginModel", "bears", "[I", true)
  | 13 => ("TabledOriginModel", "sent", "[I", true)
  | 14 => ("TabledOriginModel", "shown", "[I", true)
  | 15 => ("TabledOriginModel", "road", "[I", true)
  | 16 => ("TabledOriginModel", "status", "[I", true)
  | 17 => ("TabledOriginModel", "ansTag", "[I", true)
  | 18 => ("TabledOriginModel", "ansLife", "[I", true)
  | 19 => ("TabledOriginModel", "ansText", "[I", true)
  | 20 => ("TabledOriginModel", "refers", "[I", true)
  | 21 => ("TabledOriginModel", "keptBy", "[I", true)
  | 22 => ("TabledOriginModel", "keptTag", "[I", true)
  | 23 => ("TabledOriginModel", "keptText", "[I", true)
  | 24 => ("TabledOriginModel", "keptLife", "[I", true)
  | 25 => ("TabledOriginModel", "keptSince", "[I", true)
  | 26 => ("TabledOriginModel", "name", "[I", true)
  | 27 => ("TabledOriginModel", "value", "[I", true)
  | 28 => ("TabledOriginModel", "made", "I", false)
  | 29 => ("TabledOriginModel", "came", "I", false)
  | 30 => ("TabledOriginModel", "literals", "I", false)
  | 31 => ("TabledOriginModel", "references", "I", false)
  | 32 => ("TabledOriginModel", "word", "[I", true)
  | 33 => ("TabledOriginModel", "about", "[I", true)
  | 34 => ("TabledOriginModel", "words", "I", false)
  | 35 => ("TabledOriginModel", "heard", "I", false)
  | 36 => ("TabledOriginModel", "announced", "Z", false)
  | 37 => ("TabledOriginModel", "noticed", "Z", false)
  | 38 => ("TabledOriginModel", "bound", "I", false)
  | _ => ("TabledOriginModel", "answered", "I", false)
def ty_9 : Nat → FieldType := fun k => match k with
  | 0 => .array .boolean
  | 1 => .array .int
  | 2 => .array .int
  | 3 => .array .int
  | 4 => .int
  | 5 => .int
  | 6 => .int
  | 7 => .array .boolean
  | 8 => .array .int
  | 9 => .array .int
  | 10 => .array .int
  | 11 => .array .int
  | 12 => .array .int
  | 13 => .array .int
  | 14 => .array .int
  | 15 => .array .int
  | 16 => .array .int
  | 17 => .array .int
  | 18 => .array .int
  | 19 => .array .int
  | 20 => .array .int
  | 21 => .array .int
  | 22 => .array .int
  | 23 => .array .int
  | 24 => .array .int
  | 25 => .array .int
  | 26 => .array .int
  | 27 => .array .int
  | 28 => .int
  | 29 => .int
  | 30 => .int
  | 31 => .int
  | 32 => .array .int
  | 33 => .array .int
  | 34 => .int
  | 35 => .int
  | 36 => .boolean
  | 37 => .boolean
  | 38 => .int
  | _ => .int
theorem nm_9 : ∀ a, a < 40 → ∀ b, b < 40 → a ≠ b → (fT_9 a).2.1 ≠ (fT_9 b).2.1 := by decide +kernel
theorem tyok_9 : ∀ k, k < 40 → parseFieldDescriptor (fT_9 k).2.2.1 = some (ty_9 k) := by decide +kernel
abbrev zcl : List vw_C := [(fR_0, fT_0, 10), (fR_1, fT_1, 4), (fR_2, fT_2, 4), (fR_3, fT_3, 12), (fR_4, fT_4, 4), (fR_5, fT_5, 6), (fR_6, fT_6, 6), (fR_7, fT_7, 8), (fR_8, fT_8, 6), (fR_9, fT_9, 40)]
def zfl : Nat → List Bool := fun k => match k with
  | 0 => [false, true, false, false, false, false, false, false, false, false]
  | 1 => [true, false, false, false]
  | 2 => [true, true, false, false]
  | 3 => [false, false, false, false, false, false, false, false, false, false, false, true]
  | 4 => [false, false, false, false]
  | 5 => [true, true, false, false, false, false]
  | 6 => [false, false, false, false, false, false]
  | 7 => [true, true, true, false, false, false, false, false]
  | 8 => [true, true, true, true, false, false]
  | _ => [true, true, true, true, false, false, false, true, true, true, true, true, true, true, true, true, true, true, true, true, true, true, true, true, true, true, true, true, false, false, false, false, true, true, false, false, false, false, false, false]
abbrev ztys (ca : Nat → ClassId) : List (ClassId × FieldType) := [(ca 20, .int), (ca 21, .boolean), (ca 22, .object "TabledOrigin$Request"), (ca 23, .object "TabledOrigin$Answer"), (ca 24, .object "TabledOrigin$Resource"), (ca 25, .object "TabledOrigin$StoredAnswer")]
def zN (U : State) : Prop := va_Nw (.methodLinkNest "TabledOrigin$Server" 17 ⟨"TabledOrigin$Resource", "<init>", "()V"⟩ "TabledOrigin") U ∧ va_Nw (.methodLinkNest "TabledOrigin$Client" 17 ⟨"TabledOrigin$StoredAnswer", "<init>", "()V"⟩ "TabledOrigin") U ∧ va_AO "TabledOrigin$Request" U ∧ va_AO "TabledOrigin$Answer" U ∧ va_AO "TabledOrigin$Resource" U ∧ va_AO "TabledOrigin$StoredAnswer" U
theorem zAO_same {C : String} {U V : State} (h : U.vm = V.vm) (q : va_AO C U) : va_AO C V := q.moved (by rw [h]; exact Vm.Alike.refl V.vm)
theorem zN_same {U V : State} (h : U.vm = V.vm) (q : zN U) : zN V := ⟨va_Nw.same rfl h q.1, va_Nw.same rfl h q.2.1, zAO_same h q.2.2.1, zAO_same h q.2.2.2.1, zAO_same h q.2.2.2.2.1, zAO_same h q.2.2.2.2.2⟩
theorem zN_warm {s U : State} (hW : s.WarmedH U.vm) (q : zN s) : zN U := ⟨va_Nw.warmM hW q.1, va_Nw.warmM hW q.2.1, q.2.2.1.moved hW.alike, q.2.2.2.1.moved hW.alike, q.2.2.2.2.1.moved hW.alike, q.2.2.2.2.2.moved hW.alike⟩
