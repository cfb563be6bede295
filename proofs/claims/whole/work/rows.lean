section
-- ===== PART A: goes FIRST, ahead of the names: the tables' words, and 'selects' of the private methods out of them =====
/-- a private method of a class that the tables say can be made, by its rows of tables_1 -/
def lw_okq (q : MethodName × Nat) : Prop := (q.1.cls ≠ "java/lang/invoke/MethodHandle" ∧ q.1.cls ≠ "java/lang/invoke/VarHandle") ∧ Cond.instantiable q.1.cls q.2 ∈ tables_1 ∧ Cond.privateMethod q.1 ∈ tables_1 ∧ Cond.instanceMethod q.1 ∈ tables_1
theorem lw_p0 : lw_okq (⟨"TabledOrigin", "makeRequest", "(IZII)I"⟩, 6) := ⟨⟨by decide +kernel, by decide +kernel⟩, List.mem_of_getElem? (i := 13) (by decide +kernel), List.mem_of_getElem? (i := 228) (by decide +kernel), List.mem_of_getElem? (i := 229) (by decide +kernel)⟩
theorem lw_p1 : lw_okq (⟨"TabledOrigin", "requestAt", "(I)LTabledOrigin$Request;"⟩, 6) := ⟨⟨by decide +kernel, by decide +kernel⟩, List.mem_of_getElem? (i := 13) (by decide +kernel), List.mem_of_getElem? (i := 313) (by decide +kernel), List.mem_of_getElem? (i := 314) (by decide +kernel)⟩
theorem lw_p2 : lw_okq (⟨"TabledOrigin$Server", "answerPut", "(LTabledOrigin$Request;LTabledOrigin$Resource;)LTabledOrigin$Answer;"⟩, 6) := ⟨⟨by decide +kernel, by decide +kernel⟩, List.mem_of_getElem? (i := 21) (by decide +kernel), List.mem_of_getElem? (i := 325) (by decide +kernel), List.mem_of_getElem? (i := 326) (by decide +kernel)⟩
theorem lw_p3 : lw_okq (⟨"TabledOrigin$Table", "findLive", "(II)I"⟩, 8) := ⟨⟨by decide +kernel, by decide +kernel⟩, List.mem_of_getElem? (i := 49) (by decide +kernel), List.mem_of_getElem? (i := 390) (by decide +kernel), List.mem_of_getElem? (i := 391) (by decide +kernel)⟩
theorem lw_p4 : lw_okq (⟨"TabledOrigin$Table", "refer", "(LTabledOrigin$Answer;I)V"⟩, 8) := ⟨⟨by decide +kernel, by decide +kernel⟩, List.mem_of_getElem? (i := 49) (by decide +kernel), List.mem_of_getElem? (i := 412) (by decide +kernel), List.mem_of_getElem? (i := 413) (by decide +kernel)⟩
theorem lw_p5 : lw_okq (⟨"TabledOrigin$Table", "hasRoomFor", "(LTabledOrigin$Answer;)Z"⟩, 8) := ⟨⟨by decide +kernel, by decide +kernel⟩, List.mem_of_getElem? (i := 49) (by decide +kernel), List.mem_of_getElem? (i := 421) (by decide +kernel), List.mem_of_getElem? (i := 422) (by decide +kernel)⟩
theorem lw_p6 : lw_okq (⟨"TabledOrigin$Table", "makeEntry", "(II)I"⟩, 8) := ⟨⟨by decide +kernel, by decide +kernel⟩, List.mem_of_getElem? (i := 49) (by decide +kernel), List.mem_of_getElem? (i := 433) (by decide +kernel), List.mem_of_getElem? (i := 434) (by decide +kernel)⟩
theorem lw_p7 : lw_okq (⟨"TabledOrigin$Server", "answerGet", "(LTabledOrigin$Request;LTabledOrigin$Resource;)LTabledOrigin$Answer;"⟩, 6) := ⟨⟨by decide +kernel, by decide +kernel⟩, List.mem_of_getElem? (i := 21) (by decide +kernel), List.mem_of_getElem? (i := 437) (by decide +kernel), List.mem_of_getElem? (i := 438) (by decide +kernel)⟩
theorem lw_p8 : lw_okq (⟨"TabledOrigin$Client", "store", "(LTabledOrigin$StoredAnswer;LTabledOrigin$Request;LTabledOrigin$Answer;)V"⟩, 4) := ⟨⟨by decide +kernel, by decide +kernel⟩, List.mem_of_getElem? (i := 109) (by decide +kernel), List.mem_of_getElem? (i := 462) (by decide +kernel), List.mem_of_getElem? (i := 463) (by decide +kernel)⟩
theorem lw_p9 : lw_okq (⟨"TabledOrigin$Client", "renew", "(LTabledOrigin$StoredAnswer;LTabledOrigin$Request;LTabledOrigin$Answer;)V"⟩, 4) := ⟨⟨by decide +kernel, by decide +kernel⟩, List.mem_of_getElem? (i := 109) (by decide +kernel), List.mem_of_getElem? (i := 466) (by decide +kernel), List.mem_of_getElem? (i := 467) (by decide +kernel)⟩
theorem lw_p10 : lw_okq (⟨"TabledOrigin$Client", "acknowledge", "(LTabledOrigin$Request;LTabledOrigin$Answer;LTabledOrigin$FeedbackRoad;)V"⟩, 4) := ⟨⟨by decide +kernel, by decide +kernel⟩, List.mem_of_getElem? (i := 109) (by decide +kernel), List.mem_of_getElem? (i := 470) (by decide +kernel), List.mem_of_getElem? (i := 471) (by decide +kernel)⟩
theorem lw_p11 : lw_okq (⟨"TabledOrigin", "readUnblocked", "()I"⟩, 6) := ⟨⟨by decide +kernel, by decide +kernel⟩, List.mem_of_getElem? (i := 13) (by decide +kernel), List.mem_of_getElem? (i := 483) (by decide +kernel), List.mem_of_getElem? (i := 484) (by decide +kernel)⟩
theorem lw_p12 : lw_okq (⟨"TabledOrigin", "endOutstanding", "(IZ)V"⟩, 6) := ⟨⟨by decide +kernel, by decide +kernel⟩, List.mem_of_getElem? (i := 13) (by decide +kernel), List.mem_of_getElem? (i := 506) (by decide +kernel), List.mem_of_getElem? (i := 507) (by decide +kernel)⟩
theorem lw_p13 : lw_okq (⟨"TabledOrigin", "refuseFrom", "(I)I"⟩, 6) := ⟨⟨by decide +kernel, by decide +kernel⟩, List.mem_of_getElem? (i := 13) (by decide +kernel), List.mem_of_getElem? (i := 532) (by decide +kernel), List.mem_of_getElem? (i := 533) (by decide +kernel)⟩
theorem lw_p14 : lw_okq (⟨"TabledOrigin", "blockedAnswers", "()I"⟩, 6) := ⟨⟨by decide +kernel, by decide +kernel⟩, List.mem_of_getElem? (i := 13) (by decide +kernel), List.mem_of_getElem? (i := 576) (by decide +kernel), List.mem_of_getElem? (i := 577) (by decide +kernel)⟩
theorem lw_p15 : lw_okq (⟨"TabledOriginModel", "write", "(III)I"⟩, 40) := ⟨⟨by decide +kernel, by decide +kernel⟩, List.mem_of_getElem? (i := 580) (by decide +kernel), List.mem_of_getElem? (i := 715) (by decide +kernel), List.mem_of_getElem? (i := 716) (by decide +kernel)⟩
def lw_privs_1 : List (MethodName × Nat) := [(⟨"TabledOrigin", "makeRequest", "(IZII)I"⟩, 6), (⟨"TabledOrigin", "requestAt", "(I)LTabledOrigin$Request;"⟩, 6), (⟨"TabledOrigin$Server", "answerPut", "(LTabledOrigin$Request;LTabledOrigin$Resource;)LTabledOrigin$Answer;"⟩, 6), (⟨"TabledOrigin$Table", "findLive", "(II)I"⟩, 8), (⟨"TabledOrigin$Table", "refer", "(LTabledOrigin$Answer;I)V"⟩, 8), (⟨"TabledOrigin$Table", "hasRoomFor", "(LTabledOrigin$Answer;)Z"⟩, 8), (⟨"TabledOrigin$Table", "makeEntry", "(II)I"⟩, 8), (⟨"TabledOrigin$Server", "answerGet", "(LTabledOrigin$Request;LTabledOrigin$Resource;)LTabledOrigin$Answer;"⟩, 6), (⟨"TabledOrigin$Client", "store", "(LTabledOrigin$StoredAnswer;LTabledOrigin$Request;LTabledOrigin$Answer;)V"⟩, 4), (⟨"TabledOrigin$Client", "renew", "(LTabledOrigin$StoredAnswer;LTabledOrigin$Request;LTabledOrigin$Answer;)V"⟩, 4), (⟨"TabledOrigin$Client", "acknowledge", "(LTabledOrigin$Request;LTabledOrigin$Answer;LTabledOrigin$FeedbackRoad;)V"⟩, 4), (⟨"TabledOrigin", "readUnblocked", "()I"⟩, 6), (⟨"TabledOrigin", "endOutstanding", "(IZ)V"⟩, 6), (⟨"TabledOrigin", "refuseFrom", "(I)I"⟩, 6), (⟨"TabledOrigin", "blockedAnswers", "()I"⟩, 6), (⟨"TabledOriginModel", "write", "(III)I"⟩, 40)]
theorem lw_r1 : ∀ q ∈ lw_privs_1, lw_okq q := List.forall_mem_cons.mpr ⟨lw_p0, List.forall_mem_cons.mpr ⟨lw_p1, List.forall_mem_cons.mpr ⟨lw_p2, List.forall_mem_cons.mpr ⟨lw_p3, List.forall_mem_cons.mpr ⟨lw_p4, List.forall_mem_cons.mpr ⟨lw_p5, List.forall_mem_cons.mpr ⟨lw_p6, List.forall_mem_cons.mpr ⟨lw_p7, List.forall_mem_cons.mpr ⟨lw_p8, List.forall_mem_cons.mpr ⟨lw_p9, List.forall_mem_cons.mpr ⟨lw_p10, List.forall_mem_cons.mpr ⟨lw_p11, List.forall_mem_cons.mpr ⟨lw_p12, List.forall_mem_cons.mpr ⟨lw_p13, List.forall_mem_cons.mpr ⟨lw_p14, List.forall_mem_cons.mpr ⟨lw_p15, fun _ h => absurd h List.not_mem_nil⟩⟩⟩⟩⟩⟩⟩⟩⟩⟩⟩⟩⟩⟩⟩⟩
theorem lw_p16 : lw_okq (⟨"TabledOriginModel", "decide", "(I)I"⟩, 40) := ⟨⟨by decide +kernel, by decide +kernel⟩, List.mem_of_getElem? (i := 580) (by decide +kernel), List.mem_of_getElem? (i := 727) (by decide +kernel), List.mem_of_getElem? (i := 728) (by decide +kernel)⟩
theorem lw_p17 : lw_okq (⟨"TabledOriginModel", "field", "(III)V"⟩, 40) := ⟨⟨by decide +kernel, by decide +kernel⟩, List.mem_of_getElem? (i := 580) (by decide +kernel), List.mem_of_getElem? (i := 731) (by decide +kernel), List.mem_of_getElem? (i := 732) (by decide +kernel)⟩
theorem lw_p18 : lw_okq (⟨"TabledOriginModel", "after", "(I)I"⟩, 40) := ⟨⟨by decide +kernel, by decide +kernel⟩, List.mem_of_getElem? (i := 580) (by decide +kernel), List.mem_of_getElem? (i := 735) (by decide +kernel), List.mem_of_getElem? (i := 736) (by decide +kernel)⟩
theorem lw_p19 : lw_okq (⟨"TabledOriginModel", "need", "(I)I"⟩, 40) := ⟨⟨by decide +kernel, by decide +kernel⟩, List.mem_of_getElem? (i := 580) (by decide +kernel), List.mem_of_getElem? (i := 739) (by decide +kernel), List.mem_of_getElem? (i := 740) (by decide +kernel)⟩
theorem lw_p20 : lw_okq (⟨"TabledOriginModel", "risky", "(II)I"⟩, 40) := ⟨⟨by decide +kernel, by decide +kernel⟩, List.mem_of_getElem? (i := 580) (by decide +kernel), List.mem_of_getElem? (i := 743) (by decide +kernel), List.mem_of_getElem? (i := 744) (by decide +kernel)⟩
theorem lw_p21 : lw_okq (⟨"TabledOriginModel", "outstanding", "(I)Z"⟩, 40) := ⟨⟨by decide +kernel, by decide +kernel⟩, List.mem_of_getElem? (i := 580) (by decide +kernel), List.mem_of_getElem? (i := 747) (by decide +kernel), List.mem_of_getElem? (i := 748) (by decide +kernel)⟩
theorem lw_p22 : lw_okq (⟨"TabledOriginModel", "oldest", "()I"⟩, 40) := ⟨⟨by decide +kernel, by decide +kernel⟩, List.mem_of_getElem? (i := 580) (by decide +kernel), List.mem_of_getElem? (i := 751) (by decide +kernel), List.mem_of_getElem? (i := 752) (by decide +kernel)⟩
theorem lw_p23 : lw_okq (⟨"TabledOriginModel", "uses", "(II)I"⟩, 40) := ⟨⟨by decide +kernel, by decide +kernel⟩, List.mem_of_getElem? (i := 580) (by decide +kernel), List.mem_of_getElem? (i := 755) (by decide +kernel), List.mem_of_getElem? (i := 756) (by decide +kernel)⟩
theorem lw_p24 : lw_okq (⟨"TabledOriginModel", "ask", "(IZII)I"⟩, 40) := ⟨⟨by decide +kernel, by decide +kernel⟩, List.mem_of_getElem? (i := 580) (by decide +kernel), List.mem_of_getElem? (i := 771) (by decide +kernel), List.mem_of_getElem? (i := 772) (by decide +kernel)⟩
theorem lw_p25 : lw_okq (⟨"TabledOriginModel", "read", "(I)I"⟩, 40) := ⟨⟨by decide +kernel, by decide +kernel⟩, List.mem_of_getElem? (i := 580) (by decide +kernel), List.mem_of_getElem? (i := 783) (by decide +kernel), List.mem_of_getElem? (i := 784) (by decide +kernel)⟩
theorem lw_p26 : lw_okq (⟨"TabledOriginModel", "tell", "(II)V"⟩, 40) := ⟨⟨by decide +kernel, by decide +kernel⟩, List.mem_of_getElem? (i := 580) (by decide +kernel), List.mem_of_getElem? (i := 787) (by decide +kernel), List.mem_of_getElem? (i := 788) (by decide +kernel)⟩
def lw_privs_2 : List (MethodName × Nat) := [(⟨"TabledOriginModel", "decide", "(I)I"⟩, 40), (⟨"TabledOriginModel", "field", "(III)V"⟩, 40), (⟨"TabledOriginModel", "after", "(I)I"⟩, 40), (⟨"TabledOriginModel", "need", "(I)I"⟩, 40), (⟨"TabledOriginModel", "risky", "(II)I"⟩, 40), (⟨"TabledOriginModel", "outstanding", "(I)Z"⟩, 40), (⟨"TabledOriginModel", "oldest", "()I"⟩, 40), (⟨"TabledOriginModel", "uses", "(II)I"⟩, 40), (⟨"TabledOriginModel", "ask", "(IZII)I"⟩, 40), (⟨"TabledOriginModel", "read", "(I)I"⟩, 40), (⟨"TabledOriginModel", "tell", "(II)V"⟩, 40)]
theorem lw_r2 : ∀ q ∈ lw_privs_2, lw_okq q := List.forall_mem_cons.mpr ⟨lw_p16, List.forall_mem_cons.mpr ⟨lw_p17, List.forall_mem_cons.mpr ⟨lw_p18, List.forall_mem_cons.mpr ⟨lw_p19, List.forall_mem_cons.mpr ⟨lw_p20, List.forall_mem_cons.mpr ⟨lw_p21, List.forall_mem_cons.mpr ⟨lw_p22, List.forall_mem_cons.mpr ⟨lw_p23, List.forall_mem_cons.mpr ⟨lw_p24, List.forall_mem_cons.mpr ⟨lw_p25, List.forall_mem_cons.mpr ⟨lw_p26, fun _ h => absurd h List.not_mem_nil⟩⟩⟩⟩⟩⟩⟩⟩⟩⟩⟩
def lw_privs : List (MethodName × Nat) := lw_privs_1 ++ (lw_privs_2)
def lw_tbl : List Cond := k2_sels lw_privs ++ tables_1
theorem lw_privs_ok : ∀ q ∈ lw_privs, lw_okq q := by
  show ∀ q ∈ lw_privs_1 ++ (lw_privs_2), lw_okq q
  exact List.forall_mem_append.mpr ⟨lw_r1, lw_r2⟩
def zws : List Cond := lw_tbl.filter goodWord
theorem zin {w : Cond} (i : Nat) (h : tables_1[i]? = some w) (hn : goodWord w = true) : w ∈ zws := List.mem_filter.mpr ⟨List.mem_append_right _ (List.mem_of_getElem? h), hn⟩
theorem zsel {w : Cond} (i : Nat) (h : (k2_sels lw_privs)[i]? = some w) (hn : goodWord w = true) : w ∈ zws := List.mem_filter.mpr ⟨List.mem_append_left _ (List.mem_of_getElem? h), hn⟩
theorem z_good : zws.all goodWord = true := List.all_eq_true.mpr fun _ h => (List.mem_filter.mp h).2
theorem zgood {y : MethodName} {b : ByteArray} {ml : Nat} {r : Option FieldType} (h : Cond.code y b ml r ∈ zws) : GoodIn zws (Cond.code y b ml r :: zws) := by
  intro w hw
  rcases List.mem_cons.mp hw with rfl | hw
  · exact ⟨h, good_of_word (List.all_eq_true.mp z_good _ h)⟩
  · exact ⟨hw, good_of_word (List.all_eq_true.mp z_good w hw)⟩
abbrev fR_0 : String := "TabledOrigin$Answer"
def fT_0 : u_T := fun k => match k with
  | 0 => ("TabledOrigin$Answer", "status", "I", true)
  | 1 => ("TabledOrigin$Answer", "referredTo", "[I", true)
  | 2 => ("TabledOrigin$Answer", "referenceCount", "I", false)
  | 3 => ("TabledOrigin$Answer", "need", "I", false)
  | 4 => ("TabledOrigin$Answer", "tag", "I", false)
  | 5 => ("TabledOrigin$Answer", "lifetime", "I", false)
  | 6 => ("TabledOrigin$Answer", "content", "I", false)
  | 7 => ("TabledOrigin$Answer", "underWay", "Z", false)
  | 8 => ("TabledOrigin$Answer", "blocked", "Z", false)
  | _ => ("TabledOrigin$Answer", "outstanding", "Z", false)
def ty_0 : Nat → FieldType := fun k => match k with
  | 0 => .int
  | 1 => .array .int
  | 2 => .int
  | 3 => .int
  | 4 => .int
  | 5 => .int
  | 6 => .int
  | 7 => .boolean
  | 8 => .boolean
  | _ => .boolean
theorem nm_0 : ∀ a, a < 10 → ∀ b, b < 10 → a ≠ b → (fT_0 a).2.1 ≠ (fT_0 b).2.1 := by decide +kernel
theorem tyok_0 : ∀ k, k < 10 → parseFieldDescriptor (fT_0 k).2.2.1 = some (ty_0 k) := by decide +kernel
abbrev fR_1 : String := "TabledOrigin$Client"
def fT_1 : u_T := fun k => match k with
  | 0 => ("TabledOrigin$Client", "storedAnswers", "[LTabledOrigin$StoredAnswer;", true)
  | 1 => ("TabledOrigin$Client", "instructionsCome", "I", false)
  | 2 => ("TabledOrigin$Client", "told", "I", false)
  | _ => ("TabledOrigin$Client", "noticeTaken", "Z", false)
def ty_1 : Nat → FieldType := fun k => match k with
  | 0 => .array (.object "TabledOrigin$StoredAnswer")
  | 1 => .int
  | 2 => .int
  | _ => .boolean
theorem nm_1 : ∀ a, a < 4 → ∀ b, b < 4 → a ≠ b → (fT_1 a).2.1 ≠ (fT_1 b).2.1 := by decide +kernel
theorem tyok_1 : ∀ k, k < 4 → parseFieldDescriptor (fT_1 k).2.2.1 = some (ty_1 k) := by decide +kernel
abbrev fR_2 : String := "TabledOrigin$FeedbackRoad"
def fT_2 : u_T := fun k => match k with
  | 0 => ("TabledOrigin$FeedbackRoad", "kinds", "[I", true)
  | 1 => ("TabledOrigin$FeedbackRoad", "numbers", "[I", true)
  | 2 => ("TabledOrigin$FeedbackRoad", "length", "I", false)
  | _ => ("TabledOrigin$FeedbackRoad", "taken", "I", false)
def ty_2 : Nat → FieldType := fun k => match k with
  | 0 => .array .int
  | 1 => .array .int
  | 2 => .int
  | _ => .int
theorem nm_2 : ∀ a, a < 4 → ∀ b, b < 4 → a ≠ b → (fT_2 a).2.1 ≠ (fT_2 b).2.1 := by decide +kernel
theorem tyok_2 : ∀ k, k < 4 → parseFieldDescriptor (fT_2 k).2.2.1 = some (ty_2 k) := by decide +kernel
abbrev fR_3 : String := "TabledOrigin$Request"
def fT_3 : u_T := fun k => match k with
  | 0 => ("TabledOrigin$Request", "number", "I", true)
  | 1 => ("TabledOrigin$Request", "resource", "I", true)
  | 2 => ("TabledOrigin$Request", "isPut", "Z", true)
  | 3 => ("TabledOrigin$Request", "content", "I", true)
  | 4 => ("TabledOrigin$Request", "lifetime", "I", true)
  | 5 => ("TabledOrigin$Request", "tag", "I", false)
  | 6 => ("TabledOrigin$Request", "sent", "I", false)
  | 7 => ("TabledOrigin$Request", "keptContent", "I", false)
  | 8 => ("TabledOrigin$Request", "underWay", "Z", false)
  | 9 => ("TabledOrigin$Request", "outcome", "I", false)
  | 10 => ("TabledOrigin$Request", "outcomeContent", "I", false)
  | _ => ("TabledOrigin$Request", "answer", "LTabledOrigin$Answer;", false)
def ty_3 : Nat → FieldType := fun k => match k with
  | 0 => .int
  | 1 => .int
  | 2 => .boolean
  | 3 => .int
  | 4 => .int
  | 5 => .int
  | 6 => .int
  | 7 => .int
  | 8 => .boolean
  | 9 => .int
  | 10 => .int
  | _ => .object "TabledOrigin$Answer"
theorem nm_3 : ∀ a, a < 12 → ∀ b, b < 12 → a ≠ b → (fT_3 a).2.1 ≠ (fT_3 b).2.1 := by decide +kernel
theorem tyok_3 : ∀ k, k < 12 → parseFieldDescriptor (fT_3 k).2.2.1 = some (ty_3 k) := by decide +kernel
abbrev fR_4 : String := "TabledOrigin$Resource"
def fT_4 : u_T := fun k => match k with
  | 0 => ("TabledOrigin$Resource", "there", "Z", false)
  | 1 => ("TabledOrigin$Resource", "tag", "I", false)
  | 2 => ("TabledOrigin$Resource", "content", "I", false)
  | _ => ("TabledOrigin$Resource", "lifetime", "I", false)
def ty_4 : Nat → FieldType := fun k => match k with
  | 0 => .boolean
  | 1 => .int
  | 2 => .int
  | _ => .int
theorem nm_4 : ∀ a, a < 4 → ∀ b, b < 4 → a ≠ b → (fT_4 a).2.1 ≠ (fT_4 b).2.1 := by decide +kernel
theorem tyok_4 : ∀ k, k < 4 → parseFieldDescriptor (fT_4 k).2.2.1 = some (ty_4 k) := by decide +kernel
abbrev fR_5 : String := "TabledOrigin$Server"
def fT_5 : u_T := fun k => match k with
  | 0 => ("TabledOrigin$Server", "resources", "[LTabledOrigin$Resource;", true)
  | 1 => ("TabledOrigin$Server", "table", "LTabledOrigin$Table;", true)
  | 2 => ("TabledOrigin$Server", "newestTag", "I", false)
  | 3 => ("TabledOrigin$Server", "answeredEnd", "I", false)
  | 4 => ("TabledOrigin$Server", "limitAnnounced", "Z", false)
  | _ => ("TabledOrigin$Server", "limit", "I", false)
def ty_5 : Nat → FieldType := fun k => match k with
  | 0 => .array (.object "TabledOrigin$Resource")
  | 1 => .object "TabledOrigin$Table"
  | 2 => .int
  | 3 => .int
  | 4 => .boolean
  | _ => .int
theorem nm_5 : ∀ a, a < 6 → ∀ b, b < 6 → a ≠ b → (fT_5 a).2.1 ≠ (fT_5 b).2.1 := by decide +kernel
theorem tyok_5 : ∀ k, k < 6 → parseFieldDescriptor (fT_5 k).2.2.1 = some (ty_5 k) := by decide +kernel
abbrev fR_6 : String := "TabledOrigin$StoredAnswer"
def fT_6 : u_T := fun k => match k with
  | 0 => ("TabledOrigin$StoredAnswer", "there", "Z", false)
  | 1 => ("TabledOrigin$StoredAnswer", "tag", "I", false)
  | 2 => ("TabledOrigin$StoredAnswer", "content", "I", false)
  | 3 => ("TabledOrigin$StoredAnswer", "lifetime", "I", false)
  | 4 => ("TabledOrigin$StoredAnswer", "since", "I", false)
  | _ => ("TabledOrigin$StoredAnswer", "request", "I", false)
def ty_6 : Nat → FieldType := fun k => match k with
  | 0 => .boolean
  | 1 => .int
  | 2 => .int
  | 3 => .int
  | 4 => .int
  | _ => .int
theorem nm_6 : ∀ a, a < 6 → ∀ b, b < 6 → a ≠ b → (fT_6 a).2.1 ≠ (fT_6 b).2.1 := by decide +kernel
theorem tyok_6 : ∀ k, k < 6 → parseFieldDescriptor (fT_6 k).2.2.1 = some (ty_6 k) := by decide +kernel
abbrev fR_7 : String := "TabledOrigin$Table"
def fT_7 : u_T := fun k => match k with
  | 0 => ("TabledOrigin$Table", "names", "[I", true)
  | 1 => ("TabledOrigin$Table", "values", "[I", true)
  | 2 => ("TabledOrigin$Table", "answers", "[LTabledOrigin$Answer;", true)
  | 3 => ("TabledOrigin$Table", "answerCount", "I", false)
  | 4 => ("TabledOrigin$Table", "made", "I", false)
  | 5 => ("TabledOrigin$Table", "known", "I", false)
  | 6 => ("TabledOrigin$Table", "literals", "I", false)
  | _ => ("TabledOrigin$Table", "references", "I", false)
def ty_7 : Nat → FieldType := fun k => match k with
  | 0 => .array .int
  | 1 => .array .int
  | 2 => .array (.object "TabledOrigin$Answer")
  | 3 => .int
  | 4 => .int
  | 5 => .int
  | 6 => .int
  | _ => .int
theorem nm_7 : ∀ a, a < 8 → ∀ b, b < 8 → a ≠ b → (fT_7 a).2.1 ≠ (fT_7 b).2.1 := by decide +kernel
theorem tyok_7 : ∀ k, k < 8 → parseFieldDescriptor (fT_7 k).2.2.1 = some (ty_7 k) := by decide +kernel
abbrev fR_8 : String := "TabledOrigin"
def fT_8 : u_T := fun k => match k with
  | 0 => ("TabledOrigin", "server", "LTabledOrigin$Server;", true)
  | 1 => ("TabledOrigin", "client", "LTabledOrigin$Client;", true)
  | 2 => ("TabledOrigin", "feedbackRoad", "LTabledOrigin$FeedbackRoad;", true)
  | 3 => ("TabledOrigin", "requests", "[LTabledOrigin$Request;", true)
  | 4 => ("TabledOrigin", "requestCount", "I", false)
  | _ => ("TabledOrigin", "clock", "I", false)
def ty_8 : Nat → FieldType := fun k => match k with
  | 0 => .object "TabledOrigin$Server"
  | 1 => .object "TabledOrigin$Client"
  | 2 => .object "TabledOrigin$FeedbackRoad"
  | 3 => .array (.object "TabledOrigin$Request")
  | 4 => .int
  | _ => .int
theorem nm_8 : ∀ a, a < 6 → ∀ b, b < 6 → a ≠ b → (fT_8 a).2.1 ≠ (fT_8 b).2.1 := by decide +kernel
theorem tyok_8 : ∀ k, k < 6 → parseFieldDescriptor (fT_8 k).2.2.1 = some (ty_8 k) := by decide +kernel
abbrev fR_9 : String := "TabledOriginModel"
def fT_9 : u_T := fun k => match k with
  | 0 => ("TabledOriginModel", "there", "[Z", true)
  | 1 => ("TabledOriginModel", "text", "[I", true)
  | 2 => ("TabledOriginModel", "life", "[I", true)
  | 3 => ("TabledOriginModel", "tag", "[I", true)
  | 4 => ("TabledOriginModel", "newest", "I", false)
  | 5 => ("TabledOriginModel", "clock", "I", false)
  | 6 => ("TabledOriginModel", "requests", "I", false)
  | 7 => ("TabledOriginModel", "writes", "[Z", true)
  | 8 => ("TabledOriginModel", "resource", "[I", true)
  | 9 => ("TabledOriginModel", "result", "[I", true)
  | 10 => ("TabledOriginModel", "body", "[I", true)
  | 11 => ("TabledOriginModel", "lasts", "[I", true)
  | 12 => ("TabledOriginModel", "bears", "[I", true)
  | 13 => ("TabledOriginModel", "sent", "[I", true)
  | 14 => ("TabledOriginModel", "shown", "[I", true)
  | 15 => ("TabledOriginModel", "road", "[I", true)
  | 16 => ("TabledOriginModel", "status", "[I", true)
  | 17 => ("TabledOriginModel", "ansTag", "[I", true)
  | 18 => ("TabledOriginModel", "ansLife", "[I", true)
  | 19 => ("TabledOriginModel", "ansText", "[I", true)
  | 20 => ("TabledOriginModel", "refers", "[I", true)
  | 21 => ("TabledOriginModel", "keptBy", "[I", true)
  | 22 => ("TabledOriginModel", "keptTag", "[I", true)
  | 23 => ("TabledOriginModel", "keptText", "[I", true)
  | 24 => ("TabledOriginModel", "keptLife", "[I", true)
  | 25 => ("TabledOriginModel", "keptSince", "[I", true)
  | 26 => ("TabledOriginModel", "name", "[I", true)
  | 27 => ("TabledOriginModel", "value", "[I", true)
  | 28 => ("TabledOriginModel", "made", "I", false)
  | 29 => ("TabledOriginModel", "came", "I", false)
  | 30 => ("TabledOriginModel", "literals", "I", false)
  | 31 => ("TabledOriginModel", "references", "I", false)
  | 32 => ("TabledOriginModel", "word", "[I", true)
  | 33 => ("TabledOriginModel", "about", "[I", true)
  | 34 => ("TabledOriginModel", "words", "I", false)
  | 35 => ("TabledOriginModel", "heard", "I", false)
  | 36 => ("TabledOriginModel", "announced", "Z", false)
  | 37 => ("TabledOriginModel", "noticed", "Z", false)
  | 38 => ("TabledOriginModel", "bound", "I", false)
  | _ => ("TabledOriginModel", "answered", "I", false)
def ty_9 : Nat → FieldType := fun k => match k with
  | 0 => .array .boolean
  | 1 => .array .int
  | 2 => .array .int
  | 3 => .array .int
  | 4 => .int
  | 5 => .int
  | 6 => .int
  | 7 => .array .boolean
  | 8 => .array .int
  | 9 => .array .int
  | 10 => .array .int
  | 11 => .array .int
  | 12 => .array .int
  | 13 => .array .int
  | 14 => .array .int
  | 15 => .array .int
  | 16 => .array .int
  | 17 => .array .int
  | 18 => .array .int
  | 19 => .array .int
  | 20 => .array .int
  | 21 => .array .int
  | 22 => .array .int
  | 23 => .array .int
  | 24 => .array .int
  | 25 => .array .int
  | 26 => .array .int
  | 27 => .array .int
  | 28 => .int
  | 29 => .int
  | 30 => .int
  | 31 => .int
  | 32 => .array .int
  | 33 => .array .int
  | 34 => .int
  | 35 => .int
  | 36 => .boolean
  | 37 => .boolean
  | 38 => .int
  | _ => .int
theorem nm_9 : ∀ a, a < 40 → ∀ b, b < 40 → a ≠ b → (fT_9 a).2.1 ≠ (fT_9 b).2.1 := by decide +kernel
theorem tyok_9 : ∀ k, k < 40 → parseFieldDescriptor (fT_9 k).2.2.1 = some (ty_9 k) := by decide +kernel
abbrev zcl : List vw_C := [(fR_0, fT_0, 10), (fR_1, fT_1, 4), (fR_2, fT_2, 4), (fR_3, fT_3, 12), (fR_4, fT_4, 4), (fR_5, fT_5, 6), (fR_6, fT_6, 6), (fR_7, fT_7, 8), (fR_8, fT_8, 6), (fR_9, fT_9, 40)]
def zfl : Nat → List Bool := fun k => match k with
  | 0 => [false, true, false, false, false, false, false, false, false, false]
  | 1 => [true, false, false, false]
  | 2 => [true, true, false, false]
  | 3 => [false, false, false, false, false, false, false, false, false, false, false, true]
  | 4 => [false, false, false, false]
  | 5 => [true, true, false, false, false, false]
  | 6 => [false, false, false, false, false, false]
  | 7 => [true, true, true, false, false, false, false, false]
  | 8 => [true, true, true, true, false, false]
  | _ => [true, true, true, true, false, false, false, true, true, true, true, true, true, true, true, true, true, true, true, true, true, true, true, true, true, true, true, true, false, false, false, false, true, true, false, false, false, false, false, false]
abbrev ztys (ca : Nat → ClassId) : List (ClassId × FieldType) := [(ca 20, .int), (ca 21, .boolean), (ca 22, .object "TabledOrigin$Request"), (ca 23, .object "TabledOrigin$Answer"), (ca 24, .object "TabledOrigin$Resource"), (ca 25, .object "TabledOrigin$StoredAnswer")]
def zN (U : State) : Prop := va_Nw (.methodLinkNest "TabledOrigin$Server" 17 ⟨"TabledOrigin$Resource", "<init>", "()V"⟩ "TabledOrigin") U ∧ va_Nw (.methodLinkNest "TabledOrigin$Client" 17 ⟨"TabledOrigin$StoredAnswer", "<init>", "()V"⟩ "TabledOrigin") U ∧ va_AO "TabledOrigin$Request" U ∧ va_AO "TabledOrigin$Answer" U ∧ va_AO "TabledOrigin$Resource" U ∧ va_AO "TabledOrigin$StoredAnswer" U
theorem zAO_same {C : String} {U V : State} (h : U.vm = V.vm) (q : va_AO C U) : va_AO C V := q.moved (by rw [h]; exact Vm.Alike.refl V.vm)
theorem zN_same {U V : State} (h : U.vm = V.vm) (q : zN U) : zN V := ⟨va_Nw.same rfl h q.1, va_Nw.same rfl h q.2.1, zAO_same h q.2.2.1, zAO_same h q.2.2.2.1, zAO_same h q.2.2.2.2.1, zAO_same h q.2.2.2.2.2⟩
theorem zN_warm {s U : State} (hW : s.WarmedH U.vm) (q : zN s) : zN U := ⟨va_Nw.warmM hW q.1, va_Nw.warmM hW q.2.1, q.2.2.1.moved hW.alike, q.2.2.2.1.moved hW.alike, q.2.2.2.2.1.moved hW.alike, q.2.2.2.2.2.moved hW.alike⟩
end
section
theorem k_1 : Cond.initialized "TabledOrigin" ∈ zws := zin 1 (by decide +kernel) rfl
theorem k_2 : Cond.initialized "TabledOrigin$Server" ∈ zws := zin 2 (by decide +kernel) rfl
theorem k_3 : Cond.initialized "TabledOrigin$Resource" ∈ zws := zin 3 (by decide +kernel) rfl
theorem k_4 : Cond.initialized "TabledOrigin$Table" ∈ zws := zin 4 (by decide +kernel) rfl
theorem k_5 : Cond.initialized "TabledOrigin$Client" ∈ zws := zin 5 (by decide +kernel) rfl
theorem k_6 : Cond.initialized "TabledOrigin$StoredAnswer" ∈ zws := zin 6 (by decide +kernel) rfl
theorem k_7 : Cond.initialized "TabledOrigin$FeedbackRoad" ∈ zws := zin 7 (by decide +kernel) rfl
theorem k_8 : Cond.initialized "TabledOriginModel" ∈ zws := zin 8 (by decide +kernel) rfl
theorem k_9 : Cond.initialized "TabledOrigin$Request" ∈ zws := zin 9 (by decide +kernel) rfl
theorem k_10 : Cond.initialized "java/lang/Math" ∈ zws := zin 10 (by decide +kernel) rfl
theorem k_11 : Cond.initialized "TabledOrigin$Answer" ∈ zws := zin 11 (by decide +kernel) rfl
theorem k_15 : Cond.instanceMethod ⟨"TabledOrigin", "<init>", "()V"⟩ ∈ zws := zin 15 (by decide +kernel) rfl
set_option maxRecDepth 20000 in
theorem k_16 : Cond.code ⟨"TabledOrigin", "<init>", "()V"⟩ prog_1_method_1_code 1 none ∈ zws := zin 16 (by rfl) rfl
theorem k_17 : Cond.methodLink "TabledOrigin" 3 ⟨"java/lang/Object", "<init>", "()V"⟩ ∈ zws := zin 17 (by decide +kernel) rfl
theorem k_18 : Cond.instanceMethod ⟨"java/lang/Object", "<init>", "()V"⟩ ∈ zws := zin 18 (by decide +kernel) rfl
set_option maxRecDepth 20000 in
theorem k_19 : Cond.code ⟨"java/lang/Object", "<init>", "()V"⟩ object_method_1_code 1 none ∈ zws := zin 19 (by rfl) rfl
theorem k_20 : Cond.classLink "TabledOrigin" 9 "TabledOrigin$Server" ∈ zws := zin 20 (by decide +kernel) rfl
theorem k_21 : Cond.instantiable "TabledOrigin$Server" 6 ∈ zws := zin 21 (by decide +kernel) rfl
theorem k_22 : Cond.methodLink "TabledOrigin" 11 ⟨"TabledOrigin$Server", "<init>", "()V"⟩ ∈ zws := zin 22 (by decide +kernel) rfl
theorem k_23 : Cond.instanceMethod ⟨"TabledOrigin$Server", "<init>", "()V"⟩ ∈ zws := zin 23 (by decide +kernel) rfl
set_option maxRecDepth 20000 in
theorem k_24 : Cond.code ⟨"TabledOrigin$Server", "<init>", "()V"⟩ prog_7_method_1_code 2 none ∈ zws := zin 24 (by rfl) rfl
theorem k_25 : Cond.methodLink "TabledOrigin$Server" 3 ⟨"java/lang/Object", "<init>", "()V"⟩ ∈ zws := zin 25 (by decide +kernel) rfl
theorem k_26 : Cond.classLink "TabledOrigin$Server" 9 "TabledOrigin$Resource" ∈ zws := zin 26 (by decide +kernel) rfl
theorem k_28 : Cond.instantiable "TabledOrigin$Resource" 4 ∈ zws := zin 28 (by decide +kernel) rfl
theorem k_30 : Cond.instanceMethod ⟨"TabledOrigin$Resource", "<init>", "()V"⟩ ∈ zws := zin 30 (by decide +kernel) rfl
set_option maxRecDepth 20000 in
theorem k_31 : Cond.code ⟨"TabledOrigin$Resource", "<init>", "()V"⟩ prog_6_method_1_code 1 none ∈ zws := zin 31 (by rfl) rfl
theorem k_32 : Cond.methodLink "TabledOrigin$Resource" 1 ⟨"java/lang/Object", "<init>", "()V"⟩ ∈ zws := zin 32 (by decide +kernel) rfl
theorem k_33 : Cond.fieldLink "TabledOrigin$Server" 29 "TabledOrigin$Resource" "there" "Z" ∈ zws := zin 33 (by decide +kernel) rfl
theorem k_34 : Cond.fieldLink "TabledOrigin" 60 "TabledOrigin$Resource" "there" "Z" ∈ zws := zin 34 (by decide +kernel) rfl
theorem k_35 : Cond.fieldLink "TabledOrigin" 55 "TabledOrigin$Resource" "tag" "I" ∈ zws := zin 35 (by decide +kernel) rfl
theorem k_36 : Cond.fieldLink "TabledOrigin$Server" 33 "TabledOrigin$Resource" "tag" "I" ∈ zws := zin 36 (by decide +kernel) rfl
theorem k_37 : Cond.fieldLink "TabledOrigin$Server" 36 "TabledOrigin$Resource" "content" "I" ∈ zws := zin 37 (by decide +kernel) rfl
theorem k_38 : Cond.fieldLink "TabledOrigin$Server" 39 "TabledOrigin$Resource" "lifetime" "I" ∈ zws := zin 38 (by decide +kernel) rfl
theorem k_39 : Cond.lays "TabledOrigin$Resource" "TabledOrigin$Resource" "there" "Z" ∈ zws := zin 39 (by decide +kernel) rfl
theorem k_41 : Cond.lays "TabledOrigin$Resource" "TabledOrigin$Resource" "tag" "I" ∈ zws := zin 41 (by decide +kernel) rfl
theorem k_43 : Cond.lays "TabledOrigin$Resource" "TabledOrigin$Resource" "content" "I" ∈ zws := zin 43 (by decide +kernel) rfl
theorem k_45 : Cond.lays "TabledOrigin$Resource" "TabledOrigin$Resource" "lifetime" "I" ∈ zws := zin 45 (by decide +kernel) rfl
theorem k_48 : Cond.classLink "TabledOrigin$Server" 18 "TabledOrigin$Table" ∈ zws := zin 48 (by decide +kernel) rfl
theorem k_49 : Cond.instantiable "TabledOrigin$Table" 8 ∈ zws := zin 49 (by decide +kernel) rfl
theorem k_50 : Cond.methodLink "TabledOrigin$Server" 20 ⟨"TabledOrigin$Table", "<init>", "()V"⟩ ∈ zws := zin 50 (by decide +kernel) rfl
theorem k_51 : Cond.instanceMethod ⟨"TabledOrigin$Table", "<init>", "()V"⟩ ∈ zws := zin 51 (by decide +kernel) rfl
set_option maxRecDepth 20000 in
theorem k_52 : Cond.code ⟨"TabledOrigin$Table", "<init>", "()V"⟩ prog_9_method_1_code 1 none ∈ zws := zin 52 (by rfl) rfl
theorem k_53 : Cond.methodLink "TabledOrigin$Table" 3 ⟨"java/lang/Object", "<init>", "()V"⟩ ∈ zws := zin 53 (by decide +kernel) rfl
theorem k_54 : Cond.classLink "TabledOrigin$Table" 18 "TabledOrigin$Answer" ∈ zws := zin 54 (by decide +kernel) rfl
theorem k_56 : Cond.fieldLink "TabledOrigin$Table" 9 "TabledOrigin$Table" "names" "[I" ∈ zws := zin 56 (by decide +kernel) rfl
theorem k_57 : Cond.fieldLink "TabledOrigin$Table" 15 "TabledOrigin$Table" "values" "[I" ∈ zws := zin 57 (by decide +kernel) rfl
theorem k_58 : Cond.fieldLink "TabledOrigin$Table" 20 "TabledOrigin$Table" "answers" "[LTabledOrigin$Answer;" ∈ zws := zin 58 (by decide +kernel) rfl
theorem k_59 : Cond.fieldLink "TabledOrigin$Table" 67 "TabledOrigin$Table" "answerCount" "I" ∈ zws := zin 59 (by decide +kernel) rfl
theorem k_60 : Cond.fieldLink "TabledOrigin$Table" 24 "TabledOrigin$Table" "made" "I" ∈ zws := zin 60 (by decide +kernel) rfl
theorem k_61 : Cond.fieldLink "TabledOrigin" 107 "TabledOrigin$Table" "made" "I" ∈ zws := zin 61 (by decide +kernel) rfl
theorem k_62 : Cond.fieldLink "TabledOrigin$Table" 40 "TabledOrigin$Table" "known" "I" ∈ zws := zin 62 (by decide +kernel) rfl
theorem k_63 : Cond.fieldLink "TabledOrigin" 125 "TabledOrigin$Table" "known" "I" ∈ zws := zin 63 (by decide +kernel) rfl
theorem k_64 : Cond.fieldLink "TabledOrigin$Table" 61 "TabledOrigin$Table" "literals" "I" ∈ zws := zin 64 (by decide +kernel) rfl
theorem k_65 : Cond.fieldLink "TabledOrigin" 193 "TabledOrigin$Table" "literals" "I" ∈ zws := zin 65 (by decide +kernel) rfl
theorem k_66 : Cond.fieldLink "TabledOrigin$Table" 101 "TabledOrigin$Table" "references" "I" ∈ zws := zin 66 (by decide +kernel) rfl
theorem k_67 : Cond.fieldLink "TabledOrigin" 196 "TabledOrigin$Table" "references" "I" ∈ zws := zin 67 (by decide +kernel) rfl
theorem k_68 : Cond.laysFinal "TabledOrigin$Table" "TabledOrigin$Table" "names" "[I" ∈ zws := zin 68 (by decide +kernel) rfl
theorem k_70 : Cond.laysFinal "TabledOrigin$Table" "TabledOrigin$Table" "values" "[I" ∈ zws := zin 70 (by decide +kernel) rfl
theorem k_72 : Cond.laysFinal "TabledOrigin$Table" "TabledOrigin$Table" "answers" "[LTabledOrigin$Answer;" ∈ zws := zin 72 (by decide +kernel) rfl
theorem k_74 : Cond.lays "TabledOrigin$Table" "TabledOrigin$Table" "answerCount" "I" ∈ zws := zin 74 (by decide +kernel) rfl
theorem k_76 : Cond.lays "TabledOrigin$Table" "TabledOrigin$Table" "made" "I" ∈ zws := zin 76 (by decide +kernel) rfl
theorem k_78 : Cond.lays "TabledOrigin$Table" "TabledOrigin$Table" "known" "I" ∈ zws := zin 78 (by decide +kernel) rfl
theorem k_80 : Cond.lays "TabledOrigin$Table" "TabledOrigin$Table" "literals" "I" ∈ zws := zin 80 (by decide +kernel) rfl
theorem k_82 : Cond.lays "TabledOrigin$Table" "TabledOrigin$Table" "references" "I" ∈ zws := zin 82 (by decide +kernel) rfl
theorem k_85 : Cond.arrayClass .int ∈ zws := zin 85 (by decide +kernel) rfl
theorem k_86 : Cond.fieldLink "TabledOrigin$Server" 11 "TabledOrigin$Server" "resources" "[LTabledOrigin$Resource;" ∈ zws := zin 86 (by decide +kernel) rfl
theorem k_87 : Cond.fieldLink "TabledOrigin$Server" 21 "TabledOrigin$Server" "table" "LTabledOrigin$Table;" ∈ zws := zin 87 (by decide +kernel) rfl
theorem k_88 : Cond.fieldLink "TabledOrigin" 103 "TabledOrigin$Server" "table" "LTabledOrigin$Table;" ∈ zws := zin 88 (by decide +kernel) rfl
theorem k_89 : Cond.fieldLink "TabledOrigin$Server" 25 "TabledOrigin$Server" "newestTag" "I" ∈ zws := zin 89 (by decide +kernel) rfl
theorem k_90 : Cond.fieldLink "TabledOrigin$Server" 60 "TabledOrigin$Server" "answeredEnd" "I" ∈ zws := zin 90 (by decide +kernel) rfl
theorem k_91 : Cond.fieldLink "TabledOrigin$Server" 51 "TabledOrigin$Server" "limitAnnounced" "Z" ∈ zws := zin 91 (by decide +kernel) rfl
theorem k_92 : Cond.fieldLink "TabledOrigin" 145 "TabledOrigin$Server" "limitAnnounced" "Z" ∈ zws := zin 92 (by decide +kernel) rfl
theorem k_93 : Cond.fieldLink "TabledOrigin$Server" 57 "TabledOrigin$Server" "limit" "I" ∈ zws := zin 93 (by decide +kernel) rfl
theorem k_94 : Cond.fieldLink "TabledOrigin" 142 "TabledOrigin$Server" "limit" "I" ∈ zws := zin 94 (by decide +kernel) rfl
theorem k_95 : Cond.laysFinal "TabledOrigin$Server" "TabledOrigin$Server" "resources" "[LTabledOrigin$Resource;" ∈ zws := zin 95 (by decide +kernel) rfl
theorem k_97 : Cond.laysFinal "TabledOrigin$Server" "TabledOrigin$Server" "table" "LTabledOrigin$Table;" ∈ zws := zin 97 (by decide +kernel) rfl
theorem k_99 : Cond.lays "TabledOrigin$Server" "TabledOrigin$Server" "newestTag" "I" ∈ zws := zin 99 (by decide +kernel) rfl
theorem k_101 : Cond.lays "TabledOrigin$Server" "TabledOrigin$Server" "answeredEnd" "I" ∈ zws := zin 101 (by decide +kernel) rfl
theorem k_103 : Cond.lays "TabledOrigin$Server" "TabledOrigin$Server" "limitAnnounced" "Z" ∈ zws := zin 103 (by decide +kernel) rfl
theorem k_105 : Cond.lays "TabledOrigin$Server" "TabledOrigin$Server" "limit" "I" ∈ zws := zin 105 (by decide +kernel) rfl
theorem k_108 : Cond.classLink "TabledOrigin" 16 "TabledOrigin$Client" ∈ zws := zin 108 (by decide +kernel) rfl
theorem k_109 : Cond.instantiable "TabledOrigin$Client" 4 ∈ zws := zin 109 (by decide +kernel) rfl
theorem k_110 : Cond.methodLink "TabledOrigin" 18 ⟨"TabledOrigin$Client", "<init>", "()V"⟩ ∈ zws := zin 110 (by decide +kernel) rfl
theorem k_111 : Cond.instanceMethod ⟨"TabledOrigin$Client", "<init>", "()V"⟩ ∈ zws := zin 111 (by decide +kernel) rfl
set_option maxRecDepth 20000 in
theorem k_112 : Cond.code ⟨"TabledOrigin$Client", "<init>", "()V"⟩ prog_3_method_1_code 2 none ∈ zws := zin 112 (by rfl) rfl
theorem k_113 : Cond.methodLink "TabledOrigin$Client" 3 ⟨"java/lang/Object", "<init>", "()V"⟩ ∈ zws := zin 113 (by decide +kernel) rfl
theorem k_114 : Cond.classLink "TabledOrigin$Client" 9 "TabledOrigin$StoredAnswer" ∈ zws := zin 114 (by decide +kernel) rfl
theorem k_116 : Cond.instantiable "TabledOrigin$StoredAnswer" 6 ∈ zws := zin 116 (by decide +kernel) rfl
theorem k_118 : Cond.instanceMethod ⟨"TabledOrigin$StoredAnswer", "<init>", "()V"⟩ ∈ zws := zin 118 (by decide +kernel) rfl
set_option maxRecDepth 20000 in
theorem k_119 : Cond.code ⟨"TabledOrigin$StoredAnswer", "<init>", "()V"⟩ prog_8_method_1_code 1 none ∈ zws := zin 119 (by rfl) rfl
theorem k_120 : Cond.methodLink "TabledOrigin$StoredAnswer" 1 ⟨"java/lang/Object", "<init>", "()V"⟩ ∈ zws := zin 120 (by decide +kernel) rfl
theorem k_121 : Cond.fieldLink "TabledOrigin$StoredAnswer" 7 "TabledOrigin$StoredAnswer" "there" "Z" ∈ zws := zin 121 (by decide +kernel) rfl
theorem k_122 : Cond.fieldLink "TabledOrigin$Client" 45 "TabledOrigin$StoredAnswer" "there" "Z" ∈ zws := zin 122 (by decide +kernel) rfl
theorem k_123 : Cond.fieldLink "TabledOrigin" 168 "TabledOrigin$StoredAnswer" "there" "Z" ∈ zws := zin 123 (by decide +kernel) rfl
theorem k_124 : Cond.fieldLink "TabledOrigin$Client" 48 "TabledOrigin$StoredAnswer" "tag" "I" ∈ zws := zin 124 (by decide +kernel) rfl
theorem k_125 : Cond.fieldLink "TabledOrigin" 171 "TabledOrigin$StoredAnswer" "tag" "I" ∈ zws := zin 125 (by decide +kernel) rfl
theorem k_126 : Cond.fieldLink "TabledOrigin$Client" 28 "TabledOrigin$StoredAnswer" "content" "I" ∈ zws := zin 126 (by decide +kernel) rfl
theorem k_127 : Cond.fieldLink "TabledOrigin" 172 "TabledOrigin$StoredAnswer" "content" "I" ∈ zws := zin 127 (by decide +kernel) rfl
theorem k_128 : Cond.fieldLink "TabledOrigin$StoredAnswer" 17 "TabledOrigin$StoredAnswer" "lifetime" "I" ∈ zws := zin 128 (by decide +kernel) rfl
theorem k_129 : Cond.fieldLink "TabledOrigin$Client" 99 "TabledOrigin$StoredAnswer" "lifetime" "I" ∈ zws := zin 129 (by decide +kernel) rfl
theorem k_130 : Cond.fieldLink "TabledOrigin$StoredAnswer" 13 "TabledOrigin$StoredAnswer" "since" "I" ∈ zws := zin 130 (by decide +kernel) rfl
theorem k_131 : Cond.fieldLink "TabledOrigin$Client" 100 "TabledOrigin$StoredAnswer" "since" "I" ∈ zws := zin 131 (by decide +kernel) rfl
theorem k_132 : Cond.fieldLink "TabledOrigin$StoredAnswer" 24 "TabledOrigin$StoredAnswer" "request" "I" ∈ zws := zin 132 (by decide +kernel) rfl
theorem k_133 : Cond.fieldLink "TabledOrigin$Client" 92 "TabledOrigin$StoredAnswer" "request" "I" ∈ zws := zin 133 (by decide +kernel) rfl
theorem k_134 : Cond.fieldLink "TabledOrigin" 175 "TabledOrigin$StoredAnswer" "request" "I" ∈ zws := zin 134 (by decide +kernel) rfl
theorem k_135 : Cond.lays "TabledOrigin$StoredAnswer" "TabledOrigin$StoredAnswer" "there" "Z" ∈ zws := zin 135 (by decide +kernel) rfl
theorem k_137 : Cond.lays "TabledOrigin$StoredAnswer" "TabledOrigin$StoredAnswer" "tag" "I" ∈ zws := zin 137 (by decide +kernel) rfl
theorem k_139 : Cond.lays "TabledOrigin$StoredAnswer" "TabledOrigin$StoredAnswer" "content" "I" ∈ zws := zin 139 (by decide +kernel) rfl
theorem k_141 : Cond.lays "TabledOrigin$StoredAnswer" "TabledOrigin$StoredAnswer" "lifetime" "I" ∈ zws := zin 141 (by decide +kernel) rfl
theorem k_143 : Cond.lays "TabledOrigin$StoredAnswer" "TabledOrigin$StoredAnswer" "since" "I" ∈ zws := zin 143 (by decide +kernel) rfl
theorem k_145 : Cond.lays "TabledOrigin$StoredAnswer" "TabledOrigin$StoredAnswer" "request" "I" ∈ zws := zin 145 (by decide +kernel) rfl
theorem k_148 : Cond.fieldLink "TabledOrigin$Client" 11 "TabledOrigin$Client" "storedAnswers" "[LTabledOrigin$StoredAnswer;" ∈ zws := zin 148 (by decide +kernel) rfl
theorem k_149 : Cond.fieldLink "TabledOrigin$Client" 60 "TabledOrigin$Client" "instructionsCome" "I" ∈ zws := zin 149 (by decide +kernel) rfl
theorem k_150 : Cond.fieldLink "TabledOrigin" 100 "TabledOrigin$Client" "instructionsCome" "I" ∈ zws := zin 150 (by decide +kernel) rfl
theorem k_151 : Cond.fieldLink "TabledOrigin$Client" 108 "TabledOrigin$Client" "told" "I" ∈ zws := zin 151 (by decide +kernel) rfl
theorem k_152 : Cond.fieldLink "TabledOrigin" 132 "TabledOrigin$Client" "told" "I" ∈ zws := zin 152 (by decide +kernel) rfl
theorem k_153 : Cond.fieldLink "TabledOrigin$Client" 36 "TabledOrigin$Client" "noticeTaken" "Z" ∈ zws := zin 153 (by decide +kernel) rfl
theorem k_154 : Cond.fieldLink "TabledOrigin" 148 "TabledOrigin$Client" "noticeTaken" "Z" ∈ zws := zin 154 (by decide +kernel) rfl
theorem k_155 : Cond.laysFinal "TabledOrigin$Client" "TabledOrigin$Client" "storedAnswers" "[LTabledOrigin$StoredAnswer;" ∈ zws := zin 155 (by decide +kernel) rfl
theorem k_157 : Cond.lays "TabledOrigin$Client" "TabledOrigin$Client" "instructionsCome" "I" ∈ zws := zin 157 (by decide +kernel) rfl
theorem k_159 : Cond.lays "TabledOrigin$Client" "TabledOrigin$Client" "told" "I" ∈ zws := zin 159 (by decide +kernel) rfl
theorem k_161 : Cond.lays "TabledOrigin$Client" "TabledOrigin$Client" "noticeTaken" "Z" ∈ zws := zin 161 (by decide +kernel) rfl
theorem k_164 : Cond.classLink "TabledOrigin" 23 "TabledOrigin$FeedbackRoad" ∈ zws := zin 164 (by decide +kernel) rfl
theorem k_165 : Cond.instantiable "TabledOrigin$FeedbackRoad" 4 ∈ zws := zin 165 (by decide +kernel) rfl
theorem k_166 : Cond.methodLink "TabledOrigin" 25 ⟨"TabledOrigin$FeedbackRoad", "<init>", "()V"⟩ ∈ zws := zin 166 (by decide +kernel) rfl
theorem k_167 : Cond.instanceMethod ⟨"TabledOrigin$FeedbackRoad", "<init>", "()V"⟩ ∈ zws := zin 167 (by decide +kernel) rfl
set_option maxRecDepth 20000 in
theorem k_168 : Cond.code ⟨"TabledOrigin$FeedbackRoad", "<init>", "()V"⟩ prog_4_method_1_code 1 none ∈ zws := zin 168 (by rfl) rfl
theorem k_169 : Cond.methodLink "TabledOrigin$FeedbackRoad" 3 ⟨"java/lang/Object", "<init>", "()V"⟩ ∈ zws := zin 169 (by decide +kernel) rfl
theorem k_170 : Cond.fieldLink "TabledOrigin$FeedbackRoad" 9 "TabledOrigin$FeedbackRoad" "kinds" "[I" ∈ zws := zin 170 (by decide +kernel) rfl
theorem k_171 : Cond.fieldLink "TabledOrigin$FeedbackRoad" 15 "TabledOrigin$FeedbackRoad" "numbers" "[I" ∈ zws := zin 171 (by decide +kernel) rfl
theorem k_172 : Cond.fieldLink "TabledOrigin$FeedbackRoad" 18 "TabledOrigin$FeedbackRoad" "length" "I" ∈ zws := zin 172 (by decide +kernel) rfl
theorem k_173 : Cond.fieldLink "TabledOrigin$FeedbackRoad" 22 "TabledOrigin$FeedbackRoad" "taken" "I" ∈ zws := zin 173 (by decide +kernel) rfl
theorem k_174 : Cond.laysFinal "TabledOrigin$FeedbackRoad" "TabledOrigin$FeedbackRoad" "kinds" "[I" ∈ zws := zin 174 (by decide +kernel) rfl
theorem k_176 : Cond.laysFinal "TabledOrigin$FeedbackRoad" "TabledOrigin$FeedbackRoad" "numbers" "[I" ∈ zws := zin 176 (by decide +kernel) rfl
theorem k_178 : Cond.lays "TabledOrigin$FeedbackRoad" "TabledOrigin$FeedbackRoad" "length" "I" ∈ zws := zin 178 (by decide +kernel) rfl
theorem k_180 : Cond.lays "TabledOrigin$FeedbackRoad" "TabledOrigin$FeedbackRoad" "taken" "I" ∈ zws := zin 180 (by decide +kernel) rfl
theorem k_183 : Cond.classLink "TabledOrigin" 30 "TabledOrigin$Request" ∈ zws := zin 183 (by decide +kernel) rfl
theorem k_185 : Cond.fieldLink "TabledOrigin" 12 "TabledOrigin" "server" "LTabledOrigin$Server;" ∈ zws := zin 185 (by decide +kernel) rfl
theorem k_186 : Cond.fieldLink "TabledOrigin" 19 "TabledOrigin" "client" "LTabledOrigin$Client;" ∈ zws := zin 186 (by decide +kernel) rfl
theorem k_187 : Cond.fieldLink "TabledOrigin" 26 "TabledOrigin" "feedbackRoad" "LTabledOrigin$FeedbackRoad;" ∈ zws := zin 187 (by decide +kernel) rfl
theorem k_188 : Cond.fieldLink "TabledOrigin" 32 "TabledOrigin" "requests" "[LTabledOrigin$Request;" ∈ zws := zin 188 (by decide +kernel) rfl
theorem k_189 : Cond.fieldLink "TabledOrigin" 36 "TabledOrigin" "requestCount" "I" ∈ zws := zin 189 (by decide +kernel) rfl
theorem k_190 : Cond.fieldLink "TabledOrigin" 40 "TabledOrigin" "clock" "I" ∈ zws := zin 190 (by decide +kernel) rfl
theorem k_191 : Cond.laysFinal "TabledOrigin" "TabledOrigin" "server" "LTabledOrigin$Server;" ∈ zws := zin 191 (by decide +kernel) rfl
theorem k_193 : Cond.laysFinal "TabledOrigin" "TabledOrigin" "client" "LTabledOrigin$Client;" ∈ zws := zin 193 (by decide +kernel) rfl
theorem k_195 : Cond.laysFinal "TabledOrigin" "TabledOrigin" "feedbackRoad" "LTabledOrigin$FeedbackRoad;" ∈ zws := zin 195 (by decide +kernel) rfl
theorem k_197 : Cond.laysFinal "TabledOrigin" "TabledOrigin" "requests" "[LTabledOrigin$Request;" ∈ zws := zin 197 (by decide +kernel) rfl
theorem k_199 : Cond.lays "TabledOrigin" "TabledOrigin" "requestCount" "I" ∈ zws := zin 199 (by decide +kernel) rfl
theorem k_201 : Cond.lays "TabledOrigin" "TabledOrigin" "clock" "I" ∈ zws := zin 201 (by decide +kernel) rfl
theorem k_205 : Cond.instanceMethod ⟨"TabledOrigin", "put", "(III)I"⟩ ∈ zws := zin 205 (by decide +kernel) rfl
theorem k_206 : Cond.selects "TabledOrigin" ⟨"TabledOrigin", "put", "(III)I"⟩ ⟨"TabledOrigin", "put", "(III)I"⟩ ∈ zws := zin 206 (by decide +kernel) rfl
set_option maxRecDepth 20000 in
theorem k_207 : Cond.code ⟨"TabledOrigin", "put", "(III)I"⟩ prog_1_method_2_code 5 (some .int) ∈ zws := zin 207 (by rfl) rfl
theorem k_208 : Cond.methodLink "TabledOrigin" 43 ⟨"TabledOrigin$Server", "resourceAt", "(I)LTabledOrigin$Resource;"⟩ ∈ zws := zin 208 (by decide +kernel) rfl
theorem k_209 : Cond.instanceMethod ⟨"TabledOrigin$Server", "resourceAt", "(I)LTabledOrigin$Resource;"⟩ ∈ zws := zin 209 (by decide +kernel) rfl
theorem k_210 : Cond.selects "TabledOrigin$Server" ⟨"TabledOrigin$Server", "resourceAt", "(I)LTabledOrigin$Resource;"⟩ ⟨"TabledOrigin$Server", "resourceAt", "(I)LTabledOrigin$Resource;"⟩ ∈ zws := zin 210 (by decide +kernel) rfl
set_option maxRecDepth 20000 in
theorem k_211 : Cond.code ⟨"TabledOrigin$Server", "resourceAt", "(I)LTabledOrigin$Resource;"⟩ prog_7_method_2_code 2 (some (.object "TabledOrigin$Resource")) ∈ zws := zin 211 (by rfl) rfl
theorem k_212 : Cond.methodLink "TabledOrigin" 47 ⟨"TabledOrigin", "isLifetime", "(I)Z"⟩ ∈ zws := zin 212 (by decide +kernel) rfl
theorem k_213 : Cond.static ⟨"TabledOrigin", "isLifetime", "(I)Z"⟩ ∈ zws := zin 213 (by decide +kernel) rfl
set_option maxRecDepth 20000 in
theorem k_214 : Cond.code ⟨"TabledOrigin", "isLifetime", "(I)Z"⟩ prog_1_method_20_code 1 (some .boolean) ∈ zws := zin 214 (by rfl) rfl
theorem k_215 : Cond.methodLink "TabledOrigin" 51 ⟨"TabledOrigin$Server", "write", "(LTabledOrigin$Resource;II)V"⟩ ∈ zws := zin 215 (by decide +kernel) rfl
theorem k_216 : Cond.instanceMethod ⟨"TabledOrigin$Server", "write", "(LTabledOrigin$Resource;II)V"⟩ ∈ zws := zin 216 (by decide +kernel) rfl
theorem k_217 : Cond.selects "TabledOrigin$Server" ⟨"TabledOrigin$Server", "write", "(LTabledOrigin$Resource;II)V"⟩ ⟨"TabledOrigin$Server", "write", "(LTabledOrigin$Resource;II)V"⟩ ∈ zws := zin 217 (by decide +kernel) rfl
set_option maxRecDepth 20000 in
theorem k_218 : Cond.code ⟨"TabledOrigin$Server", "write", "(LTabledOrigin$Resource;II)V"⟩ prog_7_method_3_code 4 none ∈ zws := zin 218 (by rfl) rfl
theorem k_220 : Cond.instanceMethod ⟨"TabledOrigin", "drop", "(I)Z"⟩ ∈ zws := zin 220 (by decide +kernel) rfl
theorem k_221 : Cond.selects "TabledOrigin" ⟨"TabledOrigin", "drop", "(I)Z"⟩ ⟨"TabledOrigin", "drop", "(I)Z"⟩ ∈ zws := zin 221 (by decide +kernel) rfl
set_option maxRecDepth 20000 in
theorem k_222 : Cond.code ⟨"TabledOrigin", "drop", "(I)Z"⟩ prog_1_method_3_code 3 (some .boolean) ∈ zws := zin 222 (by rfl) rfl
theorem k_224 : Cond.instanceMethod ⟨"TabledOrigin", "get", "(I)I"⟩ ∈ zws := zin 224 (by decide +kernel) rfl
theorem k_225 : Cond.selects "TabledOrigin" ⟨"TabledOrigin", "get", "(I)I"⟩ ⟨"TabledOrigin", "get", "(I)I"⟩ ∈ zws := zin 225 (by decide +kernel) rfl
set_option maxRecDepth 20000 in
theorem k_226 : Cond.code ⟨"TabledOrigin", "get", "(I)I"⟩ prog_1_method_4_code 2 (some .int) ∈ zws := zin 226 (by rfl) rfl
theorem k_227 : Cond.methodLink "TabledOrigin" 64 ⟨"TabledOrigin", "makeRequest", "(IZII)I"⟩ ∈ zws := zin 227 (by decide +kernel) rfl
theorem k_229 : Cond.instanceMethod ⟨"TabledOrigin", "makeRequest", "(IZII)I"⟩ ∈ zws := zin 229 (by decide +kernel) rfl
set_option maxRecDepth 20000 in
theorem k_230 : Cond.code ⟨"TabledOrigin", "makeRequest", "(IZII)I"⟩ prog_1_method_22_code 7 (some .int) ∈ zws := zin 230 (by rfl) rfl
theorem k_231 : Cond.methodLink "TabledOrigin" 164 ⟨"TabledOrigin$Client", "storedAt", "(I)LTabledOrigin$StoredAnswer;"⟩ ∈ zws := zin 231 (by decide +kernel) rfl
theorem k_232 : Cond.instanceMethod ⟨"TabledOrigin$Client", "storedAt", "(I)LTabledOrigin$StoredAnswer;"⟩ ∈ zws := zin 232 (by decide +kernel) rfl
theorem k_233 : Cond.selects "TabledOrigin$Client" ⟨"TabledOrigin$Client", "storedAt", "(I)LTabledOrigin$StoredAnswer;"⟩ ⟨"TabledOrigin$Client", "storedAt", "(I)LTabledOrigin$StoredAnswer;"⟩ ∈ zws := zin 233 (by decide +kernel) rfl
set_option maxRecDepth 20000 in
theorem k_234 : Cond.code ⟨"TabledOrigin$Client", "storedAt", "(I)LTabledOrigin$StoredAnswer;"⟩ prog_3_method_2_code 2 (some (.object "TabledOrigin$StoredAnswer")) ∈ zws := zin 234 (by rfl) rfl
theorem k_235 : Cond.instantiable "TabledOrigin$Request" 12 ∈ zws := zin 235 (by decide +kernel) rfl
theorem k_236 : Cond.methodLink "TabledOrigin" 208 ⟨"TabledOrigin$Request", "<init>", "(IIZII)V"⟩ ∈ zws := zin 236 (by decide +kernel) rfl
theorem k_237 : Cond.instanceMethod ⟨"TabledOrigin$Request", "<init>", "(IIZII)V"⟩ ∈ zws := zin 237 (by decide +kernel) rfl
set_option maxRecDepth 20000 in
theorem k_238 : Cond.code ⟨"TabledOrigin$Request", "<init>", "(IIZII)V"⟩ prog_5_method_1_code 6 none ∈ zws := zin 238 (by rfl) rfl
theorem k_239 : Cond.methodLink "TabledOrigin$Request" 3 ⟨"java/lang/Object", "<init>", "()V"⟩ ∈ zws := zin 239 (by decide +kernel) rfl
theorem k_240 : Cond.fieldLink "TabledOrigin$Request" 9 "TabledOrigin$Request" "number" "I" ∈ zws := zin 240 (by decide +kernel) rfl
theorem k_241 : Cond.fieldLink "TabledOrigin$Server" 54 "TabledOrigin$Request" "number" "I" ∈ zws := zin 241 (by decide +kernel) rfl
theorem k_242 : Cond.fieldLink "TabledOrigin$Client" 73 "TabledOrigin$Request" "number" "I" ∈ zws := zin 242 (by decide +kernel) rfl
theorem k_243 : Cond.fieldLink "TabledOrigin" 158 "TabledOrigin$Request" "number" "I" ∈ zws := zin 243 (by decide +kernel) rfl
theorem k_244 : Cond.fieldLink "TabledOrigin$Request" 15 "TabledOrigin$Request" "resource" "I" ∈ zws := zin 244 (by decide +kernel) rfl
theorem k_245 : Cond.fieldLink "TabledOrigin$Server" 42 "TabledOrigin$Request" "resource" "I" ∈ zws := zin 245 (by decide +kernel) rfl
theorem k_246 : Cond.fieldLink "TabledOrigin$Client" 63 "TabledOrigin$Request" "resource" "I" ∈ zws := zin 246 (by decide +kernel) rfl
theorem k_247 : Cond.fieldLink "TabledOrigin$Request" 18 "TabledOrigin$Request" "isPut" "Z" ∈ zws := zin 247 (by decide +kernel) rfl
theorem k_248 : Cond.fieldLink "TabledOrigin$Client" 18 "TabledOrigin$Request" "isPut" "Z" ∈ zws := zin 248 (by decide +kernel) rfl
theorem k_249 : Cond.fieldLink "TabledOrigin$Server" 69 "TabledOrigin$Request" "isPut" "Z" ∈ zws := zin 249 (by decide +kernel) rfl
theorem k_250 : Cond.fieldLink "TabledOrigin$Request" 22 "TabledOrigin$Request" "content" "I" ∈ zws := zin 250 (by decide +kernel) rfl
theorem k_251 : Cond.fieldLink "TabledOrigin$Server" 103 "TabledOrigin$Request" "content" "I" ∈ zws := zin 251 (by decide +kernel) rfl
theorem k_252 : Cond.fieldLink "TabledOrigin$Request" 25 "TabledOrigin$Request" "lifetime" "I" ∈ zws := zin 252 (by decide +kernel) rfl
theorem k_253 : Cond.fieldLink "TabledOrigin$Server" 104 "TabledOrigin$Request" "lifetime" "I" ∈ zws := zin 253 (by decide +kernel) rfl
theorem k_254 : Cond.fieldLink "TabledOrigin$Request" 28 "TabledOrigin$Request" "tag" "I" ∈ zws := zin 254 (by decide +kernel) rfl
theorem k_255 : Cond.fieldLink "TabledOrigin$Client" 51 "TabledOrigin$Request" "tag" "I" ∈ zws := zin 255 (by decide +kernel) rfl
theorem k_256 : Cond.fieldLink "TabledOrigin$Server" 95 "TabledOrigin$Request" "tag" "I" ∈ zws := zin 256 (by decide +kernel) rfl
theorem k_257 : Cond.fieldLink "TabledOrigin$Client" 39 "TabledOrigin$Request" "sent" "I" ∈ zws := zin 257 (by decide +kernel) rfl
theorem k_258 : Cond.fieldLink "TabledOrigin$Client" 52 "TabledOrigin$Request" "keptContent" "I" ∈ zws := zin 258 (by decide +kernel) rfl
theorem k_259 : Cond.fieldLink "TabledOrigin$Client" 42 "TabledOrigin$Request" "underWay" "Z" ∈ zws := zin 259 (by decide +kernel) rfl
theorem k_260 : Cond.fieldLink "TabledOrigin" 72 "TabledOrigin$Request" "underWay" "Z" ∈ zws := zin 260 (by decide +kernel) rfl
theorem k_261 : Cond.fieldLink "TabledOrigin$Request" 31 "TabledOrigin$Request" "outcome" "I" ∈ zws := zin 261 (by decide +kernel) rfl
theorem k_262 : Cond.fieldLink "TabledOrigin" 97 "TabledOrigin$Request" "outcome" "I" ∈ zws := zin 262 (by decide +kernel) rfl
theorem k_263 : Cond.fieldLink "TabledOrigin$Request" 34 "TabledOrigin$Request" "outcomeContent" "I" ∈ zws := zin 263 (by decide +kernel) rfl
theorem k_264 : Cond.fieldLink "TabledOrigin" 161 "TabledOrigin$Request" "outcomeContent" "I" ∈ zws := zin 264 (by decide +kernel) rfl
theorem k_265 : Cond.fieldLink "TabledOrigin$Server" 83 "TabledOrigin$Request" "answer" "LTabledOrigin$Answer;" ∈ zws := zin 265 (by decide +kernel) rfl
theorem k_266 : Cond.fieldLink "TabledOrigin" 79 "TabledOrigin$Request" "answer" "LTabledOrigin$Answer;" ∈ zws := zin 266 (by decide +kernel) rfl
theorem k_267 : Cond.laysFinal "TabledOrigin$Request" "TabledOrigin$Request" "number" "I" ∈ zws := zin 267 (by decide +kernel) rfl
theorem k_269 : Cond.laysFinal "TabledOrigin$Request" "TabledOrigin$Request" "resource" "I" ∈ zws := zin 269 (by decide +kernel) rfl
theorem k_271 : Cond.laysFinal "TabledOrigin$Request" "TabledOrigin$Request" "isPut" "Z" ∈ zws := zin 271 (by decide +kernel) rfl
theorem k_273 : Cond.laysFinal "TabledOrigin$Request" "TabledOrigin$Request" "content" "I" ∈ zws := zin 273 (by decide +kernel) rfl
theorem k_275 : Cond.laysFinal "TabledOrigin$Request" "TabledOrigin$Request" "lifetime" "I" ∈ zws := zin 275 (by decide +kernel) rfl
theorem k_277 : Cond.lays "TabledOrigin$Request" "TabledOrigin$Request" "tag" "I" ∈ zws := zin 277 (by decide +kernel) rfl
theorem k_279 : Cond.lays "TabledOrigin$Request" "TabledOrigin$Request" "sent" "I" ∈ zws := zin 279 (by decide +kernel) rfl
theorem k_281 : Cond.lays "TabledOrigin$Request" "TabledOrigin$Request" "keptContent" "I" ∈ zws := zin 281 (by decide +kernel) rfl
theorem k_283 : Cond.lays "TabledOrigin$Request" "TabledOrigin$Request" "underWay" "Z" ∈ zws := zin 283 (by decide +kernel) rfl
theorem k_285 : Cond.lays "TabledOrigin$Request" "TabledOrigin$Request" "outcome" "I" ∈ zws := zin 285 (by decide +kernel) rfl
theorem k_287 : Cond.lays "TabledOrigin$Request" "TabledOrigin$Request" "outcomeContent" "I" ∈ zws := zin 287 (by decide +kernel) rfl
theorem k_289 : Cond.lays "TabledOrigin$Request" "TabledOrigin$Request" "answer" "LTabledOrigin$Answer;" ∈ zws := zin 289 (by decide +kernel) rfl
theorem k_292 : Cond.methodLink "TabledOrigin" 211 ⟨"TabledOrigin$Client", "begin", "(LTabledOrigin$Request;LTabledOrigin$StoredAnswer;I)V"⟩ ∈ zws := zin 292 (by decide +kernel) rfl
theorem k_293 : Cond.instanceMethod ⟨"TabledOrigin$Client", "begin", "(LTabledOrigin$Request;LTabledOrigin$StoredAnswer;I)V"⟩ ∈ zws := zin 293 (by decide +kernel) rfl
theorem k_294 : Cond.selects "TabledOrigin$Client" ⟨"TabledOrigin$Client", "begin", "(LTabledOrigin$Request;LTabledOrigin$StoredAnswer;I)V"⟩ ⟨"TabledOrigin$Client", "begin", "(LTabledOrigin$Request;LTabledOrigin$StoredAnswer;I)V"⟩ ∈ zws := zin 294 (by decide +kernel) rfl
set_option maxRecDepth 20000 in
theorem k_295 : Cond.code ⟨"TabledOrigin$Client", "begin", "(LTabledOrigin$Request;LTabledOrigin$StoredAnswer;I)V"⟩ prog_3_method_3_code 4 none ∈ zws := zin 295 (by rfl) rfl
theorem k_296 : Cond.methodLink "TabledOrigin$Client" 24 ⟨"TabledOrigin$StoredAnswer", "isFresh", "(I)Z"⟩ ∈ zws := zin 296 (by decide +kernel) rfl
theorem k_297 : Cond.instanceMethod ⟨"TabledOrigin$StoredAnswer", "isFresh", "(I)Z"⟩ ∈ zws := zin 297 (by decide +kernel) rfl
theorem k_298 : Cond.selects "TabledOrigin$StoredAnswer" ⟨"TabledOrigin$StoredAnswer", "isFresh", "(I)Z"⟩ ⟨"TabledOrigin$StoredAnswer", "isFresh", "(I)Z"⟩ ∈ zws := zin 298 (by decide +kernel) rfl
set_option maxRecDepth 20000 in
theorem k_299 : Cond.code ⟨"TabledOrigin$StoredAnswer", "isFresh", "(I)Z"⟩ prog_8_method_2_code 2 (some .boolean) ∈ zws := zin 299 (by rfl) rfl
theorem k_300 : Cond.methodLink "TabledOrigin$Client" 32 ⟨"TabledOrigin$Request", "settle", "(II)V"⟩ ∈ zws := zin 300 (by decide +kernel) rfl
theorem k_301 : Cond.instanceMethod ⟨"TabledOrigin$Request", "settle", "(II)V"⟩ ∈ zws := zin 301 (by decide +kernel) rfl
theorem k_302 : Cond.selects "TabledOrigin$Request" ⟨"TabledOrigin$Request", "settle", "(II)V"⟩ ⟨"TabledOrigin$Request", "settle", "(II)V"⟩ ∈ zws := zin 302 (by decide +kernel) rfl
set_option maxRecDepth 20000 in
theorem k_303 : Cond.code ⟨"TabledOrigin$Request", "settle", "(II)V"⟩ prog_5_method_2_code 3 none ∈ zws := zin 303 (by rfl) rfl
theorem k_305 : Cond.instanceMethod ⟨"TabledOrigin", "replace", "(III)I"⟩ ∈ zws := zin 305 (by decide +kernel) rfl
theorem k_306 : Cond.selects "TabledOrigin" ⟨"TabledOrigin", "replace", "(III)I"⟩ ⟨"TabledOrigin", "replace", "(III)I"⟩ ∈ zws := zin 306 (by decide +kernel) rfl
set_option maxRecDepth 20000 in
theorem k_307 : Cond.code ⟨"TabledOrigin", "replace", "(III)I"⟩ prog_1_method_5_code 4 (some .int) ∈ zws := zin 307 (by rfl) rfl
theorem k_309 : Cond.instanceMethod ⟨"TabledOrigin", "arrive", "(I)I"⟩ ∈ zws := zin 309 (by decide +kernel) rfl
theorem k_310 : Cond.selects "TabledOrigin" ⟨"TabledOrigin", "arrive", "(I)I"⟩ ⟨"TabledOrigin", "arrive", "(I)I"⟩ ∈ zws := zin 310 (by decide +kernel) rfl
set_option maxRecDepth 20000 in
theorem k_311 : Cond.code ⟨"TabledOrigin", "arrive", "(I)I"⟩ prog_1_method_6_code 3 (some .int) ∈ zws := zin 311 (by rfl) rfl
theorem k_312 : Cond.methodLink "TabledOrigin" 68 ⟨"TabledOrigin", "requestAt", "(I)LTabledOrigin$Request;"⟩ ∈ zws := zin 312 (by decide +kernel) rfl
theorem k_314 : Cond.instanceMethod ⟨"TabledOrigin", "requestAt", "(I)LTabledOrigin$Request;"⟩ ∈ zws := zin 314 (by decide +kernel) rfl
set_option maxRecDepth 20000 in
theorem k_315 : Cond.code ⟨"TabledOrigin", "requestAt", "(I)LTabledOrigin$Request;"⟩ prog_1_method_21_code 2 (some (.object "TabledOrigin$Request")) ∈ zws := zin 315 (by rfl) rfl
theorem k_316 : Cond.methodLink "TabledOrigin" 75 ⟨"TabledOrigin$Server", "takeRequest", "(LTabledOrigin$Request;)I"⟩ ∈ zws := zin 316 (by decide +kernel) rfl
theorem k_317 : Cond.instanceMethod ⟨"TabledOrigin$Server", "takeRequest", "(LTabledOrigin$Request;)I"⟩ ∈ zws := zin 317 (by decide +kernel) rfl
theorem k_318 : Cond.selects "TabledOrigin$Server" ⟨"TabledOrigin$Server", "takeRequest", "(LTabledOrigin$Request;)I"⟩ ⟨"TabledOrigin$Server", "takeRequest", "(LTabledOrigin$Request;)I"⟩ ∈ zws := zin 318 (by decide +kernel) rfl
set_option maxRecDepth 20000 in
theorem k_319 : Cond.code ⟨"TabledOrigin$Server", "takeRequest", "(LTabledOrigin$Request;)I"⟩ prog_7_method_4_code 4 (some .int) ∈ zws := zin 319 (by rfl) rfl
theorem k_320 : Cond.methodLink "TabledOrigin$Server" 47 ⟨"TabledOrigin$Server", "resourceAt", "(I)LTabledOrigin$Resource;"⟩ ∈ zws := zin 320 (by decide +kernel) rfl
theorem k_321 : Cond.methodLink "TabledOrigin$Server" 63 ⟨"java/lang/Math", "max", "(II)I"⟩ ∈ zws := zin 321 (by decide +kernel) rfl
theorem k_322 : Cond.static ⟨"java/lang/Math", "max", "(II)I"⟩ ∈ zws := zin 322 (by decide +kernel) rfl
set_option maxRecDepth 20000 in
theorem k_323 : Cond.code ⟨"java/lang/Math", "max", "(II)I"⟩ prog_12_method_65_code 2 (some .int) ∈ zws := zin 323 (by rfl) rfl
theorem k_324 : Cond.methodLink "TabledOrigin$Server" 72 ⟨"TabledOrigin$Server", "answerPut", "(LTabledOrigin$Request;LTabledOrigin$Resource;)LTabledOrigin$Answer;"⟩ ∈ zws := zin 324 (by decide +kernel) rfl
theorem k_326 : Cond.instanceMethod ⟨"TabledOrigin$Server", "answerPut", "(LTabledOrigin$Request;LTabledOrigin$Resource;)LTabledOrigin$Answer;"⟩ ∈ zws := zin 326 (by decide +kernel) rfl
set_option maxRecDepth 20000 in
theorem k_327 : Cond.code ⟨"TabledOrigin$Server", "answerPut", "(LTabledOrigin$Request;LTabledOrigin$Resource;)LTabledOrigin$Answer;"⟩ prog_7_method_7_code 5 (some (.object "TabledOrigin$Answer")) ∈ zws := zin 327 (by rfl) rfl
theorem k_328 : Cond.classLink "TabledOrigin$Server" 88 "TabledOrigin$Answer" ∈ zws := zin 328 (by decide +kernel) rfl
theorem k_329 : Cond.instantiable "TabledOrigin$Answer" 10 ∈ zws := zin 329 (by decide +kernel) rfl
theorem k_330 : Cond.methodLink "TabledOrigin$Server" 92 ⟨"TabledOrigin$Answer", "<init>", "(I)V"⟩ ∈ zws := zin 330 (by decide +kernel) rfl
theorem k_331 : Cond.instanceMethod ⟨"TabledOrigin$Answer", "<init>", "(I)V"⟩ ∈ zws := zin 331 (by decide +kernel) rfl
set_option maxRecDepth 20000 in
theorem k_332 : Cond.code ⟨"TabledOrigin$Answer", "<init>", "(I)V"⟩ prog_2_method_1_code 2 none ∈ zws := zin 332 (by rfl) rfl
theorem k_333 : Cond.methodLink "TabledOrigin$Answer" 3 ⟨"java/lang/Object", "<init>", "()V"⟩ ∈ zws := zin 333 (by decide +kernel) rfl
theorem k_334 : Cond.fieldLink "TabledOrigin$Answer" 9 "TabledOrigin$Answer" "status" "I" ∈ zws := zin 334 (by decide +kernel) rfl
theorem k_335 : Cond.fieldLink "TabledOrigin$Server" 87 "TabledOrigin$Answer" "status" "I" ∈ zws := zin 335 (by decide +kernel) rfl
theorem k_336 : Cond.fieldLink "TabledOrigin$Client" 70 "TabledOrigin$Answer" "status" "I" ∈ zws := zin 336 (by decide +kernel) rfl
theorem k_337 : Cond.fieldLink "TabledOrigin$Answer" 15 "TabledOrigin$Answer" "referredTo" "[I" ∈ zws := zin 337 (by decide +kernel) rfl
theorem k_338 : Cond.fieldLink "TabledOrigin$Answer" 23 "TabledOrigin$Answer" "referenceCount" "I" ∈ zws := zin 338 (by decide +kernel) rfl
theorem k_339 : Cond.fieldLink "TabledOrigin$Table" 64 "TabledOrigin$Answer" "referenceCount" "I" ∈ zws := zin 339 (by decide +kernel) rfl
theorem k_340 : Cond.fieldLink "TabledOrigin$Answer" 26 "TabledOrigin$Answer" "need" "I" ∈ zws := zin 340 (by decide +kernel) rfl
theorem k_341 : Cond.fieldLink "TabledOrigin$Client" 55 "TabledOrigin$Answer" "need" "I" ∈ zws := zin 341 (by decide +kernel) rfl
theorem k_342 : Cond.fieldLink "TabledOrigin$Table" 37 "TabledOrigin$Answer" "need" "I" ∈ zws := zin 342 (by decide +kernel) rfl
theorem k_343 : Cond.fieldLink "TabledOrigin" 222 "TabledOrigin$Answer" "need" "I" ∈ zws := zin 343 (by decide +kernel) rfl
theorem k_344 : Cond.fieldLink "TabledOrigin$Client" 95 "TabledOrigin$Answer" "tag" "I" ∈ zws := zin 344 (by decide +kernel) rfl
theorem k_345 : Cond.fieldLink "TabledOrigin$Server" 96 "TabledOrigin$Answer" "tag" "I" ∈ zws := zin 345 (by decide +kernel) rfl
theorem k_346 : Cond.fieldLink "TabledOrigin$Client" 96 "TabledOrigin$Answer" "lifetime" "I" ∈ zws := zin 346 (by decide +kernel) rfl
theorem k_347 : Cond.fieldLink "TabledOrigin$Server" 97 "TabledOrigin$Answer" "lifetime" "I" ∈ zws := zin 347 (by decide +kernel) rfl
theorem k_348 : Cond.fieldLink "TabledOrigin$Client" 80 "TabledOrigin$Answer" "content" "I" ∈ zws := zin 348 (by decide +kernel) rfl
theorem k_349 : Cond.fieldLink "TabledOrigin$Server" 102 "TabledOrigin$Answer" "content" "I" ∈ zws := zin 349 (by decide +kernel) rfl
theorem k_350 : Cond.fieldLink "TabledOrigin$Answer" 19 "TabledOrigin$Answer" "underWay" "Z" ∈ zws := zin 350 (by decide +kernel) rfl
theorem k_351 : Cond.fieldLink "TabledOrigin" 83 "TabledOrigin$Answer" "underWay" "Z" ∈ zws := zin 351 (by decide +kernel) rfl
theorem k_352 : Cond.fieldLink "TabledOrigin" 90 "TabledOrigin$Answer" "blocked" "Z" ∈ zws := zin 352 (by decide +kernel) rfl
theorem k_353 : Cond.fieldLink "TabledOrigin$Table" 70 "TabledOrigin$Answer" "outstanding" "Z" ∈ zws := zin 353 (by decide +kernel) rfl
theorem k_354 : Cond.fieldLink "TabledOrigin" 219 "TabledOrigin$Answer" "outstanding" "Z" ∈ zws := zin 354 (by decide +kernel) rfl
theorem k_355 : Cond.laysFinal "TabledOrigin$Answer" "TabledOrigin$Answer" "status" "I" ∈ zws := zin 355 (by decide +kernel) rfl
theorem k_357 : Cond.laysFinal "TabledOrigin$Answer" "TabledOrigin$Answer" "referredTo" "[I" ∈ zws := zin 357 (by decide +kernel) rfl
theorem k_359 : Cond.lays "TabledOrigin$Answer" "TabledOrigin$Answer" "referenceCount" "I" ∈ zws := zin 359 (by decide +kernel) rfl
theorem k_361 : Cond.lays "TabledOrigin$Answer" "TabledOrigin$Answer" "need" "I" ∈ zws := zin 361 (by decide +kernel) rfl
theorem k_363 : Cond.lays "TabledOrigin$Answer" "TabledOrigin$Answer" "tag" "I" ∈ zws := zin 363 (by decide +kernel) rfl
theorem k_365 : Cond.lays "TabledOrigin$Answer" "TabledOrigin$Answer" "lifetime" "I" ∈ zws := zin 365 (by decide +kernel) rfl
theorem k_367 : Cond.lays "TabledOrigin$Answer" "TabledOrigin$Answer" "content" "I" ∈ zws := zin 367 (by decide +kernel) rfl
theorem k_369 : Cond.lays "TabledOrigin$Answer" "TabledOrigin$Answer" "underWay" "Z" ∈ zws := zin 369 (by decide +kernel) rfl
theorem k_371 : Cond.lays "TabledOrigin$Answer" "TabledOrigin$Answer" "blocked" "Z" ∈ zws := zin 371 (by decide +kernel) rfl
theorem k_373 : Cond.lays "TabledOrigin$Answer" "TabledOrigin$Answer" "outstanding" "Z" ∈ zws := zin 373 (by decide +kernel) rfl
theorem k_376 : Cond.methodLink "TabledOrigin$Server" 105 ⟨"TabledOrigin$Server", "write", "(LTabledOrigin$Resource;II)V"⟩ ∈ zws := zin 376 (by decide +kernel) rfl
theorem k_377 : Cond.methodLink "TabledOrigin$Server" 98 ⟨"TabledOrigin$Table", "putDown", "(LTabledOrigin$Answer;II)V"⟩ ∈ zws := zin 377 (by decide +kernel) rfl
theorem k_378 : Cond.instanceMethod ⟨"TabledOrigin$Table", "putDown", "(LTabledOrigin$Answer;II)V"⟩ ∈ zws := zin 378 (by decide +kernel) rfl
theorem k_379 : Cond.selects "TabledOrigin$Table" ⟨"TabledOrigin$Table", "putDown", "(LTabledOrigin$Answer;II)V"⟩ ⟨"TabledOrigin$Table", "putDown", "(LTabledOrigin$Answer;II)V"⟩ ∈ zws := zin 379 (by decide +kernel) rfl
set_option maxRecDepth 20000 in
theorem k_380 : Cond.code ⟨"TabledOrigin$Table", "putDown", "(LTabledOrigin$Answer;II)V"⟩ prog_9_method_5_code 6 none ∈ zws := zin 380 (by rfl) rfl
theorem k_381 : Cond.methodLink "TabledOrigin$Table" 43 ⟨"TabledOrigin$Table", "atRisk", "()I"⟩ ∈ zws := zin 381 (by decide +kernel) rfl
theorem k_382 : Cond.instanceMethod ⟨"TabledOrigin$Table", "atRisk", "()I"⟩ ∈ zws := zin 382 (by decide +kernel) rfl
theorem k_383 : Cond.selects "TabledOrigin$Table" ⟨"TabledOrigin$Table", "atRisk", "()I"⟩ ⟨"TabledOrigin$Table", "atRisk", "()I"⟩ ∈ zws := zin 383 (by decide +kernel) rfl
set_option maxRecDepth 20000 in
theorem k_384 : Cond.code ⟨"TabledOrigin$Table", "atRisk", "()I"⟩ prog_9_method_8_code 1 (some .int) ∈ zws := zin 384 (by rfl) rfl
theorem k_385 : Cond.methodLink "TabledOrigin$Table" 77 ⟨"TabledOrigin$Table", "outstandingNeeding", "(I)I"⟩ ∈ zws := zin 385 (by decide +kernel) rfl
theorem k_386 : Cond.instanceMethod ⟨"TabledOrigin$Table", "outstandingNeeding", "(I)I"⟩ ∈ zws := zin 386 (by decide +kernel) rfl
theorem k_387 : Cond.selects "TabledOrigin$Table" ⟨"TabledOrigin$Table", "outstandingNeeding", "(I)I"⟩ ⟨"TabledOrigin$Table", "outstandingNeeding", "(I)I"⟩ ∈ zws := zin 387 (by decide +kernel) rfl
set_option maxRecDepth 20000 in
theorem k_388 : Cond.code ⟨"TabledOrigin$Table", "outstandingNeeding", "(I)I"⟩ prog_9_method_9_code 5 (some .int) ∈ zws := zin 388 (by rfl) rfl
theorem k_389 : Cond.methodLink "TabledOrigin$Table" 47 ⟨"TabledOrigin$Table", "findLive", "(II)I"⟩ ∈ zws := zin 389 (by decide +kernel) rfl
theorem k_391 : Cond.instanceMethod ⟨"TabledOrigin$Table", "findLive", "(II)I"⟩ ∈ zws := zin 391 (by decide +kernel) rfl
set_option maxRecDepth 20000 in
theorem k_392 : Cond.code ⟨"TabledOrigin$Table", "findLive", "(II)I"⟩ prog_9_method_11_code 5 (some .int) ∈ zws := zin 392 (by rfl) rfl
theorem k_393 : Cond.methodLink "TabledOrigin$Table" 85 ⟨"TabledOrigin$Table", "liveCount", "()I"⟩ ∈ zws := zin 393 (by decide +kernel) rfl
theorem k_394 : Cond.instanceMethod ⟨"TabledOrigin$Table", "liveCount", "()I"⟩ ∈ zws := zin 394 (by decide +kernel) rfl
theorem k_395 : Cond.selects "TabledOrigin$Table" ⟨"TabledOrigin$Table", "liveCount", "()I"⟩ ⟨"TabledOrigin$Table", "liveCount", "()I"⟩ ∈ zws := zin 395 (by decide +kernel) rfl
set_option maxRecDepth 20000 in
theorem k_396 : Cond.code ⟨"TabledOrigin$Table", "liveCount", "()I"⟩ prog_9_method_2_code 1 (some .int) ∈ zws := zin 396 (by rfl) rfl
theorem k_397 : Cond.methodLink "TabledOrigin$Table" 28 ⟨"java/lang/Math", "min", "(II)I"⟩ ∈ zws := zin 397 (by decide +kernel) rfl
theorem k_398 : Cond.static ⟨"java/lang/Math", "min", "(II)I"⟩ ∈ zws := zin 398 (by decide +kernel) rfl
set_option maxRecDepth 20000 in
theorem k_399 : Cond.code ⟨"java/lang/Math", "min", "(II)I"⟩ prog_12_method_69_code 2 (some .int) ∈ zws := zin 399 (by rfl) rfl
theorem k_400 : Cond.methodLink "TabledOrigin$Table" 88 ⟨"TabledOrigin$Table", "nameOf", "(I)I"⟩ ∈ zws := zin 400 (by decide +kernel) rfl
theorem k_401 : Cond.instanceMethod ⟨"TabledOrigin$Table", "nameOf", "(I)I"⟩ ∈ zws := zin 401 (by decide +kernel) rfl
theorem k_402 : Cond.selects "TabledOrigin$Table" ⟨"TabledOrigin$Table", "nameOf", "(I)I"⟩ ⟨"TabledOrigin$Table", "nameOf", "(I)I"⟩ ∈ zws := zin 402 (by decide +kernel) rfl
set_option maxRecDepth 20000 in
theorem k_403 : Cond.code ⟨"TabledOrigin$Table", "nameOf", "(I)I"⟩ prog_9_method_3_code 2 (some .int) ∈ zws := zin 403 (by rfl) rfl
theorem k_404 : Cond.methodLink "TabledOrigin$Table" 34 ⟨"java/lang/Math", "floorMod", "(II)I"⟩ ∈ zws := zin 404 (by decide +kernel) rfl
theorem k_405 : Cond.static ⟨"java/lang/Math", "floorMod", "(II)I"⟩ ∈ zws := zin 405 (by decide +kernel) rfl
set_option maxRecDepth 20000 in
theorem k_406 : Cond.code ⟨"java/lang/Math", "floorMod", "(II)I"⟩ prog_12_method_50_code 3 (some .int) ∈ zws := zin 406 (by rfl) rfl
theorem k_407 : Cond.methodLink "TabledOrigin$Table" 91 ⟨"TabledOrigin$Table", "valueOf", "(I)I"⟩ ∈ zws := zin 407 (by decide +kernel) rfl
theorem k_408 : Cond.instanceMethod ⟨"TabledOrigin$Table", "valueOf", "(I)I"⟩ ∈ zws := zin 408 (by decide +kernel) rfl
theorem k_409 : Cond.selects "TabledOrigin$Table" ⟨"TabledOrigin$Table", "valueOf", "(I)I"⟩ ⟨"TabledOrigin$Table", "valueOf", "(I)I"⟩ ∈ zws := zin 409 (by decide +kernel) rfl
set_option maxRecDepth 20000 in
theorem k_410 : Cond.code ⟨"TabledOrigin$Table", "valueOf", "(I)I"⟩ prog_9_method_4_code 2 (some .int) ∈ zws := zin 410 (by rfl) rfl
theorem k_411 : Cond.methodLink "TabledOrigin$Table" 50 ⟨"TabledOrigin$Table", "refer", "(LTabledOrigin$Answer;I)V"⟩ ∈ zws := zin 411 (by decide +kernel) rfl
theorem k_413 : Cond.instanceMethod ⟨"TabledOrigin$Table", "refer", "(LTabledOrigin$Answer;I)V"⟩ ∈ zws := zin 413 (by decide +kernel) rfl
set_option maxRecDepth 20000 in
theorem k_414 : Cond.code ⟨"TabledOrigin$Table", "refer", "(LTabledOrigin$Answer;I)V"⟩ prog_9_method_14_code 3 none ∈ zws := zin 414 (by rfl) rfl
theorem k_415 : Cond.methodLink "TabledOrigin$Table" 97 ⟨"TabledOrigin$Answer", "addReference", "(I)V"⟩ ∈ zws := zin 415 (by decide +kernel) rfl
theorem k_416 : Cond.instanceMethod ⟨"TabledOrigin$Answer", "addReference", "(I)V"⟩ ∈ zws := zin 416 (by decide +kernel) rfl
theorem k_417 : Cond.selects "TabledOrigin$Answer" ⟨"TabledOrigin$Answer", "addReference", "(I)V"⟩ ⟨"TabledOrigin$Answer", "addReference", "(I)V"⟩ ∈ zws := zin 417 (by decide +kernel) rfl
set_option maxRecDepth 20000 in
theorem k_418 : Cond.code ⟨"TabledOrigin$Answer", "addReference", "(I)V"⟩ prog_2_method_2_code 2 none ∈ zws := zin 418 (by rfl) rfl
theorem k_419 : Cond.methodLink "TabledOrigin$Answer" 29 ⟨"java/lang/Math", "max", "(II)I"⟩ ∈ zws := zin 419 (by decide +kernel) rfl
theorem k_420 : Cond.methodLink "TabledOrigin$Table" 54 ⟨"TabledOrigin$Table", "hasRoomFor", "(LTabledOrigin$Answer;)Z"⟩ ∈ zws := zin 420 (by decide +kernel) rfl
theorem k_422 : Cond.instanceMethod ⟨"TabledOrigin$Table", "hasRoomFor", "(LTabledOrigin$Answer;)Z"⟩ ∈ zws := zin 422 (by decide +kernel) rfl
set_option maxRecDepth 20000 in
theorem k_423 : Cond.code ⟨"TabledOrigin$Table", "hasRoomFor", "(LTabledOrigin$Answer;)Z"⟩ prog_9_method_12_code 3 (some .boolean) ∈ zws := zin 423 (by rfl) rfl
theorem k_424 : Cond.methodLink "TabledOrigin$Table" 94 ⟨"TabledOrigin$Table", "referencesTo", "(I)I"⟩ ∈ zws := zin 424 (by decide +kernel) rfl
theorem k_425 : Cond.instanceMethod ⟨"TabledOrigin$Table", "referencesTo", "(I)I"⟩ ∈ zws := zin 425 (by decide +kernel) rfl
theorem k_426 : Cond.selects "TabledOrigin$Table" ⟨"TabledOrigin$Table", "referencesTo", "(I)I"⟩ ⟨"TabledOrigin$Table", "referencesTo", "(I)I"⟩ ∈ zws := zin 426 (by decide +kernel) rfl
set_option maxRecDepth 20000 in
theorem k_427 : Cond.code ⟨"TabledOrigin$Table", "referencesTo", "(I)I"⟩ prog_9_method_10_code 5 (some .int) ∈ zws := zin 427 (by rfl) rfl
theorem k_428 : Cond.methodLink "TabledOrigin$Table" 81 ⟨"TabledOrigin$Answer", "refersTo", "(I)Z"⟩ ∈ zws := zin 428 (by decide +kernel) rfl
theorem k_429 : Cond.instanceMethod ⟨"TabledOrigin$Answer", "refersTo", "(I)Z"⟩ ∈ zws := zin 429 (by decide +kernel) rfl
theorem k_430 : Cond.selects "TabledOrigin$Answer" ⟨"TabledOrigin$Answer", "refersTo", "(I)Z"⟩ ⟨"TabledOrigin$Answer", "refersTo", "(I)Z"⟩ ∈ zws := zin 430 (by decide +kernel) rfl
set_option maxRecDepth 20000 in
theorem k_431 : Cond.code ⟨"TabledOrigin$Answer", "refersTo", "(I)Z"⟩ prog_2_method_3_code 3 (some .boolean) ∈ zws := zin 431 (by rfl) rfl
theorem k_432 : Cond.methodLink "TabledOrigin$Table" 58 ⟨"TabledOrigin$Table", "makeEntry", "(II)I"⟩ ∈ zws := zin 432 (by decide +kernel) rfl
theorem k_434 : Cond.instanceMethod ⟨"TabledOrigin$Table", "makeEntry", "(II)I"⟩ ∈ zws := zin 434 (by decide +kernel) rfl
set_option maxRecDepth 20000 in
theorem k_435 : Cond.code ⟨"TabledOrigin$Table", "makeEntry", "(II)I"⟩ prog_9_method_13_code 4 (some .int) ∈ zws := zin 435 (by rfl) rfl
theorem k_436 : Cond.methodLink "TabledOrigin$Server" 76 ⟨"TabledOrigin$Server", "answerGet", "(LTabledOrigin$Request;LTabledOrigin$Resource;)LTabledOrigin$Answer;"⟩ ∈ zws := zin 436 (by decide +kernel) rfl
theorem k_438 : Cond.instanceMethod ⟨"TabledOrigin$Server", "answerGet", "(LTabledOrigin$Request;LTabledOrigin$Resource;)LTabledOrigin$Answer;"⟩ ∈ zws := zin 438 (by decide +kernel) rfl
set_option maxRecDepth 20000 in
theorem k_439 : Cond.code ⟨"TabledOrigin$Server", "answerGet", "(LTabledOrigin$Request;LTabledOrigin$Resource;)LTabledOrigin$Answer;"⟩ prog_7_method_6_code 5 (some (.object "TabledOrigin$Answer")) ∈ zws := zin 439 (by rfl) rfl
theorem k_440 : Cond.methodLink "TabledOrigin$Server" 79 ⟨"TabledOrigin$Table", "keepIfReferring", "(LTabledOrigin$Answer;)V"⟩ ∈ zws := zin 440 (by decide +kernel) rfl
theorem k_441 : Cond.instanceMethod ⟨"TabledOrigin$Table", "keepIfReferring", "(LTabledOrigin$Answer;)V"⟩ ∈ zws := zin 441 (by decide +kernel) rfl
theorem k_442 : Cond.selects "TabledOrigin$Table" ⟨"TabledOrigin$Table", "keepIfReferring", "(LTabledOrigin$Answer;)V"⟩ ⟨"TabledOrigin$Table", "keepIfReferring", "(LTabledOrigin$Answer;)V"⟩ ∈ zws := zin 442 (by decide +kernel) rfl
set_option maxRecDepth 20000 in
theorem k_443 : Cond.code ⟨"TabledOrigin$Table", "keepIfReferring", "(LTabledOrigin$Answer;)V"⟩ prog_9_method_6_code 2 none ∈ zws := zin 443 (by rfl) rfl
theorem k_445 : Cond.instanceMethod ⟨"TabledOrigin", "reply", "(I)I"⟩ ∈ zws := zin 445 (by decide +kernel) rfl
theorem k_446 : Cond.selects "TabledOrigin" ⟨"TabledOrigin", "reply", "(I)I"⟩ ⟨"TabledOrigin", "reply", "(I)I"⟩ ∈ zws := zin 446 (by decide +kernel) rfl
set_option maxRecDepth 20000 in
theorem k_447 : Cond.code ⟨"TabledOrigin", "reply", "(I)I"⟩ prog_1_method_7_code 3 (some .int) ∈ zws := zin 447 (by rfl) rfl
theorem k_448 : Cond.methodLink "TabledOrigin" 86 ⟨"TabledOrigin$Client", "mustWaitFor", "(LTabledOrigin$Answer;)Z"⟩ ∈ zws := zin 448 (by decide +kernel) rfl
theorem k_449 : Cond.instanceMethod ⟨"TabledOrigin$Client", "mustWaitFor", "(LTabledOrigin$Answer;)Z"⟩ ∈ zws := zin 449 (by decide +kernel) rfl
theorem k_450 : Cond.selects "TabledOrigin$Client" ⟨"TabledOrigin$Client", "mustWaitFor", "(LTabledOrigin$Answer;)Z"⟩ ⟨"TabledOrigin$Client", "mustWaitFor", "(LTabledOrigin$Answer;)Z"⟩ ∈ zws := zin 450 (by decide +kernel) rfl
set_option maxRecDepth 20000 in
theorem k_451 : Cond.code ⟨"TabledOrigin$Client", "mustWaitFor", "(LTabledOrigin$Answer;)Z"⟩ prog_3_method_4_code 2 (some .boolean) ∈ zws := zin 451 (by rfl) rfl
theorem k_452 : Cond.methodLink "TabledOrigin" 93 ⟨"TabledOrigin$Client", "read", "(LTabledOrigin$Request;LTabledOrigin$Answer;LTabledOrigin$FeedbackRoad;)V"⟩ ∈ zws := zin 452 (by decide +kernel) rfl
theorem k_453 : Cond.instanceMethod ⟨"TabledOrigin$Client", "read", "(LTabledOrigin$Request;LTabledOrigin$Answer;LTabledOrigin$FeedbackRoad;)V"⟩ ∈ zws := zin 453 (by decide +kernel) rfl
theorem k_454 : Cond.selects "TabledOrigin$Client" ⟨"TabledOrigin$Client", "read", "(LTabledOrigin$Request;LTabledOrigin$Answer;LTabledOrigin$FeedbackRoad;)V"⟩ ⟨"TabledOrigin$Client", "read", "(LTabledOrigin$Request;LTabledOrigin$Answer;LTabledOrigin$FeedbackRoad;)V"⟩ ∈ zws := zin 454 (by decide +kernel) rfl
set_option maxRecDepth 20000 in
theorem k_455 : Cond.code ⟨"TabledOrigin$Client", "read", "(LTabledOrigin$Request;LTabledOrigin$Answer;LTabledOrigin$FeedbackRoad;)V"⟩ prog_3_method_5_code 5 none ∈ zws := zin 455 (by rfl) rfl
theorem k_456 : Cond.methodLink "TabledOrigin$Client" 66 ⟨"TabledOrigin$Client", "storedAt", "(I)LTabledOrigin$StoredAnswer;"⟩ ∈ zws := zin 456 (by decide +kernel) rfl
theorem k_457 : Cond.methodLink "TabledOrigin$Client" 76 ⟨"TabledOrigin$StoredAnswer", "forgetIfOlderThan", "(I)V"⟩ ∈ zws := zin 457 (by decide +kernel) rfl
theorem k_458 : Cond.instanceMethod ⟨"TabledOrigin$StoredAnswer", "forgetIfOlderThan", "(I)V"⟩ ∈ zws := zin 458 (by decide +kernel) rfl
theorem k_459 : Cond.selects "TabledOrigin$StoredAnswer" ⟨"TabledOrigin$StoredAnswer", "forgetIfOlderThan", "(I)V"⟩ ⟨"TabledOrigin$StoredAnswer", "forgetIfOlderThan", "(I)V"⟩ ∈ zws := zin 459 (by decide +kernel) rfl
set_option maxRecDepth 20000 in
theorem k_460 : Cond.code ⟨"TabledOrigin$StoredAnswer", "forgetIfOlderThan", "(I)V"⟩ prog_8_method_4_code 2 none ∈ zws := zin 460 (by rfl) rfl
theorem k_461 : Cond.methodLink "TabledOrigin$Client" 81 ⟨"TabledOrigin$Client", "store", "(LTabledOrigin$StoredAnswer;LTabledOrigin$Request;LTabledOrigin$Answer;)V"⟩ ∈ zws := zin 461 (by decide +kernel) rfl
theorem k_463 : Cond.instanceMethod ⟨"TabledOrigin$Client", "store", "(LTabledOrigin$StoredAnswer;LTabledOrigin$Request;LTabledOrigin$Answer;)V"⟩ ∈ zws := zin 463 (by decide +kernel) rfl
set_option maxRecDepth 20000 in
theorem k_464 : Cond.code ⟨"TabledOrigin$Client", "store", "(LTabledOrigin$StoredAnswer;LTabledOrigin$Request;LTabledOrigin$Answer;)V"⟩ prog_3_method_6_code 4 none ∈ zws := zin 464 (by rfl) rfl
theorem k_465 : Cond.methodLink "TabledOrigin$Client" 85 ⟨"TabledOrigin$Client", "renew", "(LTabledOrigin$StoredAnswer;LTabledOrigin$Request;LTabledOrigin$Answer;)V"⟩ ∈ zws := zin 465 (by decide +kernel) rfl
theorem k_467 : Cond.instanceMethod ⟨"TabledOrigin$Client", "renew", "(LTabledOrigin$StoredAnswer;LTabledOrigin$Request;LTabledOrigin$Answer;)V"⟩ ∈ zws := zin 467 (by decide +kernel) rfl
set_option maxRecDepth 20000 in
theorem k_468 : Cond.code ⟨"TabledOrigin$Client", "renew", "(LTabledOrigin$StoredAnswer;LTabledOrigin$Request;LTabledOrigin$Answer;)V"⟩ prog_3_method_7_code 4 none ∈ zws := zin 468 (by rfl) rfl
theorem k_469 : Cond.methodLink "TabledOrigin$Client" 88 ⟨"TabledOrigin$Client", "acknowledge", "(LTabledOrigin$Request;LTabledOrigin$Answer;LTabledOrigin$FeedbackRoad;)V"⟩ ∈ zws := zin 469 (by decide +kernel) rfl
theorem k_471 : Cond.instanceMethod ⟨"TabledOrigin$Client", "acknowledge", "(LTabledOrigin$Request;LTabledOrigin$Answer;LTabledOrigin$FeedbackRoad;)V"⟩ ∈ zws := zin 471 (by decide +kernel) rfl
set_option maxRecDepth 20000 in
theorem k_472 : Cond.code ⟨"TabledOrigin$Client", "acknowledge", "(LTabledOrigin$Request;LTabledOrigin$Answer;LTabledOrigin$FeedbackRoad;)V"⟩ prog_3_method_8_code 4 none ∈ zws := zin 472 (by rfl) rfl
theorem k_473 : Cond.methodLink "TabledOrigin$Client" 103 ⟨"TabledOrigin$FeedbackRoad", "append", "(II)V"⟩ ∈ zws := zin 473 (by decide +kernel) rfl
theorem k_474 : Cond.instanceMethod ⟨"TabledOrigin$FeedbackRoad", "append", "(II)V"⟩ ∈ zws := zin 474 (by decide +kernel) rfl
theorem k_475 : Cond.selects "TabledOrigin$FeedbackRoad" ⟨"TabledOrigin$FeedbackRoad", "append", "(II)V"⟩ ⟨"TabledOrigin$FeedbackRoad", "append", "(II)V"⟩ ∈ zws := zin 475 (by decide +kernel) rfl
set_option maxRecDepth 20000 in
theorem k_476 : Cond.code ⟨"TabledOrigin$FeedbackRoad", "append", "(II)V"⟩ prog_4_method_2_code 3 none ∈ zws := zin 476 (by rfl) rfl
theorem k_477 : Cond.methodLink "TabledOrigin$Client" 111 ⟨"java/lang/Math", "max", "(II)I"⟩ ∈ zws := zin 477 (by decide +kernel) rfl
theorem k_479 : Cond.instanceMethod ⟨"TabledOrigin", "insert", "()I"⟩ ∈ zws := zin 479 (by decide +kernel) rfl
theorem k_480 : Cond.selects "TabledOrigin" ⟨"TabledOrigin", "insert", "()I"⟩ ⟨"TabledOrigin", "insert", "()I"⟩ ∈ zws := zin 480 (by decide +kernel) rfl
set_option maxRecDepth 20000 in
theorem k_481 : Cond.code ⟨"TabledOrigin", "insert", "()I"⟩ prog_1_method_8_code 1 (some .int) ∈ zws := zin 481 (by rfl) rfl
theorem k_482 : Cond.methodLink "TabledOrigin" 112 ⟨"TabledOrigin", "readUnblocked", "()I"⟩ ∈ zws := zin 482 (by decide +kernel) rfl
theorem k_484 : Cond.instanceMethod ⟨"TabledOrigin", "readUnblocked", "()I"⟩ ∈ zws := zin 484 (by decide +kernel) rfl
set_option maxRecDepth 20000 in
theorem k_485 : Cond.code ⟨"TabledOrigin", "readUnblocked", "()I"⟩ prog_1_method_23_code 4 (some .int) ∈ zws := zin 485 (by rfl) rfl
theorem k_486 : Cond.methodLink "TabledOrigin" 215 ⟨"TabledOrigin", "isBlocked", "(LTabledOrigin$Request;)Z"⟩ ∈ zws := zin 486 (by decide +kernel) rfl
theorem k_487 : Cond.static ⟨"TabledOrigin", "isBlocked", "(LTabledOrigin$Request;)Z"⟩ ∈ zws := zin 487 (by decide +kernel) rfl
set_option maxRecDepth 20000 in
theorem k_488 : Cond.code ⟨"TabledOrigin", "isBlocked", "(LTabledOrigin$Request;)Z"⟩ prog_1_method_24_code 1 (some .boolean) ∈ zws := zin 488 (by rfl) rfl
theorem k_490 : Cond.instanceMethod ⟨"TabledOrigin", "feedback", "()I"⟩ ∈ zws := zin 490 (by decide +kernel) rfl
theorem k_491 : Cond.selects "TabledOrigin" ⟨"TabledOrigin", "feedback", "()I"⟩ ⟨"TabledOrigin", "feedback", "()I"⟩ ∈ zws := zin 491 (by decide +kernel) rfl
set_option maxRecDepth 20000 in
theorem k_492 : Cond.code ⟨"TabledOrigin", "feedback", "()I"⟩ prog_1_method_9_code 3 (some .int) ∈ zws := zin 492 (by rfl) rfl
theorem k_493 : Cond.methodLink "TabledOrigin" 116 ⟨"TabledOrigin$FeedbackRoad", "nextKind", "()I"⟩ ∈ zws := zin 493 (by decide +kernel) rfl
theorem k_494 : Cond.instanceMethod ⟨"TabledOrigin$FeedbackRoad", "nextKind", "()I"⟩ ∈ zws := zin 494 (by decide +kernel) rfl
theorem k_495 : Cond.selects "TabledOrigin$FeedbackRoad" ⟨"TabledOrigin$FeedbackRoad", "nextKind", "()I"⟩ ⟨"TabledOrigin$FeedbackRoad", "nextKind", "()I"⟩ ∈ zws := zin 495 (by decide +kernel) rfl
set_option maxRecDepth 20000 in
theorem k_496 : Cond.code ⟨"TabledOrigin$FeedbackRoad", "nextKind", "()I"⟩ prog_4_method_3_code 1 (some .int) ∈ zws := zin 496 (by rfl) rfl
theorem k_497 : Cond.methodLink "TabledOrigin" 119 ⟨"TabledOrigin$FeedbackRoad", "nextNumber", "()I"⟩ ∈ zws := zin 497 (by decide +kernel) rfl
theorem k_498 : Cond.instanceMethod ⟨"TabledOrigin$FeedbackRoad", "nextNumber", "()I"⟩ ∈ zws := zin 498 (by decide +kernel) rfl
theorem k_499 : Cond.selects "TabledOrigin$FeedbackRoad" ⟨"TabledOrigin$FeedbackRoad", "nextNumber", "()I"⟩ ⟨"TabledOrigin$FeedbackRoad", "nextNumber", "()I"⟩ ∈ zws := zin 499 (by decide +kernel) rfl
set_option maxRecDepth 20000 in
theorem k_500 : Cond.code ⟨"TabledOrigin$FeedbackRoad", "nextNumber", "()I"⟩ prog_4_method_4_code 1 (some .int) ∈ zws := zin 500 (by rfl) rfl
theorem k_501 : Cond.methodLink "TabledOrigin" 122 ⟨"TabledOrigin$FeedbackRoad", "moveOn", "()V"⟩ ∈ zws := zin 501 (by decide +kernel) rfl
theorem k_502 : Cond.instanceMethod ⟨"TabledOrigin$FeedbackRoad", "moveOn", "()V"⟩ ∈ zws := zin 502 (by decide +kernel) rfl
theorem k_503 : Cond.selects "TabledOrigin$FeedbackRoad" ⟨"TabledOrigin$FeedbackRoad", "moveOn", "()V"⟩ ⟨"TabledOrigin$FeedbackRoad", "moveOn", "()V"⟩ ∈ zws := zin 503 (by decide +kernel) rfl
set_option maxRecDepth 20000 in
theorem k_504 : Cond.code ⟨"TabledOrigin$FeedbackRoad", "moveOn", "()V"⟩ prog_4_method_5_code 1 none ∈ zws := zin 504 (by rfl) rfl
theorem k_505 : Cond.methodLink "TabledOrigin" 128 ⟨"TabledOrigin", "endOutstanding", "(IZ)V"⟩ ∈ zws := zin 505 (by decide +kernel) rfl
theorem k_507 : Cond.instanceMethod ⟨"TabledOrigin", "endOutstanding", "(IZ)V"⟩ ∈ zws := zin 507 (by decide +kernel) rfl
set_option maxRecDepth 20000 in
theorem k_508 : Cond.code ⟨"TabledOrigin", "endOutstanding", "(IZ)V"⟩ prog_1_method_26_code 4 none ∈ zws := zin 508 (by rfl) rfl
theorem k_509 : Cond.methodLink "TabledOrigin" 225 ⟨"TabledOrigin$Table", "learn", "(I)V"⟩ ∈ zws := zin 509 (by decide +kernel) rfl
theorem k_510 : Cond.instanceMethod ⟨"TabledOrigin$Table", "learn", "(I)V"⟩ ∈ zws := zin 510 (by decide +kernel) rfl
theorem k_511 : Cond.selects "TabledOrigin$Table" ⟨"TabledOrigin$Table", "learn", "(I)V"⟩ ⟨"TabledOrigin$Table", "learn", "(I)V"⟩ ∈ zws := zin 511 (by decide +kernel) rfl
set_option maxRecDepth 20000 in
theorem k_512 : Cond.code ⟨"TabledOrigin$Table", "learn", "(I)V"⟩ prog_9_method_7_code 2 none ∈ zws := zin 512 (by rfl) rfl
theorem k_513 : Cond.methodLink "TabledOrigin$Table" 74 ⟨"java/lang/Math", "max", "(II)I"⟩ ∈ zws := zin 513 (by decide +kernel) rfl
theorem k_515 : Cond.instanceMethod ⟨"TabledOrigin", "report", "()Z"⟩ ∈ zws := zin 515 (by decide +kernel) rfl
theorem k_516 : Cond.selects "TabledOrigin" ⟨"TabledOrigin", "report", "()Z"⟩ ⟨"TabledOrigin", "report", "()Z"⟩ ∈ zws := zin 516 (by decide +kernel) rfl
set_option maxRecDepth 20000 in
theorem k_517 : Cond.code ⟨"TabledOrigin", "report", "()Z"⟩ prog_1_method_10_code 2 (some .boolean) ∈ zws := zin 517 (by rfl) rfl
theorem k_518 : Cond.methodLink "TabledOrigin" 135 ⟨"TabledOrigin$FeedbackRoad", "append", "(II)V"⟩ ∈ zws := zin 518 (by decide +kernel) rfl
theorem k_520 : Cond.instanceMethod ⟨"TabledOrigin", "goaway", "()I"⟩ ∈ zws := zin 520 (by decide +kernel) rfl
theorem k_521 : Cond.selects "TabledOrigin" ⟨"TabledOrigin", "goaway", "()I"⟩ ⟨"TabledOrigin", "goaway", "()I"⟩ ∈ zws := zin 521 (by decide +kernel) rfl
set_option maxRecDepth 20000 in
theorem k_522 : Cond.code ⟨"TabledOrigin", "goaway", "()I"⟩ prog_1_method_11_code 1 (some .int) ∈ zws := zin 522 (by rfl) rfl
theorem k_523 : Cond.methodLink "TabledOrigin" 139 ⟨"TabledOrigin$Server", "announceLimit", "()V"⟩ ∈ zws := zin 523 (by decide +kernel) rfl
theorem k_524 : Cond.instanceMethod ⟨"TabledOrigin$Server", "announceLimit", "()V"⟩ ∈ zws := zin 524 (by decide +kernel) rfl
theorem k_525 : Cond.selects "TabledOrigin$Server" ⟨"TabledOrigin$Server", "announceLimit", "()V"⟩ ⟨"TabledOrigin$Server", "announceLimit", "()V"⟩ ∈ zws := zin 525 (by decide +kernel) rfl
set_option maxRecDepth 20000 in
theorem k_526 : Cond.code ⟨"TabledOrigin$Server", "announceLimit", "()V"⟩ prog_7_method_5_code 1 none ∈ zws := zin 526 (by rfl) rfl
theorem k_528 : Cond.instanceMethod ⟨"TabledOrigin", "notice", "()I"⟩ ∈ zws := zin 528 (by decide +kernel) rfl
theorem k_529 : Cond.selects "TabledOrigin" ⟨"TabledOrigin", "notice", "()I"⟩ ⟨"TabledOrigin", "notice", "()I"⟩ ∈ zws := zin 529 (by decide +kernel) rfl
set_option maxRecDepth 20000 in
theorem k_530 : Cond.code ⟨"TabledOrigin", "notice", "()I"⟩ prog_1_method_12_code 1 (some .int) ∈ zws := zin 530 (by rfl) rfl
theorem k_531 : Cond.methodLink "TabledOrigin" 151 ⟨"TabledOrigin", "refuseFrom", "(I)I"⟩ ∈ zws := zin 531 (by decide +kernel) rfl
theorem k_533 : Cond.instanceMethod ⟨"TabledOrigin", "refuseFrom", "(I)I"⟩ ∈ zws := zin 533 (by decide +kernel) rfl
set_option maxRecDepth 20000 in
theorem k_534 : Cond.code ⟨"TabledOrigin", "refuseFrom", "(I)I"⟩ prog_1_method_27_code 5 (some .int) ∈ zws := zin 534 (by rfl) rfl
theorem k_535 : Cond.methodLink "TabledOrigin" 155 ⟨"TabledOrigin$Request", "settle", "(II)V"⟩ ∈ zws := zin 535 (by decide +kernel) rfl
theorem k_537 : Cond.instanceMethod ⟨"TabledOrigin", "cancel", "(I)Z"⟩ ∈ zws := zin 537 (by decide +kernel) rfl
theorem k_538 : Cond.selects "TabledOrigin" ⟨"TabledOrigin", "cancel", "(I)Z"⟩ ⟨"TabledOrigin", "cancel", "(I)Z"⟩ ∈ zws := zin 538 (by decide +kernel) rfl
set_option maxRecDepth 20000 in
theorem k_539 : Cond.code ⟨"TabledOrigin", "cancel", "(I)Z"⟩ prog_1_method_13_code 3 (some .boolean) ∈ zws := zin 539 (by rfl) rfl
theorem k_541 : Cond.instanceMethod ⟨"TabledOrigin", "tick", "(I)Z"⟩ ∈ zws := zin 541 (by decide +kernel) rfl
theorem k_542 : Cond.selects "TabledOrigin" ⟨"TabledOrigin", "tick", "(I)Z"⟩ ⟨"TabledOrigin", "tick", "(I)Z"⟩ ∈ zws := zin 542 (by decide +kernel) rfl
set_option maxRecDepth 20000 in
theorem k_543 : Cond.code ⟨"TabledOrigin", "tick", "(I)Z"⟩ prog_1_method_14_code 2 (some .boolean) ∈ zws := zin 543 (by rfl) rfl
theorem k_545 : Cond.instanceMethod ⟨"TabledOrigin", "outcome", "(I)I"⟩ ∈ zws := zin 545 (by decide +kernel) rfl
theorem k_546 : Cond.selects "TabledOrigin" ⟨"TabledOrigin", "outcome", "(I)I"⟩ ⟨"TabledOrigin", "outcome", "(I)I"⟩ ∈ zws := zin 546 (by decide +kernel) rfl
set_option maxRecDepth 20000 in
theorem k_547 : Cond.code ⟨"TabledOrigin", "outcome", "(I)I"⟩ prog_1_method_15_code 3 (some .int) ∈ zws := zin 547 (by rfl) rfl
theorem k_549 : Cond.instanceMethod ⟨"TabledOrigin", "content", "(I)I"⟩ ∈ zws := zin 549 (by decide +kernel) rfl
theorem k_550 : Cond.selects "TabledOrigin" ⟨"TabledOrigin", "content", "(I)I"⟩ ⟨"TabledOrigin", "content", "(I)I"⟩ ∈ zws := zin 550 (by decide +kernel) rfl
set_option maxRecDepth 20000 in
theorem k_551 : Cond.code ⟨"TabledOrigin", "content", "(I)I"⟩ prog_1_method_16_code 3 (some .int) ∈ zws := zin 551 (by rfl) rfl
theorem k_553 : Cond.instanceMethod ⟨"TabledOrigin", "stored", "(II)I"⟩ ∈ zws := zin 553 (by decide +kernel) rfl
theorem k_554 : Cond.selects "TabledOrigin" ⟨"TabledOrigin", "stored", "(II)I"⟩ ⟨"TabledOrigin", "stored", "(II)I"⟩ ∈ zws := zin 554 (by decide +kernel) rfl
set_option maxRecDepth 20000 in
theorem k_555 : Cond.code ⟨"TabledOrigin", "stored", "(II)I"⟩ prog_1_method_17_code 4 (some .int) ∈ zws := zin 555 (by rfl) rfl
theorem k_556 : Cond.methodLink "TabledOrigin" 178 ⟨"TabledOrigin$StoredAnswer", "freshFor", "(I)I"⟩ ∈ zws := zin 556 (by decide +kernel) rfl
theorem k_557 : Cond.instanceMethod ⟨"TabledOrigin$StoredAnswer", "freshFor", "(I)I"⟩ ∈ zws := zin 557 (by decide +kernel) rfl
theorem k_558 : Cond.selects "TabledOrigin$StoredAnswer" ⟨"TabledOrigin$StoredAnswer", "freshFor", "(I)I"⟩ ⟨"TabledOrigin$StoredAnswer", "freshFor", "(I)I"⟩ ∈ zws := zin 558 (by decide +kernel) rfl
set_option maxRecDepth 20000 in
theorem k_559 : Cond.code ⟨"TabledOrigin$StoredAnswer", "freshFor", "(I)I"⟩ prog_8_method_3_code 2 (some .int) ∈ zws := zin 559 (by rfl) rfl
theorem k_560 : Cond.methodLink "TabledOrigin$StoredAnswer" 20 ⟨"TabledOrigin$StoredAnswer", "isFresh", "(I)Z"⟩ ∈ zws := zin 560 (by decide +kernel) rfl
theorem k_562 : Cond.instanceMethod ⟨"TabledOrigin", "entry", "(II)I"⟩ ∈ zws := zin 562 (by decide +kernel) rfl
theorem k_563 : Cond.selects "TabledOrigin" ⟨"TabledOrigin", "entry", "(II)I"⟩ ⟨"TabledOrigin", "entry", "(II)I"⟩ ∈ zws := zin 563 (by decide +kernel) rfl
set_option maxRecDepth 20000 in
theorem k_564 : Cond.code ⟨"TabledOrigin", "entry", "(II)I"⟩ prog_1_method_18_code 5 (some .int) ∈ zws := zin 564 (by rfl) rfl
theorem k_565 : Cond.methodLink "TabledOrigin" 181 ⟨"TabledOrigin$Table", "liveCount", "()I"⟩ ∈ zws := zin 565 (by decide +kernel) rfl
theorem k_566 : Cond.methodLink "TabledOrigin" 184 ⟨"TabledOrigin$Table", "nameOf", "(I)I"⟩ ∈ zws := zin 566 (by decide +kernel) rfl
theorem k_567 : Cond.methodLink "TabledOrigin" 187 ⟨"TabledOrigin$Table", "valueOf", "(I)I"⟩ ∈ zws := zin 567 (by decide +kernel) rfl
theorem k_568 : Cond.methodLink "TabledOrigin" 190 ⟨"TabledOrigin$Table", "referencesTo", "(I)I"⟩ ∈ zws := zin 568 (by decide +kernel) rfl
theorem k_570 : Cond.instanceMethod ⟨"TabledOrigin", "count", "(I)I"⟩ ∈ zws := zin 570 (by decide +kernel) rfl
theorem k_571 : Cond.selects "TabledOrigin" ⟨"TabledOrigin", "count", "(I)I"⟩ ⟨"TabledOrigin", "count", "(I)I"⟩ ∈ zws := zin 571 (by decide +kernel) rfl
set_option maxRecDepth 20000 in
theorem k_572 : Cond.code ⟨"TabledOrigin", "count", "(I)I"⟩ prog_1_method_19_code 3 (some .int) ∈ zws := zin 572 (by rfl) rfl
theorem k_573 : Cond.methodLink "TabledOrigin" 199 ⟨"TabledOrigin$Table", "outstandingNeeding", "(I)I"⟩ ∈ zws := zin 573 (by decide +kernel) rfl
theorem k_574 : Cond.methodLink "TabledOrigin" 202 ⟨"TabledOrigin$Table", "atRisk", "()I"⟩ ∈ zws := zin 574 (by decide +kernel) rfl
theorem k_575 : Cond.methodLink "TabledOrigin" 205 ⟨"TabledOrigin", "blockedAnswers", "()I"⟩ ∈ zws := zin 575 (by decide +kernel) rfl
theorem k_577 : Cond.instanceMethod ⟨"TabledOrigin", "blockedAnswers", "()I"⟩ ∈ zws := zin 577 (by decide +kernel) rfl
set_option maxRecDepth 20000 in
theorem k_578 : Cond.code ⟨"TabledOrigin", "blockedAnswers", "()I"⟩ prog_1_method_25_code 3 (some .int) ∈ zws := zin 578 (by rfl) rfl
theorem k_582 : Cond.instanceMethod ⟨"TabledOriginModel", "<init>", "()V"⟩ ∈ zws := zin 582 (by decide +kernel) rfl
set_option maxRecDepth 20000 in
theorem k_583 : Cond.code ⟨"TabledOriginModel", "<init>", "()V"⟩ prog_11_method_1_code 2 none ∈ zws := zin 583 (by rfl) rfl
theorem k_584 : Cond.methodLink "TabledOriginModel" 1 ⟨"java/lang/Object", "<init>", "()V"⟩ ∈ zws := zin 584 (by decide +kernel) rfl
theorem k_585 : Cond.fieldLink "TabledOriginModel" 7 "TabledOriginModel" "there" "[Z" ∈ zws := zin 585 (by decide +kernel) rfl
theorem k_586 : Cond.fieldLink "TabledOriginModel" 13 "TabledOriginModel" "text" "[I" ∈ zws := zin 586 (by decide +kernel) rfl
theorem k_587 : Cond.fieldLink "TabledOriginModel" 17 "TabledOriginModel" "life" "[I" ∈ zws := zin 587 (by decide +kernel) rfl
theorem k_588 : Cond.fieldLink "TabledOriginModel" 20 "TabledOriginModel" "tag" "[I" ∈ zws := zin 588 (by decide +kernel) rfl
theorem k_589 : Cond.fieldLink "TabledOriginModel" 113 "TabledOriginModel" "newest" "I" ∈ zws := zin 589 (by decide +kernel) rfl
theorem k_590 : Cond.fieldLink "TabledOriginModel" 161 "TabledOriginModel" "clock" "I" ∈ zws := zin 590 (by decide +kernel) rfl
theorem k_591 : Cond.fieldLink "TabledOriginModel" 100 "TabledOriginModel" "requests" "I" ∈ zws := zin 591 (by decide +kernel) rfl
theorem k_592 : Cond.fieldLink "TabledOriginModel" 23 "TabledOriginModel" "writes" "[Z" ∈ zws := zin 592 (by decide +kernel) rfl
theorem k_593 : Cond.fieldLink "TabledOriginModel" 26 "TabledOriginModel" "resource" "[I" ∈ zws := zin 593 (by decide +kernel) rfl
theorem k_594 : Cond.fieldLink "TabledOriginModel" 29 "TabledOriginModel" "result" "[I" ∈ zws := zin 594 (by decide +kernel) rfl
theorem k_595 : Cond.fieldLink "TabledOriginModel" 32 "TabledOriginModel" "body" "[I" ∈ zws := zin 595 (by decide +kernel) rfl
theorem k_596 : Cond.fieldLink "TabledOriginModel" 35 "TabledOriginModel" "lasts" "[I" ∈ zws := zin 596 (by decide +kernel) rfl
theorem k_597 : Cond.fieldLink "TabledOriginModel" 38 "TabledOriginModel" "bears" "[I" ∈ zws := zin 597 (by decide +kernel) rfl
theorem k_598 : Cond.fieldLink "TabledOriginModel" 41 "TabledOriginModel" "sent" "[I" ∈ zws := zin 598 (by decide +kernel) rfl
theorem k_599 : Cond.fieldLink "TabledOriginModel" 44 "TabledOriginModel" "shown" "[I" ∈ zws := zin 599 (by decide +kernel) rfl
theorem k_600 : Cond.fieldLink "TabledOriginModel" 47 "TabledOriginModel" "road" "[I" ∈ zws := zin 600 (by decide +kernel) rfl
theorem k_601 : Cond.fieldLink "TabledOriginModel" 50 "TabledOriginModel" "status" "[I" ∈ zws := zin 601 (by decide +kernel) rfl
theorem k_602 : Cond.fieldLink "TabledOriginModel" 53 "TabledOriginModel" "ansTag" "[I" ∈ zws := zin 602 (by decide +kernel) rfl
theorem k_603 : Cond.fieldLink "TabledOriginModel" 56 "TabledOriginModel" "ansLife" "[I" ∈ zws := zin 603 (by decide +kernel) rfl
theorem k_604 : Cond.fieldLink "TabledOriginModel" 59 "TabledOriginModel" "ansText" "[I" ∈ zws := zin 604 (by decide +kernel) rfl
theorem k_605 : Cond.fieldLink "TabledOriginModel" 62 "TabledOriginModel" "refers" "[I" ∈ zws := zin 605 (by decide +kernel) rfl
theorem k_606 : Cond.fieldLink "TabledOriginModel" 65 "TabledOriginModel" "keptBy" "[I" ∈ zws := zin 606 (by decide +kernel) rfl
theorem k_607 : Cond.fieldLink "TabledOriginModel" 68 "TabledOriginModel" "keptTag" "[I" ∈ zws := zin 607 (by decide +kernel) rfl
theorem k_608 : Cond.fieldLink "TabledOriginModel" 71 "TabledOriginModel" "keptText" "[I" ∈ zws := zin 608 (by decide +kernel) rfl
theorem k_609 : Cond.fieldLink "TabledOriginModel" 74 "TabledOriginModel" "keptLife" "[I" ∈ zws := zin 609 (by decide +kernel) rfl
theorem k_610 : Cond.fieldLink "TabledOriginModel" 77 "TabledOriginModel" "keptSince" "[I" ∈ zws := zin 610 (by decide +kernel) rfl
theorem k_611 : Cond.fieldLink "TabledOriginModel" 80 "TabledOriginModel" "name" "[I" ∈ zws := zin 611 (by decide +kernel) rfl
theorem k_612 : Cond.fieldLink "TabledOriginModel" 83 "TabledOriginModel" "value" "[I" ∈ zws := zin 612 (by decide +kernel) rfl
theorem k_613 : Cond.fieldLink "TabledOriginModel" 107 "TabledOriginModel" "made" "I" ∈ zws := zin 613 (by decide +kernel) rfl
theorem k_614 : Cond.fieldLink "TabledOriginModel" 175 "TabledOriginModel" "came" "I" ∈ zws := zin 614 (by decide +kernel) rfl
theorem k_615 : Cond.fieldLink "TabledOriginModel" 141 "TabledOriginModel" "literals" "I" ∈ zws := zin 615 (by decide +kernel) rfl
theorem k_616 : Cond.fieldLink "TabledOriginModel" 138 "TabledOriginModel" "references" "I" ∈ zws := zin 616 (by decide +kernel) rfl
theorem k_617 : Cond.fieldLink "TabledOriginModel" 86 "TabledOriginModel" "word" "[I" ∈ zws := zin 617 (by decide +kernel) rfl
theorem k_618 : Cond.fieldLink "TabledOriginModel" 89 "TabledOriginModel" "about" "[I" ∈ zws := zin 618 (by decide +kernel) rfl
theorem k_619 : Cond.fieldLink "TabledOriginModel" 110 "TabledOriginModel" "words" "I" ∈ zws := zin 619 (by decide +kernel) rfl
theorem k_620 : Cond.fieldLink "TabledOriginModel" 96 "TabledOriginModel" "heard" "I" ∈ zws := zin 620 (by decide +kernel) rfl
theorem k_621 : Cond.fieldLink "TabledOriginModel" 144 "TabledOriginModel" "announced" "Z" ∈ zws := zin 621 (by decide +kernel) rfl
theorem k_622 : Cond.fieldLink "TabledOriginModel" 164 "TabledOriginModel" "noticed" "Z" ∈ zws := zin 622 (by decide +kernel) rfl
theorem k_623 : Cond.fieldLink "TabledOriginModel" 148 "TabledOriginModel" "bound" "I" ∈ zws := zin 623 (by decide +kernel) rfl
theorem k_624 : Cond.fieldLink "TabledOriginModel" 158 "TabledOriginModel" "answered" "I" ∈ zws := zin 624 (by decide +kernel) rfl
theorem k_625 : Cond.laysFinal "TabledOriginModel" "TabledOriginModel" "there" "[Z" ∈ zws := zin 625 (by decide +kernel) rfl
theorem k_627 : Cond.laysFinal "TabledOriginModel" "TabledOriginModel" "text" "[I" ∈ zws := zin 627 (by decide +kernel) rfl
theorem k_629 : Cond.laysFinal "TabledOriginModel" "TabledOriginModel" "life" "[I" ∈ zws := zin 629 (by decide +kernel) rfl
theorem k_631 : Cond.laysFinal "TabledOriginModel" "TabledOriginModel" "tag" "[I" ∈ zws := zin 631 (by decide +kernel) rfl
theorem k_633 : Cond.lays "TabledOriginModel" "TabledOriginModel" "newest" "I" ∈ zws := zin 633 (by decide +kernel) rfl
theorem k_635 : Cond.lays "TabledOriginModel" "TabledOriginModel" "clock" "I" ∈ zws := zin 635 (by decide +kernel) rfl
theorem k_637 : Cond.lays "TabledOriginModel" "TabledOriginModel" "requests" "I" ∈ zws := zin 637 (by decide +kernel) rfl
theorem k_639 : Cond.laysFinal "TabledOriginModel" "TabledOriginModel" "writes" "[Z" ∈ zws := zin 639 (by decide +kernel) rfl
theorem k_641 : Cond.laysFinal "TabledOriginModel" "TabledOriginModel" "resource" "[I" ∈ zws := zin 641 (by decide +kernel) rfl
theorem k_643 : Cond.laysFinal "TabledOriginModel" "TabledOriginModel" "result" "[I" ∈ zws := zin 643 (by decide +kernel) rfl
theorem k_645 : Cond.laysFinal "TabledOriginModel" "TabledOriginModel" "body" "[I" ∈ zws := zin 645 (by decide +kernel) rfl
theorem k_647 : Cond.laysFinal "TabledOriginModel" "TabledOriginModel" "lasts" "[I" ∈ zws := zin 647 (by decide +kernel) rfl
theorem k_649 : Cond.laysFinal "TabledOriginModel" "TabledOriginModel" "bears" "[I" ∈ zws := zin 649 (by decide +kernel) rfl
theorem k_651 : Cond.laysFinal "TabledOriginModel" "TabledOriginModel" "sent" "[I" ∈ zws := zin 651 (by decide +kernel) rfl
theorem k_653 : Cond.laysFinal "TabledOriginModel" "TabledOriginModel" "shown" "[I" ∈ zws := zin 653 (by decide +kernel) rfl
theorem k_655 : Cond.laysFinal "TabledOriginModel" "TabledOriginModel" "road" "[I" ∈ zws := zin 655 (by decide +kernel) rfl
theorem k_657 : Cond.laysFinal "TabledOriginModel" "TabledOriginModel" "status" "[I" ∈ zws := zin 657 (by decide +kernel) rfl
theorem k_659 : Cond.laysFinal "TabledOriginModel" "TabledOriginModel" "ansTag" "[I" ∈ zws := zin 659 (by decide +kernel) rfl
theorem k_661 : Cond.laysFinal "TabledOriginModel" "TabledOriginModel" "ansLife" "[I" ∈ zws := zin 661 (by decide +kernel) rfl
theorem k_663 : Cond.laysFinal "TabledOriginModel" "TabledOriginModel" "ansText" "[I" ∈ zws := zin 663 (by decide +kernel) rfl
theorem k_665 : Cond.laysFinal "TabledOriginModel" "TabledOriginModel" "refers" "[I" ∈ zws := zin 665 (by decide +kernel) rfl
theorem k_667 : Cond.laysFinal "TabledOriginModel" "TabledOriginModel" "keptBy" "[I" ∈ zws := zin 667 (by decide +kernel) rfl
theorem k_669 : Cond.laysFinal "TabledOriginModel" "TabledOriginModel" "keptTag" "[I" ∈ zws := zin 669 (by decide +kernel) rfl
theorem k_671 : Cond.laysFinal "TabledOriginModel" "TabledOriginModel" "keptText" "[I" ∈ zws := zin 671 (by decide +kernel) rfl
theorem k_673 : Cond.laysFinal "TabledOriginModel" "TabledOriginModel" "keptLife" "[I" ∈ zws := zin 673 (by decide +kernel) rfl
theorem k_675 : Cond.laysFinal "TabledOriginModel" "TabledOriginModel" "keptSince" "[I" ∈ zws := zin 675 (by decide +kernel) rfl
theorem k_677 : Cond.laysFinal "TabledOriginModel" "TabledOriginModel" "name" "[I" ∈ zws := zin 677 (by decide +kernel) rfl
theorem k_679 : Cond.laysFinal "TabledOriginModel" "TabledOriginModel" "value" "[I" ∈ zws := zin 679 (by decide +kernel) rfl
theorem k_681 : Cond.lays "TabledOriginModel" "TabledOriginModel" "made" "I" ∈ zws := zin 681 (by decide +kernel) rfl
theorem k_683 : Cond.lays "TabledOriginModel" "TabledOriginModel" "came" "I" ∈ zws := zin 683 (by decide +kernel) rfl
theorem k_685 : Cond.lays "TabledOriginModel" "TabledOriginModel" "literals" "I" ∈ zws := zin 685 (by decide +kernel) rfl
theorem k_687 : Cond.lays "TabledOriginModel" "TabledOriginModel" "references" "I" ∈ zws := zin 687 (by decide +kernel) rfl
theorem k_689 : Cond.laysFinal "TabledOriginModel" "TabledOriginModel" "word" "[I" ∈ zws := zin 689 (by decide +kernel) rfl
theorem k_691 : Cond.laysFinal "TabledOriginModel" "TabledOriginModel" "about" "[I" ∈ zws := zin 691 (by decide +kernel) rfl
theorem k_693 : Cond.lays "TabledOriginModel" "TabledOriginModel" "words" "I" ∈ zws := zin 693 (by decide +kernel) rfl
theorem k_695 : Cond.lays "TabledOriginModel" "TabledOriginModel" "heard" "I" ∈ zws := zin 695 (by decide +kernel) rfl
theorem k_697 : Cond.lays "TabledOriginModel" "TabledOriginModel" "announced" "Z" ∈ zws := zin 697 (by decide +kernel) rfl
theorem k_699 : Cond.lays "TabledOriginModel" "TabledOriginModel" "noticed" "Z" ∈ zws := zin 699 (by decide +kernel) rfl
theorem k_701 : Cond.lays "TabledOriginModel" "TabledOriginModel" "bound" "I" ∈ zws := zin 701 (by decide +kernel) rfl
theorem k_703 : Cond.lays "TabledOriginModel" "TabledOriginModel" "answered" "I" ∈ zws := zin 703 (by decide +kernel) rfl
theorem k_706 : Cond.arrayClass .boolean ∈ zws := zin 706 (by decide +kernel) rfl
theorem k_708 : Cond.instanceMethod ⟨"TabledOriginModel", "put", "(III)I"⟩ ∈ zws := zin 708 (by decide +kernel) rfl
theorem k_709 : Cond.selects "TabledOriginModel" ⟨"TabledOriginModel", "put", "(III)I"⟩ ⟨"TabledOriginModel", "put", "(III)I"⟩ ∈ zws := zin 709 (by decide +kernel) rfl
set_option maxRecDepth 20000 in
theorem k_710 : Cond.code ⟨"TabledOriginModel", "put", "(III)I"⟩ prog_11_method_11_code 4 (some .int) ∈ zws := zin 710 (by rfl) rfl
theorem k_711 : Cond.methodLink "TabledOriginModel" 116 ⟨"TabledOriginModel", "within", "(II)Z"⟩ ∈ zws := zin 711 (by decide +kernel) rfl
theorem k_712 : Cond.static ⟨"TabledOriginModel", "within", "(II)Z"⟩ ∈ zws := zin 712 (by decide +kernel) rfl
set_option maxRecDepth 20000 in
theorem k_713 : Cond.code ⟨"TabledOriginModel", "within", "(II)Z"⟩ prog_11_method_2_code 2 (some .boolean) ∈ zws := zin 713 (by rfl) rfl
theorem k_714 : Cond.methodLink "TabledOriginModel" 120 ⟨"TabledOriginModel", "write", "(III)I"⟩ ∈ zws := zin 714 (by decide +kernel) rfl
theorem k_716 : Cond.instanceMethod ⟨"TabledOriginModel", "write", "(III)I"⟩ ∈ zws := zin 716 (by decide +kernel) rfl
set_option maxRecDepth 20000 in
theorem k_717 : Cond.code ⟨"TabledOriginModel", "write", "(III)I"⟩ prog_11_method_10_code 4 (some .int) ∈ zws := zin 717 (by rfl) rfl
theorem k_719 : Cond.instanceMethod ⟨"TabledOriginModel", "drop", "(I)Z"⟩ ∈ zws := zin 719 (by decide +kernel) rfl
theorem k_720 : Cond.selects "TabledOriginModel" ⟨"TabledOriginModel", "drop", "(I)Z"⟩ ⟨"TabledOriginModel", "drop", "(I)Z"⟩ ∈ zws := zin 720 (by decide +kernel) rfl
set_option maxRecDepth 20000 in
theorem k_721 : Cond.code ⟨"TabledOriginModel", "drop", "(I)Z"⟩ prog_11_method_12_code 2 (some .boolean) ∈ zws := zin 721 (by rfl) rfl
theorem k_723 : Cond.instanceMethod ⟨"TabledOriginModel", "arrive", "(I)I"⟩ ∈ zws := zin 723 (by decide +kernel) rfl
theorem k_724 : Cond.selects "TabledOriginModel" ⟨"TabledOriginModel", "arrive", "(I)I"⟩ ⟨"TabledOriginModel", "arrive", "(I)I"⟩ ∈ zws := zin 724 (by decide +kernel) rfl
set_option maxRecDepth 20000 in
theorem k_725 : Cond.code ⟨"TabledOriginModel", "arrive", "(I)I"⟩ prog_11_method_15_code 4 (some .int) ∈ zws := zin 725 (by rfl) rfl
theorem k_726 : Cond.methodLink "TabledOriginModel" 151 ⟨"TabledOriginModel", "decide", "(I)I"⟩ ∈ zws := zin 726 (by decide +kernel) rfl
theorem k_728 : Cond.instanceMethod ⟨"TabledOriginModel", "decide", "(I)I"⟩ ∈ zws := zin 728 (by decide +kernel) rfl
set_option maxRecDepth 20000 in
theorem k_729 : Cond.code ⟨"TabledOriginModel", "decide", "(I)I"⟩ prog_11_method_14_code 3 (some .int) ∈ zws := zin 729 (by rfl) rfl
theorem k_730 : Cond.methodLink "TabledOriginModel" 154 ⟨"TabledOriginModel", "field", "(III)V"⟩ ∈ zws := zin 730 (by decide +kernel) rfl
theorem k_732 : Cond.instanceMethod ⟨"TabledOriginModel", "field", "(III)V"⟩ ∈ zws := zin 732 (by decide +kernel) rfl
set_option maxRecDepth 20000 in
theorem k_733 : Cond.code ⟨"TabledOriginModel", "field", "(III)V"⟩ prog_11_method_13_code 9 none ∈ zws := zin 733 (by rfl) rfl
theorem k_734 : Cond.methodLink "TabledOriginModel" 124 ⟨"TabledOriginModel", "after", "(I)I"⟩ ∈ zws := zin 734 (by decide +kernel) rfl
theorem k_736 : Cond.instanceMethod ⟨"TabledOriginModel", "after", "(I)I"⟩ ∈ zws := zin 736 (by decide +kernel) rfl
set_option maxRecDepth 20000 in
theorem k_737 : Cond.code ⟨"TabledOriginModel", "after", "(I)I"⟩ prog_11_method_3_code 5 (some .int) ∈ zws := zin 737 (by rfl) rfl
theorem k_738 : Cond.methodLink "TabledOriginModel" 92 ⟨"TabledOriginModel", "need", "(I)I"⟩ ∈ zws := zin 738 (by decide +kernel) rfl
theorem k_740 : Cond.instanceMethod ⟨"TabledOriginModel", "need", "(I)I"⟩ ∈ zws := zin 740 (by decide +kernel) rfl
set_option maxRecDepth 20000 in
theorem k_741 : Cond.code ⟨"TabledOriginModel", "need", "(I)I"⟩ prog_11_method_4_code 4 (some .int) ∈ zws := zin 741 (by rfl) rfl
theorem k_742 : Cond.methodLink "TabledOriginModel" 127 ⟨"TabledOriginModel", "risky", "(II)I"⟩ ∈ zws := zin 742 (by decide +kernel) rfl
theorem k_744 : Cond.instanceMethod ⟨"TabledOriginModel", "risky", "(II)I"⟩ ∈ zws := zin 744 (by decide +kernel) rfl
set_option maxRecDepth 20000 in
theorem k_745 : Cond.code ⟨"TabledOriginModel", "risky", "(II)I"⟩ prog_11_method_6_code 5 (some .int) ∈ zws := zin 745 (by rfl) rfl
theorem k_746 : Cond.methodLink "TabledOriginModel" 103 ⟨"TabledOriginModel", "outstanding", "(I)Z"⟩ ∈ zws := zin 746 (by decide +kernel) rfl
theorem k_748 : Cond.instanceMethod ⟨"TabledOriginModel", "outstanding", "(I)Z"⟩ ∈ zws := zin 748 (by decide +kernel) rfl
set_option maxRecDepth 20000 in
theorem k_749 : Cond.code ⟨"TabledOriginModel", "outstanding", "(I)Z"⟩ prog_11_method_5_code 4 (some .boolean) ∈ zws := zin 749 (by rfl) rfl
theorem k_750 : Cond.methodLink "TabledOriginModel" 131 ⟨"TabledOriginModel", "oldest", "()I"⟩ ∈ zws := zin 750 (by decide +kernel) rfl
theorem k_752 : Cond.instanceMethod ⟨"TabledOriginModel", "oldest", "()I"⟩ ∈ zws := zin 752 (by decide +kernel) rfl
set_option maxRecDepth 20000 in
theorem k_753 : Cond.code ⟨"TabledOriginModel", "oldest", "()I"⟩ prog_11_method_8_code 1 (some .int) ∈ zws := zin 753 (by rfl) rfl
theorem k_754 : Cond.methodLink "TabledOriginModel" 135 ⟨"TabledOriginModel", "uses", "(II)I"⟩ ∈ zws := zin 754 (by decide +kernel) rfl
theorem k_756 : Cond.instanceMethod ⟨"TabledOriginModel", "uses", "(II)I"⟩ ∈ zws := zin 756 (by decide +kernel) rfl
set_option maxRecDepth 20000 in
theorem k_757 : Cond.code ⟨"TabledOriginModel", "uses", "(II)I"⟩ prog_11_method_7_code 7 (some .int) ∈ zws := zin 757 (by rfl) rfl
theorem k_759 : Cond.instanceMethod ⟨"TabledOriginModel", "feedback", "()I"⟩ ∈ zws := zin 759 (by decide +kernel) rfl
theorem k_760 : Cond.selects "TabledOriginModel" ⟨"TabledOriginModel", "feedback", "()I"⟩ ⟨"TabledOriginModel", "feedback", "()I"⟩ ∈ zws := zin 760 (by decide +kernel) rfl
set_option maxRecDepth 20000 in
theorem k_761 : Cond.code ⟨"TabledOriginModel", "feedback", "()I"⟩ prog_11_method_16_code 1 (some .int) ∈ zws := zin 761 (by rfl) rfl
theorem k_763 : Cond.instanceMethod ⟨"TabledOriginModel", "goaway", "()I"⟩ ∈ zws := zin 763 (by decide +kernel) rfl
theorem k_764 : Cond.selects "TabledOriginModel" ⟨"TabledOriginModel", "goaway", "()I"⟩ ⟨"TabledOriginModel", "goaway", "()I"⟩ ∈ zws := zin 764 (by decide +kernel) rfl
set_option maxRecDepth 20000 in
theorem k_765 : Cond.code ⟨"TabledOriginModel", "goaway", "()I"⟩ prog_11_method_17_code 1 (some .int) ∈ zws := zin 765 (by rfl) rfl
theorem k_767 : Cond.instanceMethod ⟨"TabledOriginModel", "get", "(I)I"⟩ ∈ zws := zin 767 (by decide +kernel) rfl
theorem k_768 : Cond.selects "TabledOriginModel" ⟨"TabledOriginModel", "get", "(I)I"⟩ ⟨"TabledOriginModel", "get", "(I)I"⟩ ∈ zws := zin 768 (by decide +kernel) rfl
set_option maxRecDepth 20000 in
theorem k_769 : Cond.code ⟨"TabledOriginModel", "get", "(I)I"⟩ prog_11_method_19_code 2 (some .int) ∈ zws := zin 769 (by rfl) rfl
theorem k_770 : Cond.methodLink "TabledOriginModel" 167 ⟨"TabledOriginModel", "ask", "(IZII)I"⟩ ∈ zws := zin 770 (by decide +kernel) rfl
theorem k_772 : Cond.instanceMethod ⟨"TabledOriginModel", "ask", "(IZII)I"⟩ ∈ zws := zin 772 (by decide +kernel) rfl
set_option maxRecDepth 20000 in
theorem k_773 : Cond.code ⟨"TabledOriginModel", "ask", "(IZII)I"⟩ prog_11_method_18_code 7 (some .int) ∈ zws := zin 773 (by rfl) rfl
theorem k_775 : Cond.instanceMethod ⟨"TabledOriginModel", "replace", "(III)I"⟩ ∈ zws := zin 775 (by decide +kernel) rfl
theorem k_776 : Cond.selects "TabledOriginModel" ⟨"TabledOriginModel", "replace", "(III)I"⟩ ⟨"TabledOriginModel", "replace", "(III)I"⟩ ∈ zws := zin 776 (by decide +kernel) rfl
set_option maxRecDepth 20000 in
theorem k_777 : Cond.code ⟨"TabledOriginModel", "replace", "(III)I"⟩ prog_11_method_20_code 4 (some .int) ∈ zws := zin 777 (by rfl) rfl
theorem k_779 : Cond.instanceMethod ⟨"TabledOriginModel", "reply", "(I)I"⟩ ∈ zws := zin 779 (by decide +kernel) rfl
theorem k_780 : Cond.selects "TabledOriginModel" ⟨"TabledOriginModel", "reply", "(I)I"⟩ ⟨"TabledOriginModel", "reply", "(I)I"⟩ ∈ zws := zin 780 (by decide +kernel) rfl
set_option maxRecDepth 20000 in
theorem k_781 : Cond.code ⟨"TabledOriginModel", "reply", "(I)I"⟩ prog_11_method_22_code 2 (some .int) ∈ zws := zin 781 (by rfl) rfl
theorem k_782 : Cond.methodLink "TabledOriginModel" 178 ⟨"TabledOriginModel", "read", "(I)I"⟩ ∈ zws := zin 782 (by decide +kernel) rfl
theorem k_784 : Cond.instanceMethod ⟨"TabledOriginModel", "read", "(I)I"⟩ ∈ zws := zin 784 (by decide +kernel) rfl
set_option maxRecDepth 20000 in
theorem k_785 : Cond.code ⟨"TabledOriginModel", "read", "(I)I"⟩ prog_11_method_21_code 5 (some .int) ∈ zws := zin 785 (by rfl) rfl
theorem k_786 : Cond.methodLink "TabledOriginModel" 171 ⟨"TabledOriginModel", "tell", "(II)V"⟩ ∈ zws := zin 786 (by decide +kernel) rfl
theorem k_788 : Cond.instanceMethod ⟨"TabledOriginModel", "tell", "(II)V"⟩ ∈ zws := zin 788 (by decide +kernel) rfl
set_option maxRecDepth 20000 in
theorem k_789 : Cond.code ⟨"TabledOriginModel", "tell", "(II)V"⟩ prog_11_method_9_code 3 none ∈ zws := zin 789 (by rfl) rfl
theorem k_791 : Cond.instanceMethod ⟨"TabledOriginModel", "insert", "()I"⟩ ∈ zws := zin 791 (by decide +kernel) rfl
theorem k_792 : Cond.selects "TabledOriginModel" ⟨"TabledOriginModel", "insert", "()I"⟩ ⟨"TabledOriginModel", "insert", "()I"⟩ ∈ zws := zin 792 (by decide +kernel) rfl
set_option maxRecDepth 20000 in
theorem k_793 : Cond.code ⟨"TabledOriginModel", "insert", "()I"⟩ prog_11_method_23_code 4 (some .int) ∈ zws := zin 793 (by rfl) rfl
theorem k_795 : Cond.instanceMethod ⟨"TabledOriginModel", "report", "()Z"⟩ ∈ zws := zin 795 (by decide +kernel) rfl
theorem k_796 : Cond.selects "TabledOriginModel" ⟨"TabledOriginModel", "report", "()Z"⟩ ⟨"TabledOriginModel", "report", "()Z"⟩ ∈ zws := zin 796 (by decide +kernel) rfl
set_option maxRecDepth 20000 in
theorem k_797 : Cond.code ⟨"TabledOriginModel", "report", "()Z"⟩ prog_11_method_24_code 2 (some .boolean) ∈ zws := zin 797 (by rfl) rfl
theorem k_799 : Cond.instanceMethod ⟨"TabledOriginModel", "notice", "()I"⟩ ∈ zws := zin 799 (by decide +kernel) rfl
theorem k_800 : Cond.selects "TabledOriginModel" ⟨"TabledOriginModel", "notice", "()I"⟩ ⟨"TabledOriginModel", "notice", "()I"⟩ ∈ zws := zin 800 (by decide +kernel) rfl
set_option maxRecDepth 20000 in
theorem k_801 : Cond.code ⟨"TabledOriginModel", "notice", "()I"⟩ prog_11_method_25_code 3 (some .int) ∈ zws := zin 801 (by rfl) rfl
theorem k_803 : Cond.instanceMethod ⟨"TabledOriginModel", "cancel", "(I)Z"⟩ ∈ zws := zin 803 (by decide +kernel) rfl
theorem k_804 : Cond.selects "TabledOriginModel" ⟨"TabledOriginModel", "cancel", "(I)Z"⟩ ⟨"TabledOriginModel", "cancel", "(I)Z"⟩ ∈ zws := zin 804 (by decide +kernel) rfl
set_option maxRecDepth 20000 in
theorem k_805 : Cond.code ⟨"TabledOriginModel", "cancel", "(I)Z"⟩ prog_11_method_26_code 2 (some .boolean) ∈ zws := zin 805 (by rfl) rfl
theorem k_807 : Cond.instanceMethod ⟨"TabledOriginModel", "tick", "(I)Z"⟩ ∈ zws := zin 807 (by decide +kernel) rfl
theorem k_808 : Cond.selects "TabledOriginModel" ⟨"TabledOriginModel", "tick", "(I)Z"⟩ ⟨"TabledOriginModel", "tick", "(I)Z"⟩ ∈ zws := zin 808 (by decide +kernel) rfl
set_option maxRecDepth 20000 in
theorem k_809 : Cond.code ⟨"TabledOriginModel", "tick", "(I)Z"⟩ prog_11_method_27_code 2 (some .boolean) ∈ zws := zin 809 (by rfl) rfl
theorem k_811 : Cond.instanceMethod ⟨"TabledOriginModel", "outcome", "(I)I"⟩ ∈ zws := zin 811 (by decide +kernel) rfl
theorem k_812 : Cond.selects "TabledOriginModel" ⟨"TabledOriginModel", "outcome", "(I)I"⟩ ⟨"TabledOriginModel", "outcome", "(I)I"⟩ ∈ zws := zin 812 (by decide +kernel) rfl
set_option maxRecDepth 20000 in
theorem k_813 : Cond.code ⟨"TabledOriginModel", "outcome", "(I)I"⟩ prog_11_method_28_code 2 (some .int) ∈ zws := zin 813 (by rfl) rfl
theorem k_815 : Cond.instanceMethod ⟨"TabledOriginModel", "content", "(I)I"⟩ ∈ zws := zin 815 (by decide +kernel) rfl
theorem k_816 : Cond.selects "TabledOriginModel" ⟨"TabledOriginModel", "content", "(I)I"⟩ ⟨"TabledOriginModel", "content", "(I)I"⟩ ∈ zws := zin 816 (by decide +kernel) rfl
set_option maxRecDepth 20000 in
theorem k_817 : Cond.code ⟨"TabledOriginModel", "content", "(I)I"⟩ prog_11_method_29_code 3 (some .int) ∈ zws := zin 817 (by rfl) rfl
theorem k_819 : Cond.instanceMethod ⟨"TabledOriginModel", "stored", "(II)I"⟩ ∈ zws := zin 819 (by decide +kernel) rfl
theorem k_820 : Cond.selects "TabledOriginModel" ⟨"TabledOriginModel", "stored", "(II)I"⟩ ⟨"TabledOriginModel", "stored", "(II)I"⟩ ∈ zws := zin 820 (by decide +kernel) rfl
set_option maxRecDepth 20000 in
theorem k_821 : Cond.code ⟨"TabledOriginModel", "stored", "(II)I"⟩ prog_11_method_30_code 4 (some .int) ∈ zws := zin 821 (by rfl) rfl
theorem k_823 : Cond.instanceMethod ⟨"TabledOriginModel", "entry", "(II)I"⟩ ∈ zws := zin 823 (by decide +kernel) rfl
theorem k_824 : Cond.selects "TabledOriginModel" ⟨"TabledOriginModel", "entry", "(II)I"⟩ ⟨"TabledOriginModel", "entry", "(II)I"⟩ ∈ zws := zin 824 (by decide +kernel) rfl
set_option maxRecDepth 20000 in
theorem k_825 : Cond.code ⟨"TabledOriginModel", "entry", "(II)I"⟩ prog_11_method_31_code 4 (some .int) ∈ zws := zin 825 (by rfl) rfl
theorem k_827 : Cond.instanceMethod ⟨"TabledOriginModel", "count", "(I)I"⟩ ∈ zws := zin 827 (by decide +kernel) rfl
theorem k_828 : Cond.selects "TabledOriginModel" ⟨"TabledOriginModel", "count", "(I)I"⟩ ⟨"TabledOriginModel", "count", "(I)I"⟩ ∈ zws := zin 828 (by decide +kernel) rfl
set_option maxRecDepth 20000 in
theorem k_829 : Cond.code ⟨"TabledOriginModel", "count", "(I)I"⟩ prog_11_method_32_code 5 (some .int) ∈ zws := zin 829 (by rfl) rfl
theorem ks_0 : Cond.selects "TabledOrigin" ⟨"TabledOrigin", "makeRequest", "(IZII)I"⟩ ⟨"TabledOrigin", "makeRequest", "(IZII)I"⟩ ∈ zws := zsel 0 (by decide +kernel) rfl
theorem ks_1 : Cond.selects "TabledOrigin" ⟨"TabledOrigin", "requestAt", "(I)LTabledOrigin$Request;"⟩ ⟨"TabledOrigin", "requestAt", "(I)LTabledOrigin$Request;"⟩ ∈ zws := zsel 1 (by decide +kernel) rfl
theorem ks_2 : Cond.selects "TabledOrigin$Server" ⟨"TabledOrigin$Server", "answerPut", "(LTabledOrigin$Request;LTabledOrigin$Resource;)LTabledOrigin$Answer;"⟩ ⟨"TabledOrigin$Server", "answerPut", "(LTabledOrigin$Request;LTabledOrigin$Resource;)LTabledOrigin$Answer;"⟩ ∈ zws := zsel 2 (by decide +kernel) rfl
theorem ks_3 : Cond.selects "TabledOrigin$Table" ⟨"TabledOrigin$Table", "findLive", "(II)I"⟩ ⟨"TabledOrigin$Table", "findLive", "(II)I"⟩ ∈ zws := zsel 3 (by decide +kernel) rfl
theorem ks_4 : Cond.selects "TabledOrigin$Table" ⟨"TabledOrigin$Table", "refer", "(LTabledOrigin$Answer;I)V"⟩ ⟨"TabledOrigin$Table", "refer", "(LTabledOrigin$Answer;I)V"⟩ ∈ zws := zsel 4 (by decide +kernel) rfl
theorem ks_5 : Cond.selects "TabledOrigin$Table" ⟨"TabledOrigin$Table", "hasRoomFor", "(LTabledOrigin$Answer;)Z"⟩ ⟨"TabledOrigin$Table", "hasRoomFor", "(LTabledOrigin$Answer;)Z"⟩ ∈ zws := zsel 5 (by decide +kernel) rfl
theorem ks_6 : Cond.selects "TabledOrigin$Table" ⟨"TabledOrigin$Table", "makeEntry", "(II)I"⟩ ⟨"TabledOrigin$Table", "makeEntry", "(II)I"⟩ ∈ zws := zsel 6 (by decide +kernel) rfl
theorem ks_7 : Cond.selects "TabledOrigin$Server" ⟨"TabledOrigin$Server", "answerGet", "(LTabledOrigin$Request;LTabledOrigin$Resource;)LTabledOrigin$Answer;"⟩ ⟨"TabledOrigin$Server", "answerGet", "(LTabledOrigin$Request;LTabledOrigin$Resource;)LTabledOrigin$Answer;"⟩ ∈ zws := zsel 7 (by decide +kernel) rfl
theorem ks_8 : Cond.selects "TabledOrigin$Client" ⟨"TabledOrigin$Client", "store", "(LTabledOrigin$StoredAnswer;LTabledOrigin$Request;LTabledOrigin$Answer;)V"⟩ ⟨"TabledOrigin$Client", "store", "(LTabledOrigin$StoredAnswer;LTabledOrigin$Request;LTabledOrigin$Answer;)V"⟩ ∈ zws := zsel 8 (by decide +kernel) rfl
theorem ks_9 : Cond.selects "TabledOrigin$Client" ⟨"TabledOrigin$Client", "renew", "(LTabledOrigin$StoredAnswer;LTabledOrigin$Request;LTabledOrigin$Answer;)V"⟩ ⟨"TabledOrigin$Client", "renew", "(LTabledOrigin$StoredAnswer;LTabledOrigin$Request;LTabledOrigin$Answer;)V"⟩ ∈ zws := zsel 9 (by decide +kernel) rfl
theorem ks_10 : Cond.selects "TabledOrigin$Client" ⟨"TabledOrigin$Client", "acknowledge", "(LTabledOrigin$Request;LTabledOrigin$Answer;LTabledOrigin$FeedbackRoad;)V"⟩ ⟨"TabledOrigin$Client", "acknowledge", "(LTabledOrigin$Request;LTabledOrigin$Answer;LTabledOrigin$FeedbackRoad;)V"⟩ ∈ zws := zsel 10 (by decide +kernel) rfl
theorem ks_11 : Cond.selects "TabledOrigin" ⟨"TabledOrigin", "readUnblocked", "()I"⟩ ⟨"TabledOrigin", "readUnblocked", "()I"⟩ ∈ zws := zsel 11 (by decide +kernel) rfl
theorem ks_12 : Cond.selects "TabledOrigin" ⟨"TabledOrigin", "endOutstanding", "(IZ)V"⟩ ⟨"TabledOrigin", "endOutstanding", "(IZ)V"⟩ ∈ zws := zsel 12 (by decide +kernel) rfl
theorem ks_13 : Cond.selects "TabledOrigin" ⟨"TabledOrigin", "refuseFrom", "(I)I"⟩ ⟨"TabledOrigin", "refuseFrom", "(I)I"⟩ ∈ zws := zsel 13 (by decide +kernel) rfl
theorem ks_14 : Cond.selects "TabledOrigin" ⟨"TabledOrigin", "blockedAnswers", "()I"⟩ ⟨"TabledOrigin", "blockedAnswers", "()I"⟩ ∈ zws := zsel 14 (by decide +kernel) rfl
theorem ks_15 : Cond.selects "TabledOriginModel" ⟨"TabledOriginModel", "write", "(III)I"⟩ ⟨"TabledOriginModel", "write", "(III)I"⟩ ∈ zws := zsel 15 (by decide +kernel) rfl
theorem ks_16 : Cond.selects "TabledOriginModel" ⟨"TabledOriginModel", "decide", "(I)I"⟩ ⟨"TabledOriginModel", "decide", "(I)I"⟩ ∈ zws := zsel 16 (by decide +kernel) rfl
theorem ks_17 : Cond.selects "TabledOriginModel" ⟨"TabledOriginModel", "field", "(III)V"⟩ ⟨"TabledOriginModel", "field", "(III)V"⟩ ∈ zws := zsel 17 (by decide +kernel) rfl
theorem ks_18 : Cond.selects "TabledOriginModel" ⟨"TabledOriginModel", "after", "(I)I"⟩ ⟨"TabledOriginModel", "after", "(I)I"⟩ ∈ zws := zsel 18 (by decide +kernel) rfl
theorem ks_19 : Cond.selects "TabledOriginModel" ⟨"TabledOriginModel", "need", "(I)I"⟩ ⟨"TabledOriginModel", "need", "(I)I"⟩ ∈ zws := zsel 19 (by decide +kernel) rfl
theorem ks_20 : Cond.selects "TabledOriginModel" ⟨"TabledOriginModel", "risky", "(II)I"⟩ ⟨"TabledOriginModel", "risky", "(II)I"⟩ ∈ zws := zsel 20 (by decide +kernel) rfl
theorem ks_21 : Cond.selects "TabledOriginModel" ⟨"TabledOriginModel", "outstanding", "(I)Z"⟩ ⟨"TabledOriginModel", "outstanding", "(I)Z"⟩ ∈ zws := zsel 21 (by decide +kernel) rfl
theorem ks_22 : Cond.selects "TabledOriginModel" ⟨"TabledOriginModel", "oldest", "()I"⟩ ⟨"TabledOriginModel", "oldest", "()I"⟩ ∈ zws := zsel 22 (by decide +kernel) rfl
theorem ks_23 : Cond.selects "TabledOriginModel" ⟨"TabledOriginModel", "uses", "(II)I"⟩ ⟨"TabledOriginModel", "uses", "(II)I"⟩ ∈ zws := zsel 23 (by decide +kernel) rfl
theorem ks_24 : Cond.selects "TabledOriginModel" ⟨"TabledOriginModel", "ask", "(IZII)I"⟩ ⟨"TabledOriginModel", "ask", "(IZII)I"⟩ ∈ zws := zsel 24 (by decide +kernel) rfl
theorem ks_25 : Cond.selects "TabledOriginModel" ⟨"TabledOriginModel", "read", "(I)I"⟩ ⟨"TabledOriginModel", "read", "(I)I"⟩ ∈ zws := zsel 25 (by decide +kernel) rfl
theorem ks_26 : Cond.selects "TabledOriginModel" ⟨"TabledOriginModel", "tell", "(II)V"⟩ ⟨"TabledOriginModel", "tell", "(II)V"⟩ ∈ zws := zsel 26 (by decide +kernel) rfl
theorem in_0 : ∀ w ∈ u_ws fR_0 fT_0 10, w ∈ zws := by
  intro w hw
  obtain ⟨k, hk, rfl⟩ := List.mem_map.mp hw
  have hk := List.mem_range.mp hk
  match k, hk with
  | 0, _ => exact k_355
  | 1, _ => exact k_357
  | 2, _ => exact k_359
  | 3, _ => exact k_361
  | 4, _ => exact k_363
  | 5, _ => exact k_365
  | 6, _ => exact k_367
  | 7, _ => exact k_369
  | 8, _ => exact k_371
  | 9, _ => exact k_373
  | n + 10, hk => exact absurd hk (by omega)
theorem in_1 : ∀ w ∈ u_ws fR_1 fT_1 4, w ∈ zws := by
  intro w hw
  obtain ⟨k, hk, rfl⟩ := List.mem_map.mp hw
  have hk := List.mem_range.mp hk
  match k, hk with
  | 0, _ => exact k_155
  | 1, _ => exact k_157
  | 2, _ => exact k_159
  | 3, _ => exact k_161
  | n + 4, hk => exact absurd hk (by omega)
theorem in_2 : ∀ w ∈ u_ws fR_2 fT_2 4, w ∈ zws := by
  intro w hw
  obtain ⟨k, hk, rfl⟩ := List.mem_map.mp hw
  have hk := List.mem_range.mp hk
  match k, hk with
  | 0, _ => exact k_174
  | 1, _ => exact k_176
  | 2, _ => exact k_178
  | 3, _ => exact k_180
  | n + 4, hk => exact absurd hk (by omega)
theorem in_3 : ∀ w ∈ u_ws fR_3 fT_3 12, w ∈ zws := by
  intro w hw
  obtain ⟨k, hk, rfl⟩ := List.mem_map.mp hw
  have hk := List.mem_range.mp hk
  match k, hk with
  | 0, _ => exact k_267
  | 1, _ => exact k_269
  | 2, _ => exact k_271
  | 3, _ => exact k_273
  | 4, _ => exact k_275
  | 5, _ => exact k_277
  | 6, _ => exact k_279
  | 7, _ => exact k_281
  | 8, _ => exact k_283
  | 9, _ => exact k_285
  | 10, _ => exact k_287
  | 11, _ => exact k_289
  | n + 12, hk => exact absurd hk (by omega)
theorem in_4 : ∀ w ∈ u_ws fR_4 fT_4 4, w ∈ zws := by
  intro w hw
  obtain ⟨k, hk, rfl⟩ := List.mem_map.mp hw
  have hk := List.mem_range.mp hk
  match k, hk with
  | 0, _ => exact k_39
  | 1, _ => exact k_41
  | 2, _ => exact k_43
  | 3, _ => exact k_45
  | n + 4, hk => exact absurd hk (by omega)
theorem in_5 : ∀ w ∈ u_ws fR_5 fT_5 6, w ∈ zws := by
  intro w hw
  obtain ⟨k, hk, rfl⟩ := List.mem_map.mp hw
  have hk := List.mem_range.mp hk
  match k, hk with
  | 0, _ => exact k_95
  | 1, _ => exact k_97
  | 2, _ => exact k_99
  | 3, _ => exact k_101
  | 4, _ => exact k_103
  | 5, _ => exact k_105
  | n + 6, hk => exact absurd hk (by omega)
theorem in_6 : ∀ w ∈ u_ws fR_6 fT_6 6, w ∈ zws := by
  intro w hw
  obtain ⟨k, hk, rfl⟩ := List.mem_map.mp hw
  have hk := List.mem_range.mp hk
  match k, hk with
  | 0, _ => exact k_135
  | 1, _ => exact k_137
  | 2, _ => exact k_139
  | 3, _ => exact k_141
  | 4, _ => exact k_143
  | 5, _ => exact k_145
  | n + 6, hk => exact absurd hk (by omega)
theorem in_7 : ∀ w ∈ u_ws fR_7 fT_7 8, w ∈ zws := by
  intro w hw
  obtain ⟨k, hk, rfl⟩ := List.mem_map.mp hw
  have hk := List.mem_range.mp hk
  match k, hk with
  | 0, _ => exact k_68
  | 1, _ => exact k_70
  | 2, _ => exact k_72
  | 3, _ => exact k_74
  | 4, _ => exact k_76
  | 5, _ => exact k_78
  | 6, _ => exact k_80
  | 7, _ => exact k_82
  | n + 8, hk => exact absurd hk (by omega)
theorem in_8 : ∀ w ∈ u_ws fR_8 fT_8 6, w ∈ zws := by
  intro w hw
  obtain ⟨k, hk, rfl⟩ := List.mem_map.mp hw
  have hk := List.mem_range.mp hk
  match k, hk with
  | 0, _ => exact k_191
  | 1, _ => exact k_193
  | 2, _ => exact k_195
  | 3, _ => exact k_197
  | 4, _ => exact k_199
  | 5, _ => exact k_201
  | n + 6, hk => exact absurd hk (by omega)
theorem in_9 : ∀ w ∈ u_ws fR_9 fT_9 40, w ∈ zws := by
  intro w hw
  obtain ⟨k, hk, rfl⟩ := List.mem_map.mp hw
  have hk := List.mem_range.mp hk
  match k, hk with
  | 0, _ => exact k_625
  | 1, _ => exact k_627
  | 2, _ => exact k_629
  | 3, _ => exact k_631
  | 4, _ => exact k_633
  | 5, _ => exact k_635
  | 6, _ => exact k_637
  | 7, _ => exact k_639
  | 8, _ => exact k_641
  | 9, _ => exact k_643
  | 10, _ => exact k_645
  | 11, _ => exact k_647
  | 12, _ => exact k_649
  | 13, _ => exact k_651
  | 14, _ => exact k_653
  | 15, _ => exact k_655
  | 16, _ => exact k_657
  | 17, _ => exact k_659
  | 18, _ => exact k_661
  | 19, _ => exact k_663
  | 20, _ => exact k_665
  | 21, _ => exact k_667
  | 22, _ => exact k_669
  | 23, _ => exact k_671
  | 24, _ => exact k_673
  | 25, _ => exact k_675
  | 26, _ => exact k_677
  | 27, _ => exact k_679
  | 28, _ => exact k_681
  | 29, _ => exact k_683
  | 30, _ => exact k_685
  | 31, _ => exact k_687
  | 32, _ => exact k_689
  | 33, _ => exact k_691
  | 34, _ => exact k_693
  | 35, _ => exact k_695
  | 36, _ => exact k_697
  | 37, _ => exact k_699
  | 38, _ => exact k_701
  | 39, _ => exact k_703
  | n + 40, hk => exact absurd hk (by omega)
theorem df_0 : ∀ j, j < 10 → defaultValue (ty_0 j) = vp_V ([.int 0, .null, .int 0, .int 0, .int 0, .int 0, .int 0, .int 0, .int 0, .int 0] : List Value) j := by decide +kernel
theorem df_1 : ∀ j, j < 4 → defaultValue (ty_1 j) = vp_V ([.null, .int 0, .int 0, .int 0] : List Value) j := by decide +kernel
theorem df_2 : ∀ j, j < 4 → defaultValue (ty_2 j) = vp_V ([.null, .null, .int 0, .int 0] : List Value) j := by decide +kernel
theorem df_3 : ∀ j, j < 12 → defaultValue (ty_3 j) = vp_V ([.int 0, .int 0, .int 0, .int 0, .int 0, .int 0, .int 0, .int 0, .int 0, .int 0, .int 0, .null] : List Value) j := by decide +kernel
theorem df_4 : ∀ j, j < 4 → defaultValue (ty_4 j) = vp_V ([.int 0, .int 0, .int 0, .int 0] : List Value) j := by decide +kernel
theorem df_5 : ∀ j, j < 6 → defaultValue (ty_5 j) = vp_V ([.null, .null, .int 0, .int 0, .int 0, .int 0] : List Value) j := by decide +kernel
theorem df_6 : ∀ j, j < 6 → defaultValue (ty_6 j) = vp_V ([.int 0, .int 0, .int 0, .int 0, .int 0, .int 0] : List Value) j := by decide +kernel
theorem df_7 : ∀ j, j < 8 → defaultValue (ty_7 j) = vp_V ([.null, .null, .null, .int 0, .int 0, .int 0, .int 0, .int 0] : List Value) j := by decide +kernel
theorem df_8 : ∀ j, j < 6 → defaultValue (ty_8 j) = vp_V ([.null, .null, .null, .null, .int 0, .int 0] : List Value) j := by decide +kernel
theorem df_9 : ∀ j, j < 40 → defaultValue (ty_9 j) = vp_V ([.null, .null, .null, .null, .int 0, .int 0, .int 0, .null, .null, .null, .null, .null, .null, .null, .null, .null, .null, .null, .null, .null, .null, .null, .null, .null, .null, .null, .null, .null, .int 0, .int 0, .int 0, .int 0, .null, .null, .int 0, .int 0, .int 0, .int 0, .int 0, .int 0] : List Value) j := by decide +kernel
end
section
abbrev y_A_init : MethodName := ⟨"TabledOrigin$Answer", "<init>", "(I)V"⟩
abbrev rm_A_init : Room := { frames := 1, cells := 1, slots := 3, locals := 12 }
theorem hd_A_init : y_A_init.cls ≠ "java/lang/invoke/MethodHandle" ∧ y_A_init.cls ≠ "java/lang/invoke/VarHandle" ∧ (parseMethodDescriptor y_A_init.desc).map (fun d => d.parameters.length) = some 1 := by decide +kernel
theorem cw_A_init {R : Room} {s : State} {args : Array Value} {own : String} {index : Nat} (hW : ∀ w ∈ zws, w.before args s = true) (hl : Cond.methodLink own index y_A_init ∈ zws) (hR : rm_A_init.frames + 1 ≤ R.frames ∧ 8 + (2 + 11) + rm_A_init.locals ≤ R.locals) : CallB R s args own index y_A_init prog_2_method_1_code 2 none (Cond.code y_A_init prog_2_method_1_code 2 none :: zws) rm_A_init 1 3 1 ∧ y_A_init.name = "<init>" ∧ (Cond.instanceMethod y_A_init).before args s = true := cwI 1 hW (zgood k_332) rfl rfl rfl (hW _ k_11) (hW _ hl) (hW _ k_331) rfl hd_A_init hR
abbrev y_A_addReference : MethodName := ⟨"TabledOrigin$Answer", "addReference", "(I)V"⟩
abbrev rm_A_addReference : Room := { frames := 1, cells := 0, slots := 0, locals := 14 }
theorem hd_A_addReference : y_A_addReference.cls ≠ "java/lang/invoke/MethodHandle" ∧ y_A_addReference.cls ≠ "java/lang/invoke/VarHandle" ∧ (parseMethodDescriptor y_A_addReference.desc).map (fun d => d.parameters.length) = some 1 := by decide +kernel
theorem cw_A_addReference {R : Room} {s : State} {args : Array Value} {own : String} {index : Nat} (hW : ∀ w ∈ zws, w.before args s = true) (hl : Cond.methodLink own index y_A_addReference ∈ zws) (hR : rm_A_addReference.frames + 1 ≤ R.frames ∧ 8 + (2 + 11) + rm_A_addReference.locals ≤ R.locals) : CallW R s args own "TabledOrigin$Answer" index y_A_addReference prog_2_method_2_code 2 none (Cond.code y_A_addReference prog_2_method_2_code 2 none :: zws) rm_A_addReference 0 0 1 := ⟨callB_of 1 hW (zgood k_418) rfl rfl rfl (hW _ k_11) (hW _ hl) hd_A_addReference hR, hW _ k_416, hW _ k_417⟩
abbrev y_A_refersTo : MethodName := ⟨"TabledOrigin$Answer", "refersTo", "(I)Z"⟩
abbrev rm_A_refersTo : Room := { frames := 0, cells := 0, slots := 0, locals := 0 }
theorem hd_A_refersTo : y_A_refersTo.cls ≠ "java/lang/invoke/MethodHandle" ∧ y_A_refersTo.cls ≠ "java/lang/invoke/VarHandle" ∧ (parseMethodDescriptor y_A_refersTo.desc).map (fun d => d.parameters.length) = some 1 := by decide +kernel
theorem cw_A_refersTo {R : Room} {s : State} {args : Array Value} {own : String} {index : Nat} (hW : ∀ w ∈ zws, w.before args s = true) (hl : Cond.methodLink own index y_A_refersTo ∈ zws) (hR : rm_A_refersTo.frames + 1 ≤ R.frames ∧ 8 + (3 + 11) + rm_A_refersTo.locals ≤ R.locals) : CallW R s args own "TabledOrigin$Answer" index y_A_refersTo prog_2_method_3_code 3 (some .boolean) (Cond.code y_A_refersTo prog_2_method_3_code 3 (some .boolean) :: zws) rm_A_refersTo 0 0 1 := ⟨callB_of 1 hW (zgood k_431) rfl rfl rfl (hW _ k_11) (hW _ hl) hd_A_refersTo hR, hW _ k_429, hW _ k_430⟩
abbrev y_K_init : MethodName := ⟨"TabledOrigin$StoredAnswer", "<init>", "()V"⟩
abbrev rm_K_init : Room := { frames := 1, cells := 0, slots := 0, locals := 12 }
theorem hd_K_init : y_K_init.cls ≠ "java/lang/invoke/MethodHandle" ∧ y_K_init.cls ≠ "java/lang/invoke/VarHandle" ∧ (parseMethodDescriptor y_K_init.desc).map (fun d => d.parameters.length) = some 0 := by decide +kernel
theorem cw_K_init {R : Room} {s : State} {args : Array Value} {own : String} {index : Nat} (hW : ∀ w ∈ zws, w.before args s = true) (hl : va_Nw (.methodLinkNest own index y_K_init "TabledOrigin") s) (hR : rm_K_init.frames + 1 ≤ R.frames ∧ 8 + (1 + 11) + rm_K_init.locals ≤ R.locals) : va_CN R s args own index y_K_init "TabledOrigin" prog_8_method_1_code 1 none (Cond.code y_K_init prog_8_method_1_code 1 none :: zws) rm_K_init 0 0 0 ∧ y_K_init.name = "<init>" ∧ (Cond.instanceMethod y_K_init).before args s = true := ⟨va_cnB 0 hW (zgood k_119) rfl rfl rfl hl (hW _ k_6) hd_K_init hR, rfl, hW _ k_118⟩
abbrev y_C_init : MethodName := ⟨"TabledOrigin$Client", "<init>", "()V"⟩
abbrev rm_C_init : Room := { frames := 2, cells := 8, slots := 48, locals := 32 }
theorem hd_C_init : y_C_init.cls ≠ "java/lang/invoke/MethodHandle" ∧ y_C_init.cls ≠ "java/lang/invoke/VarHandle" ∧ (parseMethodDescriptor y_C_init.desc).map (fun d => d.parameters.length) = some 0 := by decide +kernel
theorem cw_C_init {R : Room} {s : State} {args : Array Value} {own : String} {index : Nat} (hW : ∀ w ∈ zws, w.before args s = true) (hl : Cond.methodLink own index y_C_init ∈ zws) (hR : rm_C_init.frames + 1 ≤ R.frames ∧ 8 + (2 + 11) + rm_C_init.locals ≤ R.locals) : CallB R s args own index y_C_init prog_3_method_1_code 2 none (Cond.code y_C_init prog_3_method_1_code 2 none :: zws) rm_C_init 8 48 0 ∧ y_C_init.name = "<init>" ∧ (Cond.instanceMethod y_C_init).before args s = true := cwI 0 hW (zgood k_112) rfl rfl rfl (hW _ k_5) (hW _ hl) (hW _ k_111) rfl hd_C_init hR
abbrev y_C_storedAt : MethodName := ⟨"TabledOrigin$Client", "storedAt", "(I)LTabledOrigin$StoredAnswer;"⟩
abbrev rm_C_storedAt : Room := { frames := 0, cells := 0, slots := 0, locals := 0 }
theorem hd_C_storedAt : y_C_storedAt.cls ≠ "java/lang/invoke/MethodHandle" ∧ y_C_storedAt.cls ≠ "java/lang/invoke/VarHandle" ∧ (parseMethodDescriptor y_C_storedAt.desc).map (fun d => d.parameters.length) = some 1 := by decide +kernel
theorem cw_C_storedAt {R : Room} {s : State} {args : Array Value} {own : String} {index : Nat} (hW : ∀ w ∈ zws, w.before args s = true) (hl : Cond.methodLink own index y_C_storedAt ∈ zws) (hR : rm_C_storedAt.frames + 1 ≤ R.frames ∧ 8 + (2 + 11) + rm_C_storedAt.locals ≤ R.locals) : CallW R s args own "TabledOrigin$Client" index y_C_storedAt prog_3_method_2_code 2 (some (.object "TabledOrigin$StoredAnswer")) (Cond.code y_C_storedAt prog_3_method_2_code 2 (some (.object "TabledOrigin$StoredAnswer")) :: zws) rm_C_storedAt 0 0 1 := ⟨callB_of 1 hW (zgood k_234) rfl rfl rfl (hW _ k_5) (hW _ hl) hd_C_storedAt hR, hW _ k_232, hW _ k_233⟩
abbrev y_K_isFresh : MethodName := ⟨"TabledOrigin$StoredAnswer", "isFresh", "(I)Z"⟩
abbrev rm_K_isFresh : Room := { frames := 0, cells := 0, slots := 0, locals := 0 }
theorem hd_K_isFresh : y_K_isFresh.cls ≠ "java/lang/invoke/MethodHandle" ∧ y_K_isFresh.cls ≠ "java/lang/invoke/VarHandle" ∧ (parseMethodDescriptor y_K_isFresh.desc).map (fun d => d.parameters.length) = some 1 := by decide +kernel
theorem cw_K_isFresh {R : Room} {s : State} {args : Array Value} {own : String} {index : Nat} (hW : ∀ w ∈ zws, w.before args s = true) (hl : Cond.methodLink own index y_K_isFresh ∈ zws) (hR : rm_K_isFresh.frames + 1 ≤ R.frames ∧ 8 + (2 + 11) + rm_K_isFresh.locals ≤ R.locals) : CallW R s args own "TabledOrigin$StoredAnswer" index y_K_isFresh prog_8_method_2_code 2 (some .boolean) (Cond.code y_K_isFresh prog_8_method_2_code 2 (some .boolean) :: zws) rm_K_isFresh 0 0 1 := ⟨callB_of 1 hW (zgood k_299) rfl rfl rfl (hW _ k_6) (hW _ hl) hd_K_isFresh hR, hW _ k_297, hW _ k_298⟩
abbrev y_Q_settle : MethodName := ⟨"TabledOrigin$Request", "settle", "(II)V"⟩
abbrev rm_Q_settle : Room := { frames := 0, cells := 0, slots := 0, locals := 0 }
theorem hd_Q_settle : y_Q_settle.cls ≠ "java/lang/invoke/MethodHandle" ∧ y_Q_settle.cls ≠ "java/lang/invoke/VarHandle" ∧ (parseMethodDescriptor y_Q_settle.desc).map (fun d => d.parameters.length) = some 2 := by decide +kernel
theorem cw_Q_settle {R : Room} {s : State} {args : Array Value} {own : String} {index : Nat} (hW : ∀ w ∈ zws, w.before args s = true) (hl : Cond.methodLink own index y_Q_settle ∈ zws) (hR : rm_Q_settle.frames + 1 ≤ R.frames ∧ 8 + (3 + 11) + rm_Q_settle.locals ≤ R.locals) : CallW R s args own "TabledOrigin$Request" index y_Q_settle prog_5_method_2_code 3 none (Cond.code y_Q_settle prog_5_method_2_code 3 none :: zws) rm_Q_settle 0 0 2 := ⟨callB_of 2 hW (zgood k_303) rfl rfl rfl (hW _ k_9) (hW _ hl) hd_Q_settle hR, hW _ k_301, hW _ k_302⟩
abbrev y_C_begin : MethodName := ⟨"TabledOrigin$Client", "begin", "(LTabledOrigin$Request;LTabledOrigin$StoredAnswer;I)V"⟩
abbrev rm_C_begin : Room := { frames := 1, cells := 0, slots := 0, locals := 22 }
theorem hd_C_begin : y_C_begin.cls ≠ "java/lang/invoke/MethodHandle" ∧ y_C_begin.cls ≠ "java/lang/invoke/VarHandle" ∧ (parseMethodDescriptor y_C_begin.desc).map (fun d => d.parameters.length) = some 3 := by decide +kernel
theorem cw_C_begin {R : Room} {s : State} {args : Array Value} {own : String} {index : Nat} (hW : ∀ w ∈ zws, w.before args s = true) (hl : Cond.methodLink own index y_C_begin ∈ zws) (hR : rm_C_begin.frames + 1 ≤ R.frames ∧ 8 + (4 + 11) + rm_C_begin.locals ≤ R.locals) : CallW R s args own "TabledOrigin$Client" index y_C_begin prog_3_method_3_code 4 none (Cond.code y_C_begin prog_3_method_3_code 4 none :: zws) rm_C_begin 0 0 3 := ⟨callB_of 3 hW (zgood k_295) rfl rfl rfl (hW _ k_5) (hW _ hl) hd_C_begin hR, hW _ k_293, hW _ k_294⟩
abbrev y_C_mustWaitFor : MethodName := ⟨"TabledOrigin$Client", "mustWaitFor", "(LTabledOrigin$Answer;)Z"⟩
abbrev rm_C_mustWaitFor : Room := { frames := 0, cells := 0, slots := 0, locals := 0 }
theorem hd_C_mustWaitFor : y_C_mustWaitFor.cls ≠ "java/lang/invoke/MethodHandle" ∧ y_C_mustWaitFor.cls ≠ "java/lang/invoke/VarHandle" ∧ (parseMethodDescriptor y_C_mustWaitFor.desc).map (fun d => d.parameters.length) = some 1 := by decide +kernel
theorem cw_C_mustWaitFor {R : Room} {s : State} {args : Array Value} {own : String} {index : Nat} (hW : ∀ w ∈ zws, w.before args s = true) (hl : Cond.methodLink own index y_C_mustWaitFor ∈ zws) (hR : rm_C_mustWaitFor.frames + 1 ≤ R.frames ∧ 8 + (2 + 11) + rm_C_mustWaitFor.locals ≤ R.locals) : CallW R s args own "TabledOrigin$Client" index y_C_mustWaitFor prog_3_method_4_code 2 (some .boolean) (Cond.code y_C_mustWaitFor prog_3_method_4_code 2 (some .boolean) :: zws) rm_C_mustWaitFor 0 0 1 := ⟨callB_of 1 hW (zgood k_451) rfl rfl rfl (hW _ k_5) (hW _ hl) hd_C_mustWaitFor hR, hW _ k_449, hW _ k_450⟩
abbrev y_K_forgetIfOlderThan : MethodName := ⟨"TabledOrigin$StoredAnswer", "forgetIfOlderThan", "(I)V"⟩
abbrev rm_K_forgetIfOlderThan : Room := { frames := 0, cells := 0, slots := 0, locals := 0 }
theorem hd_K_forgetIfOlderThan : y_K_forgetIfOlderThan.cls ≠ "java/lang/invoke/MethodHandle" ∧ y_K_forgetIfOlderThan.cls ≠ "java/lang/invoke/VarHandle" ∧ (parseMethodDescriptor y_K_forgetIfOlderThan.desc).map (fun d => d.parameters.length) = some 1 := by decide +kernel
theorem cw_K_forgetIfOlderThan {R : Room} {s : State} {args : Array Value} {own : String} {index : Nat} (hW : ∀ w ∈ zws, w.before args s = true) (hl : Cond.methodLink own index y_K_forgetIfOlderThan ∈ zws) (hR : rm_K_forgetIfOlderThan.frames + 1 ≤ R.frames ∧ 8 + (2 + 11) + rm_K_forgetIfOlderThan.locals ≤ R.locals) : CallW R s args own "TabledOrigin$StoredAnswer" index y_K_forgetIfOlderThan prog_8_method_4_code 2 none (Cond.code y_K_forgetIfOlderThan prog_8_method_4_code 2 none :: zws) rm_K_forgetIfOlderThan 0 0 1 := ⟨callB_of 1 hW (zgood k_460) rfl rfl rfl (hW _ k_6) (hW _ hl) hd_K_forgetIfOlderThan hR, hW _ k_458, hW _ k_459⟩
abbrev y_C_store : MethodName := ⟨"TabledOrigin$Client", "store", "(LTabledOrigin$StoredAnswer;LTabledOrigin$Request;LTabledOrigin$Answer;)V"⟩
abbrev rm_C_store : Room := { frames := 0, cells := 0, slots := 0, locals := 0 }
theorem hd_C_store : y_C_store.cls ≠ "java/lang/invoke/MethodHandle" ∧ y_C_store.cls ≠ "java/lang/invoke/VarHandle" ∧ (parseMethodDescriptor y_C_store.desc).map (fun d => d.parameters.length) = some 3 := by decide +kernel
theorem cw_C_store {R : Room} {s : State} {args : Array Value} {own : String} {index : Nat} (hW : ∀ w ∈ zws, w.before args s = true) (hl : Cond.methodLink own index y_C_store ∈ zws) (hR : rm_C_store.frames + 1 ≤ R.frames ∧ 8 + (4 + 11) + rm_C_store.locals ≤ R.locals) : CallW R s args own "TabledOrigin$Client" index y_C_store prog_3_method_6_code 4 none (Cond.code y_C_store prog_3_method_6_code 4 none :: zws) rm_C_store 0 0 3 := ⟨callB_of 3 hW (zgood k_464) rfl rfl rfl (hW _ k_5) (hW _ hl) hd_C_store hR, hW _ k_463, hW _ ks_8⟩
abbrev y_C_renew : MethodName := ⟨"TabledOrigin$Client", "renew", "(LTabledOrigin$StoredAnswer;LTabledOrigin$Request;LTabledOrigin$Answer;)V"⟩
abbrev rm_C_renew : Room := { frames := 0, cells := 0, slots := 0, locals := 0 }
theorem hd_C_renew : y_C_renew.cls ≠ "java/lang/invoke/MethodHandle" ∧ y_C_renew.cls ≠ "java/lang/invoke/VarHandle" ∧ (parseMethodDescriptor y_C_renew.desc).map (fun d => d.parameters.length) = some 3 := by decide +kernel
theorem cw_C_renew {R : Room} {s : State} {args : Array Value} {own : String} {index : Nat} (hW : ∀ w ∈ zws, w.before args s = true) (hl : Cond.methodLink own index y_C_renew ∈ zws) (hR : rm_C_renew.frames + 1 ≤ R.frames ∧ 8 + (4 + 11) + rm_C_renew.locals ≤ R.locals) : CallW R s args own "TabledOrigin$Client" index y_C_renew prog_3_method_7_code 4 none (Cond.code y_C_renew prog_3_method_7_code 4 none :: zws) rm_C_renew 0 0 3 := ⟨callB_of 3 hW (zgood k_468) rfl rfl rfl (hW _ k_5) (hW _ hl) hd_C_renew hR, hW _ k_467, hW _ ks_9⟩
abbrev y_F_append : MethodName := ⟨"TabledOrigin$FeedbackRoad", "append", "(II)V"⟩
abbrev rm_F_append : Room := { frames := 0, cells := 0, slots := 0, locals := 0 }
theorem hd_F_append : y_F_append.cls ≠ "java/lang/invoke/MethodHandle" ∧ y_F_append.cls ≠ "java/lang/invoke/VarHandle" ∧ (parseMethodDescriptor y_F_append.desc).map (fun d => d.parameters.length) = some 2 := by decide +kernel
theorem cw_F_append {R : Room} {s : State} {args : Array Value} {own : String} {index : Nat} (hW : ∀ w ∈ zws, w.before args s = true) (hl : Cond.methodLink own index y_F_append ∈ zws) (hR : rm_F_append.frames + 1 ≤ R.frames ∧ 8 + (3 + 11) + rm_F_append.locals ≤ R.locals) : CallW R s args own "TabledOrigin$FeedbackRoad" index y_F_append prog_4_method_2_code 3 none (Cond.code y_F_append prog_4_method_2_code 3 none :: zws) rm_F_append 0 0 2 := ⟨callB_of 2 hW (zgood k_476) rfl rfl rfl (hW _ k_7) (hW _ hl) hd_F_append hR, hW _ k_474, hW _ k_475⟩
abbrev y_C_acknowledge : MethodName := ⟨"TabledOrigin$Client", "acknowledge", "(LTabledOrigin$Request;LTabledOrigin$Answer;LTabledOrigin$FeedbackRoad;)V"⟩
abbrev rm_C_acknowledge : Room := { frames := 1, cells := 0, slots := 0, locals := 22 }
theorem hd_C_acknowledge : y_C_acknowledge.cls ≠ "java/lang/invoke/MethodHandle" ∧ y_C_acknowledge.cls ≠ "java/lang/invoke/VarHandle" ∧ (parseMethodDescriptor y_C_acknowledge.desc).map (fun d => d.parameters.length) = some 3 := by decide +kernel
theorem cw_C_acknowledge {R : Room} {s : State} {args : Array Value} {own : String} {index : Nat} (hW : ∀ w ∈ zws, w.before args s = true) (hl : Cond.methodLink own index y_C_acknowledge ∈ zws) (hR : rm_C_acknowledge.frames + 1 ≤ R.frames ∧ 8 + (4 + 11) + rm_C_acknowledge.locals ≤ R.locals) : CallW R s args own "TabledOrigin$Client" index y_C_acknowledge prog_3_method_8_code 4 none (Cond.code y_C_acknowledge prog_3_method_8_code 4 none :: zws) rm_C_acknowledge 0 0 3 := ⟨callB_of 3 hW (zgood k_472) rfl rfl rfl (hW _ k_5) (hW _ hl) hd_C_acknowledge hR, hW _ k_471, hW _ ks_10⟩
abbrev y_C_read : MethodName := ⟨"TabledOrigin$Client", "read", "(LTabledOrigin$Request;LTabledOrigin$Answer;LTabledOrigin$FeedbackRoad;)V"⟩
abbrev rm_C_read : Room := { frames := 2, cells := 0, slots := 0, locals := 45 }
theorem hd_C_read : y_C_read.cls ≠ "java/lang/invoke/MethodHandle" ∧ y_C_read.cls ≠ "java/lang/invoke/VarHandle" ∧ (parseMethodDescriptor y_C_read.desc).map (fun d => d.parameters.length) = some 3 := by decide +kernel
theorem cw_C_read {R : Room} {s : State} {args : Array Value} {own : String} {index : Nat} (hW : ∀ w ∈ zws, w.before args s = true) (hl : Cond.methodLink own index y_C_read ∈ zws) (hR : rm_C_read.frames + 1 ≤ R.frames ∧ 8 + (5 + 11) + rm_C_read.locals ≤ R.locals) : CallW R s args own "TabledOrigin$Client" index y_C_read prog_3_method_5_code 5 none (Cond.code y_C_read prog_3_method_5_code 5 none :: zws) rm_C_read 0 0 3 := ⟨callB_of 3 hW (zgood k_455) rfl rfl rfl (hW _ k_5) (hW _ hl) hd_C_read hR, hW _ k_453, hW _ k_454⟩
abbrev y_F_init : MethodName := ⟨"TabledOrigin$FeedbackRoad", "<init>", "()V"⟩
abbrev rm_F_init : Room := { frames := 1, cells := 2, slots := 480, locals := 12 }
theorem hd_F_init : y_F_init.cls ≠ "java/lang/invoke/MethodHandle" ∧ y_F_init.cls ≠ "java/lang/invoke/VarHandle" ∧ (parseMethodDescriptor y_F_init.desc).map (fun d => d.parameters.length) = some 0 := by decide +kernel
theorem cw_F_init {R : Room} {s : State} {args : Array Value} {own : String} {index : Nat} (hW : ∀ w ∈ zws, w.before args s = true) (hl : Cond.methodLink own index y_F_init ∈ zws) (hR : rm_F_init.frames + 1 ≤ R.frames ∧ 8 + (1 + 11) + rm_F_init.locals ≤ R.locals) : CallB R s args own index y_F_init prog_4_method_1_code 1 none (Cond.code y_F_init prog_4_method_1_code 1 none :: zws) rm_F_init 2 480 0 ∧ y_F_init.name = "<init>" ∧ (Cond.instanceMethod y_F_init).before args s = true := cwI 0 hW (zgood k_168) rfl rfl rfl (hW _ k_7) (hW _ hl) (hW _ k_167) rfl hd_F_init hR
abbrev y_F_nextKind : MethodName := ⟨"TabledOrigin$FeedbackRoad", "nextKind", "()I"⟩
abbrev rm_F_nextKind : Room := { frames := 0, cells := 0, slots := 0, locals := 0 }
theorem hd_F_nextKind : y_F_nextKind.cls ≠ "java/lang/invoke/MethodHandle" ∧ y_F_nextKind.cls ≠ "java/lang/invoke/VarHandle" ∧ (parseMethodDescriptor y_F_nextKind.desc).map (fun d => d.parameters.length) = some 0 := by decide +kernel
theorem cw_F_nextKind {R : Room} {s : State} {args : Array Value} {own : String} {index : Nat} (hW : ∀ w ∈ zws, w.before args s = true) (hl : Cond.methodLink own index y_F_nextKind ∈ zws) (hR : rm_F_nextKind.frames + 1 ≤ R.frames ∧ 8 + (1 + 11) + rm_F_nextKind.locals ≤ R.locals) : CallW R s args own "TabledOrigin$FeedbackRoad" index y_F_nextKind prog_4_method_3_code 1 (some .int) (Cond.code y_F_nextKind prog_4_method_3_code 1 (some .int) :: zws) rm_F_nextKind 0 0 0 := ⟨callB_of 0 hW (zgood k_496) rfl rfl rfl (hW _ k_7) (hW _ hl) hd_F_nextKind hR, hW _ k_494, hW _ k_495⟩
abbrev y_F_nextNumber : MethodName := ⟨"TabledOrigin$FeedbackRoad", "nextNumber", "()I"⟩
abbrev rm_F_nextNumber : Room := { frames := 0, cells := 0, slots := 0, locals := 0 }
theorem hd_F_nextNumber : y_F_nextNumber.cls ≠ "java/lang/invoke/MethodHandle" ∧ y_F_nextNumber.cls ≠ "java/lang/invoke/VarHandle" ∧ (parseMethodDescriptor y_F_nextNumber.desc).map (fun d => d.parameters.length) = some 0 := by decide +kernel
theorem cw_F_nextNumber {R : Room} {s : State} {args : Array Value} {own : String} {index : Nat} (hW : ∀ w ∈ zws, w.before args s = true) (hl : Cond.methodLink own index y_F_nextNumber ∈ zws) (hR : rm_F_nextNumber.frames + 1 ≤ R.frames ∧ 8 + (1 + 11) + rm_F_nextNumber.locals ≤ R.locals) : CallW R s args own "TabledOrigin$FeedbackRoad" index y_F_nextNumber prog_4_method_4_code 1 (some .int) (Cond.code y_F_nextNumber prog_4_method_4_code 1 (some .int) :: zws) rm_F_nextNumber 0 0 0 := ⟨callB_of 0 hW (zgood k_500) rfl rfl rfl (hW _ k_7) (hW _ hl) hd_F_nextNumber hR, hW _ k_498, hW _ k_499⟩
abbrev y_F_moveOn : MethodName := ⟨"TabledOrigin$FeedbackRoad", "moveOn", "()V"⟩
abbrev rm_F_moveOn : Room := { frames := 0, cells := 0, slots := 0, locals := 0 }
theorem hd_F_moveOn : y_F_moveOn.cls ≠ "java/lang/invoke/MethodHandle" ∧ y_F_moveOn.cls ≠ "java/lang/invoke/VarHandle" ∧ (parseMethodDescriptor y_F_moveOn.desc).map (fun d => d.parameters.length) = some 0 := by decide +kernel
theorem cw_F_moveOn {R : Room} {s : State} {args : Array Value} {own : String} {index : Nat} (hW : ∀ w ∈ zws, w.before args s = true) (hl : Cond.methodLink own index y_F_moveOn ∈ zws) (hR : rm_F_moveOn.frames + 1 ≤ R.frames ∧ 8 + (1 + 11) + rm_F_moveOn.locals ≤ R.locals) : CallW R s args own "TabledOrigin$FeedbackRoad" index y_F_moveOn prog_4_method_5_code 1 none (Cond.code y_F_moveOn prog_4_method_5_code 1 none :: zws) rm_F_moveOn 0 0 0 := ⟨callB_of 0 hW (zgood k_504) rfl rfl rfl (hW _ k_7) (hW _ hl) hd_F_moveOn hR, hW _ k_502, hW _ k_503⟩
abbrev y_Q_init : MethodName := ⟨"TabledOrigin$Request", "<init>", "(IIZII)V"⟩
abbrev rm_Q_init : Room := { frames := 1, cells := 0, slots := 0, locals := 12 }
theorem hd_Q_init : y_Q_init.cls ≠ "java/lang/invoke/MethodHandle" ∧ y_Q_init.cls ≠ "java/lang/invoke/VarHandle" ∧ (parseMethodDescriptor y_Q_init.desc).map (fun d => d.parameters.length) = some 5 := by decide +kernel
theorem cw_Q_init {R : Room} {s : State} {args : Array Value} {own : String} {index : Nat} (hW : ∀ w ∈ zws, w.before args s = true) (hl : Cond.methodLink own index y_Q_init ∈ zws) (hR : rm_Q_init.frames + 1 ≤ R.frames ∧ 8 + (6 + 11) + rm_Q_init.locals ≤ R.locals) : CallB R s args own index y_Q_init prog_5_method_1_code 6 none (Cond.code y_Q_init prog_5_method_1_code 6 none :: zws) rm_Q_init 0 0 5 ∧ y_Q_init.name = "<init>" ∧ (Cond.instanceMethod y_Q_init).before args s = true := cwI 5 hW (zgood k_238) rfl rfl rfl (hW _ k_9) (hW _ hl) (hW _ k_237) rfl hd_Q_init hR
abbrev y_O_init : MethodName := ⟨"TabledOrigin$Resource", "<init>", "()V"⟩
abbrev rm_O_init : Room := { frames := 1, cells := 0, slots := 0, locals := 12 }
theorem hd_O_init : y_O_init.cls ≠ "java/lang/invoke/MethodHandle" ∧ y_O_init.cls ≠ "java/lang/invoke/VarHandle" ∧ (parseMethodDescriptor y_O_init.desc).map (fun d => d.parameters.length) = some 0 := by decide +kernel
theorem cw_O_init {R : Room} {s : State} {args : Array Value} {own : String} {index : Nat} (hW : ∀ w ∈ zws, w.before args s = true) (hl : va_Nw (.methodLinkNest own index y_O_init "TabledOrigin") s) (hR : rm_O_init.frames + 1 ≤ R.frames ∧ 8 + (1 + 11) + rm_O_init.locals ≤ R.locals) : va_CN R s args own index y_O_init "TabledOrigin" prog_6_method_1_code 1 none (Cond.code y_O_init prog_6_method_1_code 1 none :: zws) rm_O_init 0 0 0 ∧ y_O_init.name = "<init>" ∧ (Cond.instanceMethod y_O_init).before args s = true := ⟨va_cnB 0 hW (zgood k_31) rfl rfl rfl hl (hW _ k_3) hd_O_init hR, rfl, hW _ k_30⟩
abbrev y_T_init : MethodName := ⟨"TabledOrigin$Table", "<init>", "()V"⟩
abbrev rm_T_init : Room := { frames := 1, cells := 3, slots := 70, locals := 12 }
theorem hd_T_init : y_T_init.cls ≠ "java/lang/invoke/MethodHandle" ∧ y_T_init.cls ≠ "java/lang/invoke/VarHandle" ∧ (parseMethodDescriptor y_T_init.desc).map (fun d => d.parameters.length) = some 0 := by decide +kernel
theorem cw_T_init {R : Room} {s : State} {args : Array Value} {own : String} {index : Nat} (hW : ∀ w ∈ zws, w.before args s = true) (hl : Cond.methodLink own index y_T_init ∈ zws) (hR : rm_T_init.frames + 1 ≤ R.frames ∧ 8 + (1 + 11) + rm_T_init.locals ≤ R.locals) : CallB R s args own index y_T_init prog_9_method_1_code 1 none (Cond.code y_T_init prog_9_method_1_code 1 none :: zws) rm_T_init 3 70 0 ∧ y_T_init.name = "<init>" ∧ (Cond.instanceMethod y_T_init).before args s = true := cwI 0 hW (zgood k_52) rfl rfl rfl (hW _ k_4) (hW _ hl) (hW _ k_51) rfl hd_T_init hR
abbrev y_S_init : MethodName := ⟨"TabledOrigin$Server", "<init>", "()V"⟩
abbrev rm_S_init : Room := { frames := 2, cells := 8, slots := 34, locals := 32 }
theorem hd_S_init : y_S_init.cls ≠ "java/lang/invoke/MethodHandle" ∧ y_S_init.cls ≠ "java/lang/invoke/VarHandle" ∧ (parseMethodDescriptor y_S_init.desc).map (fun d => d.parameters.length) = some 0 := by decide +kernel
theorem cw_S_init {R : Room} {s : State} {args : Array Value} {own : String} {index : Nat} (hW : ∀ w ∈ zws, w.before args s = true) (hl : Cond.methodLink own index y_S_init ∈ zws) (hR : rm_S_init.frames + 1 ≤ R.frames ∧ 8 + (2 + 11) + rm_S_init.locals ≤ R.locals) : CallB R s args own index y_S_init prog_7_method_1_code 2 none (Cond.code y_S_init prog_7_method_1_code 2 none :: zws) rm_S_init 8 34 0 ∧ y_S_init.name = "<init>" ∧ (Cond.instanceMethod y_S_init).before args s = true := cwI 0 hW (zgood k_24) rfl rfl rfl (hW _ k_2) (hW _ hl) (hW _ k_23) rfl hd_S_init hR
abbrev y_S_resourceAt : MethodName := ⟨"TabledOrigin$Server", "resourceAt", "(I)LTabledOrigin$Resource;"⟩
abbrev rm_S_resourceAt : Room := { frames := 0, cells := 0, slots := 0, locals := 0 }
theorem hd_S_resourceAt : y_S_resourceAt.cls ≠ "java/lang/invoke/MethodHandle" ∧ y_S_resourceAt.cls ≠ "java/lang/invoke/VarHandle" ∧ (parseMethodDescriptor y_S_resourceAt.desc).map (fun d => d.parameters.length) = some 1 := by decide +kernel
theorem cw_S_resourceAt {R : Room} {s : State} {args : Array Value} {own : String} {index : Nat} (hW : ∀ w ∈ zws, w.before args s = true) (hl : Cond.methodLink own index y_S_resourceAt ∈ zws) (hR : rm_S_resourceAt.frames + 1 ≤ R.frames ∧ 8 + (2 + 11) + rm_S_resourceAt.locals ≤ R.locals) : CallW R s args own "TabledOrigin$Server" index y_S_resourceAt prog_7_method_2_code 2 (some (.object "TabledOrigin$Resource")) (Cond.code y_S_resourceAt prog_7_method_2_code 2 (some (.object "TabledOrigin$Resource")) :: zws) rm_S_resourceAt 0 0 1 := ⟨callB_of 1 hW (zgood k_211) rfl rfl rfl (hW _ k_2) (hW _ hl) hd_S_resourceAt hR, hW _ k_209, hW _ k_210⟩
abbrev y_S_write : MethodName := ⟨"TabledOrigin$Server", "write", "(LTabledOrigin$Resource;II)V"⟩
abbrev rm_S_write : Room := { frames := 0, cells := 0, slots := 0, locals := 0 }
theorem hd_S_write : y_S_write.cls ≠ "java/lang/invoke/MethodHandle" ∧ y_S_write.cls ≠ "java/lang/invoke/VarHandle" ∧ (parseMethodDescriptor y_S_write.desc).map (fun d => d.parameters.length) = some 3 := by decide +kernel
theorem cw_S_write {R : Room} {s : State} {args : Array Value} {own : String} {index : Nat} (hW : ∀ w ∈ zws, w.before args s = true) (hl : Cond.methodLink own index y_S_write ∈ zws) (hR : rm_S_write.frames + 1 ≤ R.frames ∧ 8 + (4 + 11) + rm_S_write.locals ≤ R.locals) : CallW R s args own "TabledOrigin$Server" index y_S_write prog_7_method_3_code 4 none (Cond.code y_S_write prog_7_method_3_code 4 none :: zws) rm_S_write 0 0 3 := ⟨callB_of 3 hW (zgood k_218) rfl rfl rfl (hW _ k_2) (hW _ hl) hd_S_write hR, hW _ k_216, hW _ k_217⟩
abbrev y_T_outstandingNeeding : MethodName := ⟨"TabledOrigin$Table", "outstandingNeeding", "(I)I"⟩
abbrev rm_T_outstandingNeeding : Room := { frames := 0, cells := 0, slots := 0, locals := 0 }
theorem hd_T_outstandingNeeding : y_T_outstandingNeeding.cls ≠ "java/lang/invoke/MethodHandle" ∧ y_T_outstandingNeeding.cls ≠ "java/lang/invoke/VarHandle" ∧ (parseMethodDescriptor y_T_outstandingNeeding.desc).map (fun d => d.parameters.length) = some 1 := by decide +kernel
theorem cw_T_outstandingNeeding {R : Room} {s : State} {args : Array Value} {own : String} {index : Nat} (hW : ∀ w ∈ zws, w.before args s = true) (hl : Cond.methodLink own index y_T_outstandingNeeding ∈ zws) (hR : rm_T_outstandingNeeding.frames + 1 ≤ R.frames ∧ 8 + (5 + 11) + rm_T_outstandingNeeding.locals ≤ R.locals) : CallW R s args own "TabledOrigin$Table" index y_T_outstandingNeeding prog_9_method_9_code 5 (some .int) (Cond.code y_T_outstandingNeeding prog_9_method_9_code 5 (some .int) :: zws) rm_T_outstandingNeeding 0 0 1 := ⟨callB_of 1 hW (zgood k_388) rfl rfl rfl (hW _ k_4) (hW _ hl) hd_T_outstandingNeeding hR, hW _ k_386, hW _ k_387⟩
abbrev y_T_atRisk : MethodName := ⟨"TabledOrigin$Table", "atRisk", "()I"⟩
abbrev rm_T_atRisk : Room := { frames := 1, cells := 0, slots := 0, locals := 24 }
theorem hd_T_atRisk : y_T_atRisk.cls ≠ "java/lang/invoke/MethodHandle" ∧ y_T_atRisk.cls ≠ "java/lang/invoke/VarHandle" ∧ (parseMethodDescriptor y_T_atRisk.desc).map (fun d => d.parameters.length) = some 0 := by decide +kernel
theorem cw_T_atRisk {R : Room} {s : State} {args : Array Value} {own : String} {index : Nat} (hW : ∀ w ∈ zws, w.before args s = true) (hl : Cond.methodLink own index y_T_atRisk ∈ zws) (hR : rm_T_atRisk.frames + 1 ≤ R.frames ∧ 8 + (1 + 11) + rm_T_atRisk.locals ≤ R.locals) : CallW R s args own "TabledOrigin$Table" index y_T_atRisk prog_9_method_8_code 1 (some .int) (Cond.code y_T_atRisk prog_9_method_8_code 1 (some .int) :: zws) rm_T_atRisk 0 0 0 := ⟨callB_of 0 hW (zgood k_384) rfl rfl rfl (hW _ k_4) (hW _ hl) hd_T_atRisk hR, hW _ k_382, hW _ k_383⟩
abbrev y_T_liveCount : MethodName := ⟨"TabledOrigin$Table", "liveCount", "()I"⟩
abbrev rm_T_liveCount : Room := { frames := 1, cells := 0, slots := 0, locals := 13 }
theorem hd_T_liveCount : y_T_liveCount.cls ≠ "java/lang/invoke/MethodHandle" ∧ y_T_liveCount.cls ≠ "java/lang/invoke/VarHandle" ∧ (parseMethodDescriptor y_T_liveCount.desc).map (fun d => d.parameters.length) = some 0 := by decide +kernel
theorem cw_T_liveCount {R : Room} {s : State} {args : Array Value} {own : String} {index : Nat} (hW : ∀ w ∈ zws, w.before args s = true) (hl : Cond.methodLink own index y_T_liveCount ∈ zws) (hR : rm_T_liveCount.frames + 1 ≤ R.frames ∧ 8 + (1 + 11) + rm_T_liveCount.locals ≤ R.locals) : CallW R s args own "TabledOrigin$Table" index y_T_liveCount prog_9_method_2_code 1 (some .int) (Cond.code y_T_liveCount prog_9_method_2_code 1 (some .int) :: zws) rm_T_liveCount 0 0 0 := ⟨callB_of 0 hW (zgood k_396) rfl rfl rfl (hW _ k_4) (hW _ hl) hd_T_liveCount hR, hW _ k_394, hW _ k_395⟩
abbrev y_M_floorMod : MethodName := ⟨"java/lang/Math", "floorMod", "(II)I"⟩
abbrev rm_M_floorMod : Room := { frames := 0, cells := 0, slots := 0, locals := 0 }
theorem hd_M_floorMod : y_M_floorMod.cls ≠ "java/lang/invoke/MethodHandle" ∧ y_M_floorMod.cls ≠ "java/lang/invoke/VarHandle" ∧ (parseMethodDescriptor y_M_floorMod.desc).map (fun d => d.parameters.length) = some 2 := by decide +kernel
theorem cw_M_floorMod {R : Room} {s : State} {args : Array Value} {own : String} {index : Nat} (hW : ∀ w ∈ zws, w.before args s = true) (hl : Cond.methodLink own index y_M_floorMod ∈ zws) (hR : rm_M_floorMod.frames + 1 ≤ R.frames ∧ 8 + (3 + 11) + rm_M_floorMod.locals ≤ R.locals) : CallB R s args own index y_M_floorMod prog_12_method_50_code 3 (some .int) (Cond.code y_M_floorMod prog_12_method_50_code 3 (some .int) :: zws) rm_M_floorMod 0 0 2 ∧ (Cond.static y_M_floorMod).before args s = true := ⟨callB_of 2 hW (zgood k_406) rfl rfl rfl (hW _ k_10) (hW _ hl) hd_M_floorMod hR, hW _ k_405⟩
abbrev y_T_nameOf : MethodName := ⟨"TabledOrigin$Table", "nameOf", "(I)I"⟩
abbrev rm_T_nameOf : Room := { frames := 1, cells := 0, slots := 0, locals := 22 }
theorem hd_T_nameOf : y_T_nameOf.cls ≠ "java/lang/invoke/MethodHandle" ∧ y_T_nameOf.cls ≠ "java/lang/invoke/VarHandle" ∧ (parseMethodDescriptor y_T_nameOf.desc).map (fun d => d.parameters.length) = some 1 := by decide +kernel
theorem cw_T_nameOf {R : Room} {s : State} {args : Array Value} {own : String} {index : Nat} (hW : ∀ w ∈ zws, w.before args s = true) (hl : Cond.methodLink own index y_T_nameOf ∈ zws) (hR : rm_T_nameOf.frames + 1 ≤ R.frames ∧ 8 + (2 + 11) + rm_T_nameOf.locals ≤ R.locals) : CallW R s args own "TabledOrigin$Table" index y_T_nameOf prog_9_method_3_code 2 (some .int) (Cond.code y_T_nameOf prog_9_method_3_code 2 (some .int) :: zws) rm_T_nameOf 0 0 1 := ⟨callB_of 1 hW (zgood k_403) rfl rfl rfl (hW _ k_4) (hW _ hl) hd_T_nameOf hR, hW _ k_401, hW _ k_402⟩
abbrev y_T_valueOf : MethodName := ⟨"TabledOrigin$Table", "valueOf", "(I)I"⟩
abbrev rm_T_valueOf : Room := { frames := 1, cells := 0, slots := 0, locals := 22 }
theorem hd_T_valueOf : y_T_valueOf.cls ≠ "java/lang/invoke/MethodHandle" ∧ y_T_valueOf.cls ≠ "java/lang/invoke/VarHandle" ∧ (parseMethodDescriptor y_T_valueOf.desc).map (fun d => d.parameters.length) = some 1 := by decide +kernel
theorem cw_T_valueOf {R : Room} {s : State} {args : Array Value} {own : String} {index : Nat} (hW : ∀ w ∈ zws, w.before args s = true) (hl : Cond.methodLink own index y_T_valueOf ∈ zws) (hR : rm_T_valueOf.frames + 1 ≤ R.frames ∧ 8 + (2 + 11) + rm_T_valueOf.locals ≤ R.locals) : CallW R s args own "TabledOrigin$Table" index y_T_valueOf prog_9_method_4_code 2 (some .int) (Cond.code y_T_valueOf prog_9_method_4_code 2 (some .int) :: zws) rm_T_valueOf 0 0 1 := ⟨callB_of 1 hW (zgood k_410) rfl rfl rfl (hW _ k_4) (hW _ hl) hd_T_valueOf hR, hW _ k_408, hW _ k_409⟩
abbrev y_T_findLive : MethodName := ⟨"TabledOrigin$Table", "findLive", "(II)I"⟩
abbrev rm_T_findLive : Room := { frames := 2, cells := 0, slots := 0, locals := 43 }
theorem hd_T_findLive : y_T_findLive.cls ≠ "java/lang/invoke/MethodHandle" ∧ y_T_findLive.cls ≠ "java/lang/invoke/VarHandle" ∧ (parseMethodDescriptor y_T_findLive.desc).map (fun d => d.parameters.length) = some 2 := by decide +kernel
theorem cw_T_findLive {R : Room} {s : State} {args : Array Value} {own : String} {index : Nat} (hW : ∀ w ∈ zws, w.before args s = true) (hl : Cond.methodLink own index y_T_findLive ∈ zws) (hR : rm_T_findLive.frames + 1 ≤ R.frames ∧ 8 + (5 + 11) + rm_T_findLive.locals ≤ R.locals) : CallW R s args own "TabledOrigin$Table" index y_T_findLive prog_9_method_11_code 5 (some .int) (Cond.code y_T_findLive prog_9_method_11_code 5 (some .int) :: zws) rm_T_findLive 0 0 2 := ⟨callB_of 2 hW (zgood k_392) rfl rfl rfl (hW _ k_4) (hW _ hl) hd_T_findLive hR, hW _ k_391, hW _ ks_3⟩
abbrev y_T_refer : MethodName := ⟨"TabledOrigin$Table", "refer", "(LTabledOrigin$Answer;I)V"⟩
abbrev rm_T_refer : Room := { frames := 2, cells := 0, slots := 0, locals := 35 }
theorem hd_T_refer : y_T_refer.cls ≠ "java/lang/invoke/MethodHandle" ∧ y_T_refer.cls ≠ "java/lang/invoke/VarHandle" ∧ (parseMethodDescriptor y_T_refer.desc).map (fun d => d.parameters.length) = some 2 := by decide +kernel
theorem cw_T_refer {R : Room} {s : State} {args : Array Value} {own : String} {index : Nat} (hW : ∀ w ∈ zws, w.before args s = true) (hl : Cond.methodLink own index y_T_refer ∈ zws) (hR : rm_T_refer.frames + 1 ≤ R.frames ∧ 8 + (3 + 11) + rm_T_refer.locals ≤ R.locals) : CallW R s args own "TabledOrigin$Table" index y_T_refer prog_9_method_14_code 3 none (Cond.code y_T_refer prog_9_method_14_code 3 none :: zws) rm_T_refer 0 0 2 := ⟨callB_of 2 hW (zgood k_414) rfl rfl rfl (hW _ k_4) (hW _ hl) hd_T_refer hR, hW _ k_413, hW _ ks_4⟩
abbrev y_T_referencesTo : MethodName := ⟨"TabledOrigin$Table", "referencesTo", "(I)I"⟩
abbrev rm_T_referencesTo : Room := { frames := 1, cells := 0, slots := 0, locals := 22 }
theorem hd_T_referencesTo : y_T_referencesTo.cls ≠ "java/lang/invoke/MethodHandle" ∧ y_T_referencesTo.cls ≠ "java/lang/invoke/VarHandle" ∧ (parseMethodDescriptor y_T_referencesTo.desc).map (fun d => d.parameters.length) = some 1 := by decide +kernel
theorem cw_T_referencesTo {R : Room} {s : State} {args : Array Value} {own : String} {index : Nat} (hW : ∀ w ∈ zws, w.before args s = true) (hl : Cond.methodLink own index y_T_referencesTo ∈ zws) (hR : rm_T_referencesTo.frames + 1 ≤ R.frames ∧ 8 + (5 + 11) + rm_T_referencesTo.locals ≤ R.locals) : CallW R s args own "TabledOrigin$Table" index y_T_referencesTo prog_9_method_10_code 5 (some .int) (Cond.code y_T_referencesTo prog_9_method_10_code 5 (some .int) :: zws) rm_T_referencesTo 0 0 1 := ⟨callB_of 1 hW (zgood k_427) rfl rfl rfl (hW _ k_4) (hW _ hl) hd_T_referencesTo hR, hW _ k_425, hW _ k_426⟩
abbrev y_T_hasRoomFor : MethodName := ⟨"TabledOrigin$Table", "hasRoomFor", "(LTabledOrigin$Answer;)Z"⟩
abbrev rm_T_hasRoomFor : Room := { frames := 2, cells := 0, slots := 0, locals := 46 }
theorem hd_T_hasRoomFor : y_T_hasRoomFor.cls ≠ "java/lang/invoke/MethodHandle" ∧ y_T_hasRoomFor.cls ≠ "java/lang/invoke/VarHandle" ∧ (parseMethodDescriptor y_T_hasRoomFor.desc).map (fun d => d.parameters.length) = some 1 := by decide +kernel
theorem cw_T_hasRoomFor {R : Room} {s : State} {args : Array Value} {own : String} {index : Nat} (hW : ∀ w ∈ zws, w.before args s = true) (hl : Cond.methodLink own index y_T_hasRoomFor ∈ zws) (hR : rm_T_hasRoomFor.frames + 1 ≤ R.frames ∧ 8 + (3 + 11) + rm_T_hasRoomFor.locals ≤ R.locals) : CallW R s args own "TabledOrigin$Table" index y_T_hasRoomFor prog_9_method_12_code 3 (some .boolean) (Cond.code y_T_hasRoomFor prog_9_method_12_code 3 (some .boolean) :: zws) rm_T_hasRoomFor 0 0 1 := ⟨callB_of 1 hW (zgood k_423) rfl rfl rfl (hW _ k_4) (hW _ hl) hd_T_hasRoomFor hR, hW _ k_422, hW _ ks_5⟩
abbrev y_T_makeEntry : MethodName := ⟨"TabledOrigin$Table", "makeEntry", "(II)I"⟩
abbrev rm_T_makeEntry : Room := { frames := 1, cells := 0, slots := 0, locals := 22 }
theorem hd_T_makeEntry : y_T_makeEntry.cls ≠ "java/lang/invoke/MethodHandle" ∧ y_T_makeEntry.cls ≠ "java/lang/invoke/VarHandle" ∧ (parseMethodDescriptor y_T_makeEntry.desc).map (fun d => d.parameters.length) = some 2 := by decide +kernel
theorem cw_T_makeEntry {R : Room} {s : State} {args : Array Value} {own : String} {index : Nat} (hW : ∀ w ∈ zws, w.before args s = true) (hl : Cond.methodLink own index y_T_makeEntry ∈ zws) (hR : rm_T_makeEntry.frames + 1 ≤ R.frames ∧ 8 + (4 + 11) + rm_T_makeEntry.locals ≤ R.locals) : CallW R s args own "TabledOrigin$Table" index y_T_makeEntry prog_9_method_13_code 4 (some .int) (Cond.code y_T_makeEntry prog_9_method_13_code 4 (some .int) :: zws) rm_T_makeEntry 0 0 2 := ⟨callB_of 2 hW (zgood k_435) rfl rfl rfl (hW _ k_4) (hW _ hl) hd_T_makeEntry hR, hW _ k_434, hW _ ks_6⟩
abbrev y_T_putDown : MethodName := ⟨"TabledOrigin$Table", "putDown", "(LTabledOrigin$Answer;II)V"⟩
abbrev rm_T_putDown : Room := { frames := 3, cells := 0, slots := 0, locals := 68 }
theorem hd_T_putDown : y_T_putDown.cls ≠ "java/lang/invoke/MethodHandle" ∧ y_T_putDown.cls ≠ "java/lang/invoke/VarHandle" ∧ (parseMethodDescriptor y_T_putDown.desc).map (fun d => d.parameters.length) = some 3 := by decide +kernel
theorem cw_T_putDown {R : Room} {s : State} {args : Array Value} {own : String} {index : Nat} (hW : ∀ w ∈ zws, w.before args s = true) (hl : Cond.methodLink own index y_T_putDown ∈ zws) (hR : rm_T_putDown.frames + 1 ≤ R.frames ∧ 8 + (6 + 11) + rm_T_putDown.locals ≤ R.locals) : CallW R s args own "TabledOrigin$Table" index y_T_putDown prog_9_method_5_code 6 none (Cond.code y_T_putDown prog_9_method_5_code 6 none :: zws) rm_T_putDown 0 0 3 := ⟨callB_of 3 hW (zgood k_380) rfl rfl rfl (hW _ k_4) (hW _ hl) hd_T_putDown hR, hW _ k_378, hW _ k_379⟩
abbrev y_S_answerPut : MethodName := ⟨"TabledOrigin$Server", "answerPut", "(LTabledOrigin$Request;LTabledOrigin$Resource;)LTabledOrigin$Answer;"⟩
abbrev rm_S_answerPut : Room := { frames := 4, cells := 2, slots := 13, locals := 93 }
theorem hd_S_answerPut : y_S_answerPut.cls ≠ "java/lang/invoke/MethodHandle" ∧ y_S_answerPut.cls ≠ "java/lang/invoke/VarHandle" ∧ (parseMethodDescriptor y_S_answerPut.desc).map (fun d => d.parameters.length) = some 2 := by decide +kernel
theorem cw_S_answerPut {R : Room} {s : State} {args : Array Value} {own : String} {index : Nat} (hW : ∀ w ∈ zws, w.before args s = true) (hl : Cond.methodLink own index y_S_answerPut ∈ zws) (hR : rm_S_answerPut.frames + 1 ≤ R.frames ∧ 8 + (5 + 11) + rm_S_answerPut.locals ≤ R.locals) : CallW R s args own "TabledOrigin$Server" index y_S_answerPut prog_7_method_7_code 5 (some (.object "TabledOrigin$Answer")) (Cond.code y_S_answerPut prog_7_method_7_code 5 (some (.object "TabledOrigin$Answer")) :: zws) rm_S_answerPut 2 13 2 := ⟨callB_of 2 hW (zgood k_327) rfl rfl rfl (hW _ k_2) (hW _ hl) hd_S_answerPut hR, hW _ k_326, hW _ ks_2⟩
abbrev y_S_answerGet : MethodName := ⟨"TabledOrigin$Server", "answerGet", "(LTabledOrigin$Request;LTabledOrigin$Resource;)LTabledOrigin$Answer;"⟩
abbrev rm_S_answerGet : Room := { frames := 4, cells := 2, slots := 13, locals := 93 }
theorem hd_S_answerGet : y_S_answerGet.cls ≠ "java/lang/invoke/MethodHandle" ∧ y_S_answerGet.cls ≠ "java/lang/invoke/VarHandle" ∧ (parseMethodDescriptor y_S_answerGet.desc).map (fun d => d.parameters.length) = some 2 := by decide +kernel
theorem cw_S_answerGet {R : Room} {s : State} {args : Array Value} {own : String} {index : Nat} (hW : ∀ w ∈ zws, w.before args s = true) (hl : Cond.methodLink own index y_S_answerGet ∈ zws) (hR : rm_S_answerGet.frames + 1 ≤ R.frames ∧ 8 + (5 + 11) + rm_S_answerGet.locals ≤ R.locals) : CallW R s args own "TabledOrigin$Server" index y_S_answerGet prog_7_method_6_code 5 (some (.object "TabledOrigin$Answer")) (Cond.code y_S_answerGet prog_7_method_6_code 5 (some (.object "TabledOrigin$Answer")) :: zws) rm_S_answerGet 2 13 2 := ⟨callB_of 2 hW (zgood k_439) rfl rfl rfl (hW _ k_2) (hW _ hl) hd_S_answerGet hR, hW _ k_438, hW _ ks_7⟩
abbrev y_T_keepIfReferring : MethodName := ⟨"TabledOrigin$Table", "keepIfReferring", "(LTabledOrigin$Answer;)V"⟩
abbrev rm_T_keepIfReferring : Room := { frames := 0, cells := 0, slots := 0, locals := 0 }
theorem hd_T_keepIfReferring : y_T_keepIfReferring.cls ≠ "java/lang/invoke/MethodHandle" ∧ y_T_keepIfReferring.cls ≠ "java/lang/invoke/VarHandle" ∧ (parseMethodDescriptor y_T_keepIfReferring.desc).map (fun d => d.parameters.length) = some 1 := by decide +kernel
theorem cw_T_keepIfReferring {R : Room} {s : State} {args : Array Value} {own : String} {index : Nat} (hW : ∀ w ∈ zws, w.before args s = true) (hl : Cond.methodLink own index y_T_keepIfReferring ∈ zws) (hR : rm_T_keepIfReferring.frames + 1 ≤ R.frames ∧ 8 + (2 + 11) + rm_T_keepIfReferring.locals ≤ R.locals) : CallW R s args own "TabledOrigin$Table" index y_T_keepIfReferring prog_9_method_6_code 2 none (Cond.code y_T_keepIfReferring prog_9_method_6_code 2 none :: zws) rm_T_keepIfReferring 0 0 1 := ⟨callB_of 1 hW (zgood k_443) rfl rfl rfl (hW _ k_4) (hW _ hl) hd_T_keepIfReferring hR, hW _ k_441, hW _ k_442⟩
abbrev y_S_takeRequest : MethodName := ⟨"TabledOrigin$Server", "takeRequest", "(LTabledOrigin$Request;)I"⟩
abbrev rm_S_takeRequest : Room := { frames := 5, cells := 2, slots := 13, locals := 117 }
theorem hd_S_takeRequest : y_S_takeRequest.cls ≠ "java/lang/invoke/MethodHandle" ∧ y_S_takeRequest.cls ≠ "java/lang/invoke/VarHandle" ∧ (parseMethodDescriptor y_S_takeRequest.desc).map (fun d => d.parameters.length) = some 1 := by decide +kernel
theorem cw_S_takeRequest {R : Room} {s : State} {args : Array Value} {own : String} {index : Nat} (hW : ∀ w ∈ zws, w.before args s = true) (hl : Cond.methodLink own index y_S_takeRequest ∈ zws) (hR : rm_S_takeRequest.frames + 1 ≤ R.frames ∧ 8 + (4 + 11) + rm_S_takeRequest.locals ≤ R.locals) : CallW R s args own "TabledOrigin$Server" index y_S_takeRequest prog_7_method_4_code 4 (some .int) (Cond.code y_S_takeRequest prog_7_method_4_code 4 (some .int) :: zws) rm_S_takeRequest 2 13 1 := ⟨callB_of 1 hW (zgood k_319) rfl rfl rfl (hW _ k_2) (hW _ hl) hd_S_takeRequest hR, hW _ k_317, hW _ k_318⟩
abbrev y_S_announceLimit : MethodName := ⟨"TabledOrigin$Server", "announceLimit", "()V"⟩
abbrev rm_S_announceLimit : Room := { frames := 0, cells := 0, slots := 0, locals := 0 }
theorem hd_S_announceLimit : y_S_announceLimit.cls ≠ "java/lang/invoke/MethodHandle" ∧ y_S_announceLimit.cls ≠ "java/lang/invoke/VarHandle" ∧ (parseMethodDescriptor y_S_announceLimit.desc).map (fun d => d.parameters.length) = some 0 := by decide +kernel
theorem cw_S_announceLimit {R : Room} {s : State} {args : Array Value} {own : String} {index : Nat} (hW : ∀ w ∈ zws, w.before args s = true) (hl : Cond.methodLink own index y_S_announceLimit ∈ zws) (hR : rm_S_announceLimit.frames + 1 ≤ R.frames ∧ 8 + (1 + 11) + rm_S_announceLimit.locals ≤ R.locals) : CallW R s args own "TabledOrigin$Server" index y_S_announceLimit prog_7_method_5_code 1 none (Cond.code y_S_announceLimit prog_7_method_5_code 1 none :: zws) rm_S_announceLimit 0 0 0 := ⟨callB_of 0 hW (zgood k_526) rfl rfl rfl (hW _ k_2) (hW _ hl) hd_S_announceLimit hR, hW _ k_524, hW _ k_525⟩
abbrev y_K_freshFor : MethodName := ⟨"TabledOrigin$StoredAnswer", "freshFor", "(I)I"⟩
abbrev rm_K_freshFor : Room := { frames := 1, cells := 0, slots := 0, locals := 21 }
theorem hd_K_freshFor : y_K_freshFor.cls ≠ "java/lang/invoke/MethodHandle" ∧ y_K_freshFor.cls ≠ "java/lang/invoke/VarHandle" ∧ (parseMethodDescriptor y_K_freshFor.desc).map (fun d => d.parameters.length) = some 1 := by decide +kernel
theorem cw_K_freshFor {R : Room} {s : State} {args : Array Value} {own : String} {index : Nat} (hW : ∀ w ∈ zws, w.before args s = true) (hl : Cond.methodLink own index y_K_freshFor ∈ zws) (hR : rm_K_freshFor.frames + 1 ≤ R.frames ∧ 8 + (2 + 11) + rm_K_freshFor.locals ≤ R.locals) : CallW R s args own "TabledOrigin$StoredAnswer" index y_K_freshFor prog_8_method_3_code 2 (some .int) (Cond.code y_K_freshFor prog_8_method_3_code 2 (some .int) :: zws) rm_K_freshFor 0 0 1 := ⟨callB_of 1 hW (zgood k_559) rfl rfl rfl (hW _ k_6) (hW _ hl) hd_K_freshFor hR, hW _ k_557, hW _ k_558⟩
abbrev y_T_learn : MethodName := ⟨"TabledOrigin$Table", "learn", "(I)V"⟩
abbrev rm_T_learn : Room := { frames := 1, cells := 0, slots := 0, locals := 14 }
theorem hd_T_learn : y_T_learn.cls ≠ "java/lang/invoke/MethodHandle" ∧ y_T_learn.cls ≠ "java/lang/invoke/VarHandle" ∧ (parseMethodDescriptor y_T_learn.desc).map (fun d => d.parameters.length) = some 1 := by decide +kernel
theorem cw_T_learn {R : Room} {s : State} {args : Array Value} {own : String} {index : Nat} (hW : ∀ w ∈ zws, w.before args s = true) (hl : Cond.methodLink own index y_T_learn ∈ zws) (hR : rm_T_learn.frames + 1 ≤ R.frames ∧ 8 + (2 + 11) + rm_T_learn.locals ≤ R.locals) : CallW R s args own "TabledOrigin$Table" index y_T_learn prog_9_method_7_code 2 none (Cond.code y_T_learn prog_9_method_7_code 2 none :: zws) rm_T_learn 0 0 1 := ⟨callB_of 1 hW (zgood k_512) rfl rfl rfl (hW _ k_4) (hW _ hl) hd_T_learn hR, hW _ k_510, hW _ k_511⟩
abbrev y_X_init : MethodName := ⟨"TabledOrigin", "<init>", "()V"⟩
abbrev rm_X_init : Room := { frames := 3, cells := 22, slots := 636, locals := 53 }
theorem hd_X_init : y_X_init.cls ≠ "java/lang/invoke/MethodHandle" ∧ y_X_init.cls ≠ "java/lang/invoke/VarHandle" ∧ (parseMethodDescriptor y_X_init.desc).map (fun d => d.parameters.length) = some 0 := by decide +kernel
theorem cw_X_init {R : Room} {s : State} {args : Array Value} {own : String} {index : Nat} (hW : ∀ w ∈ zws, w.before args s = true) (hl : Cond.methodLink own index y_X_init ∈ zws) (hR : rm_X_init.frames + 1 ≤ R.frames ∧ 8 + (1 + 11) + rm_X_init.locals ≤ R.locals) : CallB R s args own index y_X_init prog_1_method_1_code 1 none (Cond.code y_X_init prog_1_method_1_code 1 none :: zws) rm_X_init 22 636 0 ∧ y_X_init.name = "<init>" ∧ (Cond.instanceMethod y_X_init).before args s = true := cwI 0 hW (zgood k_16) rfl rfl rfl (hW _ k_1) (hW _ hl) (hW _ k_15) rfl hd_X_init hR
abbrev y_X_isLifetime : MethodName := ⟨"TabledOrigin", "isLifetime", "(I)Z"⟩
abbrev rm_X_isLifetime : Room := { frames := 0, cells := 0, slots := 0, locals := 0 }
theorem hd_X_isLifetime : y_X_isLifetime.cls ≠ "java/lang/invoke/MethodHandle" ∧ y_X_isLifetime.cls ≠ "java/lang/invoke/VarHandle" ∧ (parseMethodDescriptor y_X_isLifetime.desc).map (fun d => d.parameters.length) = some 1 := by decide +kernel
theorem cw_X_isLifetime {R : Room} {s : State} {args : Array Value} {own : String} {index : Nat} (hW : ∀ w ∈ zws, w.before args s = true) (hl : Cond.methodLink own index y_X_isLifetime ∈ zws) (hR : rm_X_isLifetime.frames + 1 ≤ R.frames ∧ 8 + (1 + 11) + rm_X_isLifetime.locals ≤ R.locals) : CallB R s args own index y_X_isLifetime prog_1_method_20_code 1 (some .boolean) (Cond.code y_X_isLifetime prog_1_method_20_code 1 (some .boolean) :: zws) rm_X_isLifetime 0 0 1 ∧ (Cond.static y_X_isLifetime).before args s = true := ⟨callB_of 1 hW (zgood k_214) rfl rfl rfl (hW _ k_1) (hW _ hl) hd_X_isLifetime hR, hW _ k_213⟩
abbrev y_X_put : MethodName := ⟨"TabledOrigin", "put", "(III)I"⟩
abbrev rm_X_put : Room := { frames := 1, cells := 0, slots := 0, locals := 23 }
theorem hd_X_put : y_X_put.cls ≠ "java/lang/invoke/MethodHandle" ∧ y_X_put.cls ≠ "java/lang/invoke/VarHandle" ∧ (parseMethodDescriptor y_X_put.desc).map (fun d => d.parameters.length) = some 3 := by decide +kernel
theorem cw_X_put {R : Room} {s : State} {args : Array Value} {own : String} {index : Nat} (hW : ∀ w ∈ zws, w.before args s = true) (hl : Cond.methodLink own index y_X_put ∈ zws) (hR : rm_X_put.frames + 1 ≤ R.frames ∧ 8 + (5 + 11) + rm_X_put.locals ≤ R.locals) : CallW R s args own "TabledOrigin" index y_X_put prog_1_method_2_code 5 (some .int) (Cond.code y_X_put prog_1_method_2_code 5 (some .int) :: zws) rm_X_put 0 0 3 := ⟨callB_of 3 hW (zgood k_207) rfl rfl rfl (hW _ k_1) (hW _ hl) hd_X_put hR, hW _ k_205, hW _ k_206⟩
abbrev y_X_drop : MethodName := ⟨"TabledOrigin", "drop", "(I)Z"⟩
abbrev rm_X_drop : Room := { frames := 1, cells := 0, slots := 0, locals := 21 }
theorem hd_X_drop : y_X_drop.cls ≠ "java/lang/invoke/MethodHandle" ∧ y_X_drop.cls ≠ "java/lang/invoke/VarHandle" ∧ (parseMethodDescriptor y_X_drop.desc).map (fun d => d.parameters.length) = some 1 := by decide +kernel
theorem cw_X_drop {R : Room} {s : State} {args : Array Value} {own : String} {index : Nat} (hW : ∀ w ∈ zws, w.before args s = true) (hl : Cond.methodLink own index y_X_drop ∈ zws) (hR : rm_X_drop.frames + 1 ≤ R.frames ∧ 8 + (3 + 11) + rm_X_drop.locals ≤ R.locals) : CallW R s args own "TabledOrigin" index y_X_drop prog_1_method_3_code 3 (some .boolean) (Cond.code y_X_drop prog_1_method_3_code 3 (some .boolean) :: zws) rm_X_drop 0 0 1 := ⟨callB_of 1 hW (zgood k_222) rfl rfl rfl (hW _ k_1) (hW _ hl) hd_X_drop hR, hW _ k_220, hW _ k_221⟩
abbrev y_X_makeRequest : MethodName := ⟨"TabledOrigin", "makeRequest", "(IZII)I"⟩
abbrev rm_X_makeRequest : Room := { frames := 2, cells := 1, slots := 12, locals := 45 }
theorem hd_X_makeRequest : y_X_makeRequest.cls ≠ "java/lang/invoke/MethodHandle" ∧ y_X_makeRequest.cls ≠ "java/lang/invoke/VarHandle" ∧ (parseMethodDescriptor y_X_makeRequest.desc).map (fun d => d.parameters.length) = some 4 := by decide +kernel
theorem cw_X_makeRequest {R : Room} {s : State} {args : Array Value} {own : String} {index : Nat} (hW : ∀ w ∈ zws, w.before args s = true) (hl : Cond.methodLink own index y_X_makeRequest ∈ zws) (hR : rm_X_makeRequest.frames + 1 ≤ R.frames ∧ 8 + (7 + 11) + rm_X_makeRequest.locals ≤ R.locals) : CallW R s args own "TabledOrigin" index y_X_makeRequest prog_1_method_22_code 7 (some .int) (Cond.code y_X_makeRequest prog_1_method_22_code 7 (some .int) :: zws) rm_X_makeRequest 1 12 4 := ⟨callB_of 4 hW (zgood k_230) rfl rfl rfl (hW _ k_1) (hW _ hl) hd_X_makeRequest hR, hW _ k_229, hW _ ks_0⟩
abbrev y_X_get : MethodName := ⟨"TabledOrigin", "get", "(I)I"⟩
abbrev rm_X_get : Room := { frames := 3, cells := 1, slots := 12, locals := 71 }
theorem hd_X_get : y_X_get.cls ≠ "java/lang/invoke/MethodHandle" ∧ y_X_get.cls ≠ "java/lang/invoke/VarHandle" ∧ (parseMethodDescriptor y_X_get.desc).map (fun d => d.parameters.length) = some 1 := by decide +kernel
theorem cw_X_get {R : Room} {s : State} {args : Array Value} {own : String} {index : Nat} (hW : ∀ w ∈ zws, w.before args s = true) (hl : Cond.methodLink own index y_X_get ∈ zws) (hR : rm_X_get.frames + 1 ≤ R.frames ∧ 8 + (2 + 11) + rm_X_get.locals ≤ R.locals) : CallW R s args own "TabledOrigin" index y_X_get prog_1_method_4_code 2 (some .int) (Cond.code y_X_get prog_1_method_4_code 2 (some .int) :: zws) rm_X_get 1 12 1 := ⟨callB_of 1 hW (zgood k_226) rfl rfl rfl (hW _ k_1) (hW _ hl) hd_X_get hR, hW _ k_224, hW _ k_225⟩
abbrev y_X_replace : MethodName := ⟨"TabledOrigin", "replace", "(III)I"⟩
abbrev rm_X_replace : Room := { frames := 3, cells := 1, slots := 12, locals := 71 }
theorem hd_X_replace : y_X_replace.cls ≠ "java/lang/invoke/MethodHandle" ∧ y_X_replace.cls ≠ "java/lang/invoke/VarHandle" ∧ (parseMethodDescriptor y_X_replace.desc).map (fun d => d.parameters.length) = some 3 := by decide +kernel
theorem cw_X_replace {R : Room} {s : State} {args : Array Value} {own : String} {index : Nat} (hW : ∀ w ∈ zws, w.before args s = true) (hl : Cond.methodLink own index y_X_replace ∈ zws) (hR : rm_X_replace.frames + 1 ≤ R.frames ∧ 8 + (4 + 11) + rm_X_replace.locals ≤ R.locals) : CallW R s args own "TabledOrigin" index y_X_replace prog_1_method_5_code 4 (some .int) (Cond.code y_X_replace prog_1_method_5_code 4 (some .int) :: zws) rm_X_replace 1 12 3 := ⟨callB_of 3 hW (zgood k_307) rfl rfl rfl (hW _ k_1) (hW _ hl) hd_X_replace hR, hW _ k_305, hW _ k_306⟩
abbrev y_X_requestAt : MethodName := ⟨"TabledOrigin", "requestAt", "(I)LTabledOrigin$Request;"⟩
abbrev rm_X_requestAt : Room := { frames := 0, cells := 0, slots := 0, locals := 0 }
theorem hd_X_requestAt : y_X_requestAt.cls ≠ "java/lang/invoke/MethodHandle" ∧ y_X_requestAt.cls ≠ "java/lang/invoke/VarHandle" ∧ (parseMethodDescriptor y_X_requestAt.desc).map (fun d => d.parameters.length) = some 1 := by decide +kernel
theorem cw_X_requestAt {R : Room} {s : State} {args : Array Value} {own : String} {index : Nat} (hW : ∀ w ∈ zws, w.before args s = true) (hl : Cond.methodLink own index y_X_requestAt ∈ zws) (hR : rm_X_requestAt.frames + 1 ≤ R.frames ∧ 8 + (2 + 11) + rm_X_requestAt.locals ≤ R.locals) : CallW R s args own "TabledOrigin" index y_X_requestAt prog_1_method_21_code 2 (some (.object "TabledOrigin$Request")) (Cond.code y_X_requestAt prog_1_method_21_code 2 (some (.object "TabledOrigin$Request")) :: zws) rm_X_requestAt 0 0 1 := ⟨callB_of 1 hW (zgood k_315) rfl rfl rfl (hW _ k_1) (hW _ hl) hd_X_requestAt hR, hW _ k_314, hW _ ks_1⟩
abbrev y_X_arrive : MethodName := ⟨"TabledOrigin", "arrive", "(I)I"⟩
abbrev rm_X_arrive : Room := { frames := 6, cells := 2, slots := 13, locals := 140 }
theorem hd_X_arrive : y_X_arrive.cls ≠ "java/lang/invoke/MethodHandle" ∧ y_X_arrive.cls ≠ "java/lang/invoke/VarHandle" ∧ (parseMethodDescriptor y_X_arrive.desc).map (fun d => d.parameters.length) = some 1 := by decide +kernel
theorem cw_X_arrive {R : Room} {s : State} {args : Array Value} {own : String} {index : Nat} (hW : ∀ w ∈ zws, w.before args s = true) (hl : Cond.methodLink own index y_X_arrive ∈ zws) (hR : rm_X_arrive.frames + 1 ≤ R.frames ∧ 8 + (3 + 11) + rm_X_arrive.locals ≤ R.locals) : CallW R s args own "TabledOrigin" index y_X_arrive prog_1_method_6_code 3 (some .int) (Cond.code y_X_arrive prog_1_method_6_code 3 (some .int) :: zws) rm_X_arrive 2 13 1 := ⟨callB_of 1 hW (zgood k_311) rfl rfl rfl (hW _ k_1) (hW _ hl) hd_X_arrive hR, hW _ k_309, hW _ k_310⟩
abbrev y_X_reply : MethodName := ⟨"TabledOrigin", "reply", "(I)I"⟩
abbrev rm_X_reply : Room := { frames := 3, cells := 0, slots := 0, locals := 69 }
theorem hd_X_reply : y_X_reply.cls ≠ "java/lang/invoke/MethodHandle" ∧ y_X_reply.cls ≠ "java/lang/invoke/VarHandle" ∧ (parseMethodDescriptor y_X_reply.desc).map (fun d => d.parameters.length) = some 1 := by decide +kernel
theorem cw_X_reply {R : Room} {s : State} {args : Array Value} {own : String} {index : Nat} (hW : ∀ w ∈ zws, w.before args s = true) (hl : Cond.methodLink own index y_X_reply ∈ zws) (hR : rm_X_reply.frames + 1 ≤ R.frames ∧ 8 + (3 + 11) + rm_X_reply.locals ≤ R.locals) : CallW R s args own "TabledOrigin" index y_X_reply prog_1_method_7_code 3 (some .int) (Cond.code y_X_reply prog_1_method_7_code 3 (some .int) :: zws) rm_X_reply 0 0 1 := ⟨callB_of 1 hW (zgood k_447) rfl rfl rfl (hW _ k_1) (hW _ hl) hd_X_reply hR, hW _ k_445, hW _ k_446⟩
abbrev y_X_isBlocked : MethodName := ⟨"TabledOrigin", "isBlocked", "(LTabledOrigin$Request;)Z"⟩
abbrev rm_X_isBlocked : Room := { frames := 0, cells := 0, slots := 0, locals := 0 }
theorem hd_X_isBlocked : y_X_isBlocked.cls ≠ "java/lang/invoke/MethodHandle" ∧ y_X_isBlocked.cls ≠ "java/lang/invoke/VarHandle" ∧ (parseMethodDescriptor y_X_isBlocked.desc).map (fun d => d.parameters.length) = some 1 := by decide +kernel
theorem cw_X_isBlocked {R : Room} {s : State} {args : Array Value} {own : String} {index : Nat} (hW : ∀ w ∈ zws, w.before args s = true) (hl : Cond.methodLink own index y_X_isBlocked ∈ zws) (hR : rm_X_isBlocked.frames + 1 ≤ R.frames ∧ 8 + (1 + 11) + rm_X_isBlocked.locals ≤ R.locals) : CallB R s args own index y_X_isBlocked prog_1_method_24_code 1 (some .boolean) (Cond.code y_X_isBlocked prog_1_method_24_code 1 (some .boolean) :: zws) rm_X_isBlocked 0 0 1 ∧ (Cond.static y_X_isBlocked).before args s = true := ⟨callB_of 1 hW (zgood k_488) rfl rfl rfl (hW _ k_1) (hW _ hl) hd_X_isBlocked hR, hW _ k_487⟩
abbrev y_X_readUnblocked : MethodName := ⟨"TabledOrigin", "readUnblocked", "()I"⟩
abbrev rm_X_readUnblocked : Room := { frames := 3, cells := 0, slots := 0, locals := 69 }
theorem hd_X_readUnblocked : y_X_readUnblocked.cls ≠ "java/lang/invoke/MethodHandle" ∧ y_X_readUnblocked.cls ≠ "java/lang/invoke/VarHandle" ∧ (parseMethodDescriptor y_X_readUnblocked.desc).map (fun d => d.parameters.length) = some 0 := by decide +kernel
theorem cw_X_readUnblocked {R : Room} {s : State} {args : Array Value} {own : String} {index : Nat} (hW : ∀ w ∈ zws, w.before args s = true) (hl : Cond.methodLink own index y_X_readUnblocked ∈ zws) (hR : rm_X_readUnblocked.frames + 1 ≤ R.frames ∧ 8 + (4 + 11) + rm_X_readUnblocked.locals ≤ R.locals) : CallW R s args own "TabledOrigin" index y_X_readUnblocked prog_1_method_23_code 4 (some .int) (Cond.code y_X_readUnblocked prog_1_method_23_code 4 (some .int) :: zws) rm_X_readUnblocked 0 0 0 := ⟨callB_of 0 hW (zgood k_485) rfl rfl rfl (hW _ k_1) (hW _ hl) hd_X_readUnblocked hR, hW _ k_484, hW _ ks_11⟩
abbrev y_X_insert : MethodName := ⟨"TabledOrigin", "insert", "()I"⟩
abbrev rm_X_insert : Room := { frames := 4, cells := 0, slots := 0, locals := 92 }
theorem hd_X_insert : y_X_insert.cls ≠ "java/lang/invoke/MethodHandle" ∧ y_X_insert.cls ≠ "java/lang/invoke/VarHandle" ∧ (parseMethodDescriptor y_X_insert.desc).map (fun d => d.parameters.length) = some 0 := by decide +kernel
theorem cw_X_insert {R : Room} {s : State} {args : Array Value} {own : String} {index : Nat} (hW : ∀ w ∈ zws, w.before args s = true) (hl : Cond.methodLink own index y_X_insert ∈ zws) (hR : rm_X_insert.frames + 1 ≤ R.frames ∧ 8 + (1 + 11) + rm_X_insert.locals ≤ R.locals) : CallW R s args own "TabledOrigin" index y_X_insert prog_1_method_8_code 1 (some .int) (Cond.code y_X_insert prog_1_method_8_code 1 (some .int) :: zws) rm_X_insert 0 0 0 := ⟨callB_of 0 hW (zgood k_481) rfl rfl rfl (hW _ k_1) (hW _ hl) hd_X_insert hR, hW _ k_479, hW _ k_480⟩
abbrev y_X_endOutstanding : MethodName := ⟨"TabledOrigin", "endOutstanding", "(IZ)V"⟩
abbrev rm_X_endOutstanding : Room := { frames := 2, cells := 0, slots := 0, locals := 35 }
theorem hd_X_endOutstanding : y_X_endOutstanding.cls ≠ "java/lang/invoke/MethodHandle" ∧ y_X_endOutstanding.cls ≠ "java/lang/invoke/VarHandle" ∧ (parseMethodDescriptor y_X_endOutstanding.desc).map (fun d => d.parameters.length) = some 2 := by decide +kernel
theorem cw_X_endOutstanding {R : Room} {s : State} {args : Array Value} {own : String} {index : Nat} (hW : ∀ w ∈ zws, w.before args s = true) (hl : Cond.methodLink own index y_X_endOutstanding ∈ zws) (hR : rm_X_endOutstanding.frames + 1 ≤ R.frames ∧ 8 + (4 + 11) + rm_X_endOutstanding.locals ≤ R.locals) : CallW R s args own "TabledOrigin" index y_X_endOutstanding prog_1_method_26_code 4 none (Cond.code y_X_endOutstanding prog_1_method_26_code 4 none :: zws) rm_X_endOutstanding 0 0 2 := ⟨callB_of 2 hW (zgood k_508) rfl rfl rfl (hW _ k_1) (hW _ hl) hd_X_endOutstanding hR, hW _ k_507, hW _ ks_12⟩
abbrev y_X_feedback : MethodName := ⟨"TabledOrigin", "feedback", "()I"⟩
abbrev rm_X_feedback : Room := { frames := 3, cells := 0, slots := 0, locals := 58 }
theorem hd_X_feedback : y_X_feedback.cls ≠ "java/lang/invoke/MethodHandle" ∧ y_X_feedback.cls ≠ "java/lang/invoke/VarHandle" ∧ (parseMethodDescriptor y_X_feedback.desc).map (fun d => d.parameters.length) = some 0 := by decide +kernel
theorem cw_X_feedback {R : Room} {s : State} {args : Array Value} {own : String} {index : Nat} (hW : ∀ w ∈ zws, w.before args s = true) (hl : Cond.methodLink own index y_X_feedback ∈ zws) (hR : rm_X_feedback.frames + 1 ≤ R.frames ∧ 8 + (3 + 11) + rm_X_feedback.locals ≤ R.locals) : CallW R s args own "TabledOrigin" index y_X_feedback prog_1_method_9_code 3 (some .int) (Cond.code y_X_feedback prog_1_method_9_code 3 (some .int) :: zws) rm_X_feedback 0 0 0 := ⟨callB_of 0 hW (zgood k_492) rfl rfl rfl (hW _ k_1) (hW _ hl) hd_X_feedback hR, hW _ k_490, hW _ k_491⟩
abbrev y_X_report : MethodName := ⟨"TabledOrigin", "report", "()Z"⟩
abbrev rm_X_report : Room := { frames := 1, cells := 0, slots := 0, locals := 22 }
theorem hd_X_report : y_X_report.cls ≠ "java/lang/invoke/MethodHandle" ∧ y_X_report.cls ≠ "java/lang/invoke/VarHandle" ∧ (parseMethodDescriptor y_X_report.desc).map (fun d => d.parameters.length) = some 0 := by decide +kernel
theorem cw_X_report {R : Room} {s : State} {args : Array Value} {own : String} {index : Nat} (hW : ∀ w ∈ zws, w.before args s = true) (hl : Cond.methodLink own index y_X_report ∈ zws) (hR : rm_X_report.frames + 1 ≤ R.frames ∧ 8 + (2 + 11) + rm_X_report.locals ≤ R.locals) : CallW R s args own "TabledOrigin" index y_X_report prog_1_method_10_code 2 (some .boolean) (Cond.code y_X_report prog_1_method_10_code 2 (some .boolean) :: zws) rm_X_report 0 0 0 := ⟨callB_of 0 hW (zgood k_517) rfl rfl rfl (hW _ k_1) (hW _ hl) hd_X_report hR, hW _ k_515, hW _ k_516⟩
abbrev y_X_goaway : MethodName := ⟨"TabledOrigin", "goaway", "()I"⟩
abbrev rm_X_goaway : Room := { frames := 1, cells := 0, slots := 0, locals := 20 }
theorem hd_X_goaway : y_X_goaway.cls ≠ "java/lang/invoke/MethodHandle" ∧ y_X_goaway.cls ≠ "java/lang/invoke/VarHandle" ∧ (parseMethodDescriptor y_X_goaway.desc).map (fun d => d.parameters.length) = some 0 := by decide +kernel
theorem cw_X_goaway {R : Room} {s : State} {args : Array Value} {own : String} {index : Nat} (hW : ∀ w ∈ zws, w.before args s = true) (hl : Cond.methodLink own index y_X_goaway ∈ zws) (hR : rm_X_goaway.frames + 1 ≤ R.frames ∧ 8 + (1 + 11) + rm_X_goaway.locals ≤ R.locals) : CallW R s args own "TabledOrigin" index y_X_goaway prog_1_method_11_code 1 (some .int) (Cond.code y_X_goaway prog_1_method_11_code 1 (some .int) :: zws) rm_X_goaway 0 0 0 := ⟨callB_of 0 hW (zgood k_522) rfl rfl rfl (hW _ k_1) (hW _ hl) hd_X_goaway hR, hW _ k_520, hW _ k_521⟩
abbrev y_X_refuseFrom : MethodName := ⟨"TabledOrigin", "refuseFrom", "(I)I"⟩
abbrev rm_X_refuseFrom : Room := { frames := 1, cells := 0, slots := 0, locals := 22 }
theorem hd_X_refuseFrom : y_X_refuseFrom.cls ≠ "java/lang/invoke/MethodHandle" ∧ y_X_refuseFrom.cls ≠ "java/lang/invoke/VarHandle" ∧ (parseMethodDescriptor y_X_refuseFrom.desc).map (fun d => d.parameters.length) = some 1 := by decide +kernel
theorem cw_X_refuseFrom {R : Room} {s : State} {args : Array Value} {own : String} {index : Nat} (hW : ∀ w ∈ zws, w.before args s = true) (hl : Cond.methodLink own index y_X_refuseFrom ∈ zws) (hR : rm_X_refuseFrom.frames + 1 ≤ R.frames ∧ 8 + (5 + 11) + rm_X_refuseFrom.locals ≤ R.locals) : CallW R s args own "TabledOrigin" index y_X_refuseFrom prog_1_method_27_code 5 (some .int) (Cond.code y_X_refuseFrom prog_1_method_27_code 5 (some .int) :: zws) rm_X_refuseFrom 0 0 1 := ⟨callB_of 1 hW (zgood k_534) rfl rfl rfl (hW _ k_1) (hW _ hl) hd_X_refuseFrom hR, hW _ k_533, hW _ ks_13⟩
abbrev y_X_notice : MethodName := ⟨"TabledOrigin", "notice", "()I"⟩
abbrev rm_X_notice : Room := { frames := 2, cells := 0, slots := 0, locals := 46 }
theorem hd_X_notice : y_X_notice.cls ≠ "java/lang/invoke/MethodHandle" ∧ y_X_notice.cls ≠ "java/lang/invoke/VarHandle" ∧ (parseMethodDescriptor y_X_notice.desc).map (fun d => d.parameters.length) = some 0 := by decide +kernel
theorem cw_X_notice {R : Room} {s : State} {args : Array Value} {own : String} {index : Nat} (hW : ∀ w ∈ zws, w.before args s = true) (hl : Cond.methodLink own index y_X_notice ∈ zws) (hR : rm_X_notice.frames + 1 ≤ R.frames ∧ 8 + (1 + 11) + rm_X_notice.locals ≤ R.locals) : CallW R s args own "TabledOrigin" index y_X_notice prog_1_method_12_code 1 (some .int) (Cond.code y_X_notice prog_1_method_12_code 1 (some .int) :: zws) rm_X_notice 0 0 0 := ⟨callB_of 0 hW (zgood k_530) rfl rfl rfl (hW _ k_1) (hW _ hl) hd_X_notice hR, hW _ k_528, hW _ k_529⟩
abbrev y_X_cancel : MethodName := ⟨"TabledOrigin", "cancel", "(I)Z"⟩
abbrev rm_X_cancel : Room := { frames := 1, cells := 0, slots := 0, locals := 22 }
theorem hd_X_cancel : y_X_cancel.cls ≠ "java/lang/invoke/MethodHandle" ∧ y_X_cancel.cls ≠ "java/lang/invoke/VarHandle" ∧ (parseMethodDescriptor y_X_cancel.desc).map (fun d => d.parameters.length) = some 1 := by decide +kernel
theorem cw_X_cancel {R : Room} {s : State} {args : Array Value} {own : String} {index : Nat} (hW : ∀ w ∈ zws, w.before args s = true) (hl : Cond.methodLink own index y_X_cancel ∈ zws) (hR : rm_X_cancel.frames + 1 ≤ R.frames ∧ 8 + (3 + 11) + rm_X_cancel.locals ≤ R.locals) : CallW R s args own "TabledOrigin" index y_X_cancel prog_1_method_13_code 3 (some .boolean) (Cond.code y_X_cancel prog_1_method_13_code 3 (some .boolean) :: zws) rm_X_cancel 0 0 1 := ⟨callB_of 1 hW (zgood k_539) rfl rfl rfl (hW _ k_1) (hW _ hl) hd_X_cancel hR, hW _ k_537, hW _ k_538⟩
abbrev y_X_tick : MethodName := ⟨"TabledOrigin", "tick", "(I)Z"⟩
abbrev rm_X_tick : Room := { frames := 0, cells := 0, slots := 0, locals := 0 }
theorem hd_X_tick : y_X_tick.cls ≠ "java/lang/invoke/MethodHandle" ∧ y_X_tick.cls ≠ "java/lang/invoke/VarHandle" ∧ (parseMethodDescriptor y_X_tick.desc).map (fun d => d.parameters.length) = some 1 := by decide +kernel
theorem cw_X_tick {R : Room} {s : State} {args : Array Value} {own : String} {index : Nat} (hW : ∀ w ∈ zws, w.before args s = true) (hl : Cond.methodLink own index y_X_tick ∈ zws) (hR : rm_X_tick.frames + 1 ≤ R.frames ∧ 8 + (2 + 11) + rm_X_tick.locals ≤ R.locals) : CallW R s args own "TabledOrigin" index y_X_tick prog_1_method_14_code 2 (some .boolean) (Cond.code y_X_tick prog_1_method_14_code 2 (some .boolean) :: zws) rm_X_tick 0 0 1 := ⟨callB_of 1 hW (zgood k_543) rfl rfl rfl (hW _ k_1) (hW _ hl) hd_X_tick hR, hW _ k_541, hW _ k_542⟩
abbrev y_X_outcome : MethodName := ⟨"TabledOrigin", "outcome", "(I)I"⟩
abbrev rm_X_outcome : Room := { frames := 1, cells := 0, slots := 0, locals := 21 }
theorem hd_X_outcome : y_X_outcome.cls ≠ "java/lang/invoke/MethodHandle" ∧ y_X_outcome.cls ≠ "java/lang/invoke/VarHandle" ∧ (parseMethodDescriptor y_X_outcome.desc).map (fun d => d.parameters.length) = some 1 := by decide +kernel
theorem cw_X_outcome {R : Room} {s : State} {args : Array Value} {own : String} {index : Nat} (hW : ∀ w ∈ zws, w.before args s = true) (hl : Cond.methodLink own index y_X_outcome ∈ zws) (hR : rm_X_outcome.frames + 1 ≤ R.frames ∧ 8 + (3 + 11) + rm_X_outcome.locals ≤ R.locals) : CallW R s args own "TabledOrigin" index y_X_outcome prog_1_method_15_code 3 (some .int) (Cond.code y_X_outcome prog_1_method_15_code 3 (some .int) :: zws) rm_X_outcome 0 0 1 := ⟨callB_of 1 hW (zgood k_547) rfl rfl rfl (hW _ k_1) (hW _ hl) hd_X_outcome hR, hW _ k_545, hW _ k_546⟩
abbrev y_X_content : MethodName := ⟨"TabledOrigin", "content", "(I)I"⟩
abbrev rm_X_content : Room := { frames := 1, cells := 0, slots := 0, locals := 21 }
theorem hd_X_content : y_X_content.cls ≠ "java/lang/invoke/MethodHandle" ∧ y_X_content.cls ≠ "java/lang/invoke/VarHandle" ∧ (parseMethodDescriptor y_X_content.desc).map (fun d => d.parameters.length) = some 1 := by decide +kernel
theorem cw_X_content {R : Room} {s : State} {args : Array Value} {own : String} {index : Nat} (hW : ∀ w ∈ zws, w.before args s = true) (hl : Cond.methodLink own index y_X_content ∈ zws) (hR : rm_X_content.frames + 1 ≤ R.frames ∧ 8 + (3 + 11) + rm_X_content.locals ≤ R.locals) : CallW R s args own "TabledOrigin" index y_X_content prog_1_method_16_code 3 (some .int) (Cond.code y_X_content prog_1_method_16_code 3 (some .int) :: zws) rm_X_content 0 0 1 := ⟨callB_of 1 hW (zgood k_551) rfl rfl rfl (hW _ k_1) (hW _ hl) hd_X_content hR, hW _ k_549, hW _ k_550⟩
abbrev y_X_stored : MethodName := ⟨"TabledOrigin", "stored", "(II)I"⟩
abbrev rm_X_stored : Room := { frames := 2, cells := 0, slots := 0, locals := 42 }
theorem hd_X_stored : y_X_stored.cls ≠ "java/lang/invoke/MethodHandle" ∧ y_X_stored.cls ≠ "java/lang/invoke/VarHandle" ∧ (parseMethodDescriptor y_X_stored.desc).map (fun d => d.parameters.length) = some 2 := by decide +kernel
theorem cw_X_stored {R : Room} {s : State} {args : Array Value} {own : String} {index : Nat} (hW : ∀ w ∈ zws, w.before args s = true) (hl : Cond.methodLink own index y_X_stored ∈ zws) (hR : rm_X_stored.frames + 1 ≤ R.frames ∧ 8 + (4 + 11) + rm_X_stored.locals ≤ R.locals) : CallW R s args own "TabledOrigin" index y_X_stored prog_1_method_17_code 4 (some .int) (Cond.code y_X_stored prog_1_method_17_code 4 (some .int) :: zws) rm_X_stored 0 0 2 := ⟨callB_of 2 hW (zgood k_555) rfl rfl rfl (hW _ k_1) (hW _ hl) hd_X_stored hR, hW _ k_553, hW _ k_554⟩
abbrev y_X_entry : MethodName := ⟨"TabledOrigin", "entry", "(II)I"⟩
abbrev rm_X_entry : Room := { frames := 2, cells := 0, slots := 0, locals := 46 }
theorem hd_X_entry : y_X_entry.cls ≠ "java/lang/invoke/MethodHandle" ∧ y_X_entry.cls ≠ "java/lang/invoke/VarHandle" ∧ (parseMethodDescriptor y_X_entry.desc).map (fun d => d.parameters.length) = some 2 := by decide +kernel
theorem cw_X_entry {R : Room} {s : State} {args : Array Value} {own : String} {index : Nat} (hW : ∀ w ∈ zws, w.before args s = true) (hl : Cond.methodLink own index y_X_entry ∈ zws) (hR : rm_X_entry.frames + 1 ≤ R.frames ∧ 8 + (5 + 11) + rm_X_entry.locals ≤ R.locals) : CallW R s args own "TabledOrigin" index y_X_entry prog_1_method_18_code 5 (some .int) (Cond.code y_X_entry prog_1_method_18_code 5 (some .int) :: zws) rm_X_entry 0 0 2 := ⟨callB_of 2 hW (zgood k_564) rfl rfl rfl (hW _ k_1) (hW _ hl) hd_X_entry hR, hW _ k_562, hW _ k_563⟩
abbrev y_X_blockedAnswers : MethodName := ⟨"TabledOrigin", "blockedAnswers", "()I"⟩
abbrev rm_X_blockedAnswers : Room := { frames := 1, cells := 0, slots := 0, locals := 21 }
theorem hd_X_blockedAnswers : y_X_blockedAnswers.cls ≠ "java/lang/invoke/MethodHandle" ∧ y_X_blockedAnswers.cls ≠ "java/lang/invoke/VarHandle" ∧ (parseMethodDescriptor y_X_blockedAnswers.desc).map (fun d => d.parameters.length) = some 0 := by decide +kernel
theorem cw_X_blockedAnswers {R : Room} {s : State} {args : Array Value} {own : String} {index : Nat} (hW : ∀ w ∈ zws, w.before args s = true) (hl : Cond.methodLink own index y_X_blockedAnswers ∈ zws) (hR : rm_X_blockedAnswers.frames + 1 ≤ R.frames ∧ 8 + (3 + 11) + rm_X_blockedAnswers.locals ≤ R.locals) : CallW R s args own "TabledOrigin" index y_X_blockedAnswers prog_1_method_25_code 3 (some .int) (Cond.code y_X_blockedAnswers prog_1_method_25_code 3 (some .int) :: zws) rm_X_blockedAnswers 0 0 0 := ⟨callB_of 0 hW (zgood k_578) rfl rfl rfl (hW _ k_1) (hW _ hl) hd_X_blockedAnswers hR, hW _ k_577, hW _ ks_14⟩
abbrev y_X_count : MethodName := ⟨"TabledOrigin", "count", "(I)I"⟩
abbrev rm_X_count : Room := { frames := 2, cells := 0, slots := 0, locals := 44 }
theorem hd_X_count : y_X_count.cls ≠ "java/lang/invoke/MethodHandle" ∧ y_X_count.cls ≠ "java/lang/invoke/VarHandle" ∧ (parseMethodDescriptor y_X_count.desc).map (fun d => d.parameters.length) = some 1 := by decide +kernel
theorem cw_X_count {R : Room} {s : State} {args : Array Value} {own : String} {index : Nat} (hW : ∀ w ∈ zws, w.before args s = true) (hl : Cond.methodLink own index y_X_count ∈ zws) (hR : rm_X_count.frames + 1 ≤ R.frames ∧ 8 + (3 + 11) + rm_X_count.locals ≤ R.locals) : CallW R s args own "TabledOrigin" index y_X_count prog_1_method_19_code 3 (some .int) (Cond.code y_X_count prog_1_method_19_code 3 (some .int) :: zws) rm_X_count 0 0 1 := ⟨callB_of 1 hW (zgood k_572) rfl rfl rfl (hW _ k_1) (hW _ hl) hd_X_count hR, hW _ k_570, hW _ k_571⟩
abbrev y_Y_init : MethodName := ⟨"TabledOriginModel", "<init>", "()V"⟩
abbrev rm_Y_init : Room := { frames := 1, cells := 27, slots := 2518, locals := 12 }
theorem hd_Y_init : y_Y_init.cls ≠ "java/lang/invoke/MethodHandle" ∧ y_Y_init.cls ≠ "java/lang/invoke/VarHandle" ∧ (parseMethodDescriptor y_Y_init.desc).map (fun d => d.parameters.length) = some 0 := by decide +kernel
theorem cw_Y_init {R : Room} {s : State} {args : Array Value} {own : String} {index : Nat} (hW : ∀ w ∈ zws, w.before args s = true) (hl : Cond.methodLink own index y_Y_init ∈ zws) (hR : rm_Y_init.frames + 1 ≤ R.frames ∧ 8 + (2 + 11) + rm_Y_init.locals ≤ R.locals) : CallB R s args own index y_Y_init prog_11_method_1_code 2 none (Cond.code y_Y_init prog_11_method_1_code 2 none :: zws) rm_Y_init 27 2518 0 ∧ y_Y_init.name = "<init>" ∧ (Cond.instanceMethod y_Y_init).before args s = true := cwI 0 hW (zgood k_583) rfl rfl rfl (hW _ k_8) (hW _ hl) (hW _ k_582) rfl hd_Y_init hR
abbrev y_Y_within : MethodName := ⟨"TabledOriginModel", "within", "(II)Z"⟩
abbrev rm_Y_within : Room := { frames := 0, cells := 0, slots := 0, locals := 0 }
theorem hd_Y_within : y_Y_within.cls ≠ "java/lang/invoke/MethodHandle" ∧ y_Y_within.cls ≠ "java/lang/invoke/VarHandle" ∧ (parseMethodDescriptor y_Y_within.desc).map (fun d => d.parameters.length) = some 2 := by decide +kernel
theorem cw_Y_within {R : Room} {s : State} {args : Array Value} {own : String} {index : Nat} (hW : ∀ w ∈ zws, w.before args s = true) (hl : Cond.methodLink own index y_Y_within ∈ zws) (hR : rm_Y_within.frames + 1 ≤ R.frames ∧ 8 + (2 + 11) + rm_Y_within.locals ≤ R.locals) : CallB R s args own index y_Y_within prog_11_method_2_code 2 (some .boolean) (Cond.code y_Y_within prog_11_method_2_code 2 (some .boolean) :: zws) rm_Y_within 0 0 2 ∧ (Cond.static y_Y_within).before args s = true := ⟨callB_of 2 hW (zgood k_713) rfl rfl rfl (hW _ k_8) (hW _ hl) hd_Y_within hR, hW _ k_712⟩
abbrev y_Y_need : MethodName := ⟨"TabledOriginModel", "need", "(I)I"⟩
abbrev rm_Y_need : Room := { frames := 0, cells := 0, slots := 0, locals := 0 }
theorem hd_Y_need : y_Y_need.cls ≠ "java/lang/invoke/MethodHandle" ∧ y_Y_need.cls ≠ "java/lang/invoke/VarHandle" ∧ (parseMethodDescriptor y_Y_need.desc).map (fun d => d.parameters.length) = some 1 := by decide +kernel
theorem cw_Y_need {R : Room} {s : State} {args : Array Value} {own : String} {index : Nat} (hW : ∀ w ∈ zws, w.before args s = true) (hl : Cond.methodLink own index y_Y_need ∈ zws) (hR : rm_Y_need.frames + 1 ≤ R.frames ∧ 8 + (4 + 11) + rm_Y_need.locals ≤ R.locals) : CallW R s args own "TabledOriginModel" index y_Y_need prog_11_method_4_code 4 (some .int) (Cond.code y_Y_need prog_11_method_4_code 4 (some .int) :: zws) rm_Y_need 0 0 1 := ⟨callB_of 1 hW (zgood k_741) rfl rfl rfl (hW _ k_8) (hW _ hl) hd_Y_need hR, hW _ k_740, hW _ ks_19⟩
abbrev y_Y_after : MethodName := ⟨"TabledOriginModel", "after", "(I)I"⟩
abbrev rm_Y_after : Room := { frames := 1, cells := 0, slots := 0, locals := 23 }
theorem hd_Y_after : y_Y_after.cls ≠ "java/lang/invoke/MethodHandle" ∧ y_Y_after.cls ≠ "java/lang/invoke/VarHandle" ∧ (parseMethodDescriptor y_Y_after.desc).map (fun d => d.parameters.length) = some 1 := by decide +kernel
theorem cw_Y_after {R : Room} {s : State} {args : Array Value} {own : String} {index : Nat} (hW : ∀ w ∈ zws, w.before args s = true) (hl : Cond.methodLink own index y_Y_after ∈ zws) (hR : rm_Y_after.frames + 1 ≤ R.frames ∧ 8 + (5 + 11) + rm_Y_after.locals ≤ R.locals) : CallW R s args own "TabledOriginModel" index y_Y_after prog_11_method_3_code 5 (some .int) (Cond.code y_Y_after prog_11_method_3_code 5 (some .int) :: zws) rm_Y_after 0 0 1 := ⟨callB_of 1 hW (zgood k_737) rfl rfl rfl (hW _ k_8) (hW _ hl) hd_Y_after hR, hW _ k_736, hW _ ks_18⟩
abbrev y_Y_outstanding : MethodName := ⟨"TabledOriginModel", "outstanding", "(I)Z"⟩
abbrev rm_Y_outstanding : Room := { frames := 1, cells := 0, slots := 0, locals := 23 }
theorem hd_Y_outstanding : y_Y_outstanding.cls ≠ "java/lang/invoke/MethodHandle" ∧ y_Y_outstanding.cls ≠ "java/lang/invoke/VarHandle" ∧ (parseMethodDescriptor y_Y_outstanding.desc).map (fun d => d.parameters.length) = some 1 := by decide +kernel
theorem cw_Y_outstanding {R : Room} {s : State} {args : Array Value} {own : String} {index : Nat} (hW : ∀ w ∈ zws, w.before args s = true) (hl : Cond.methodLink own index y_Y_outstanding ∈ zws) (hR : rm_Y_outstanding.frames + 1 ≤ R.frames ∧ 8 + (4 + 11) + rm_Y_outstanding.locals ≤ R.locals) : CallW R s args own "TabledOriginModel" index y_Y_outstanding prog_11_method_5_code 4 (some .boolean) (Cond.code y_Y_outstanding prog_11_method_5_code 4 (some .boolean) :: zws) rm_Y_outstanding 0 0 1 := ⟨callB_of 1 hW (zgood k_749) rfl rfl rfl (hW _ k_8) (hW _ hl) hd_Y_outstanding hR, hW _ k_748, hW _ ks_21⟩
abbrev y_Y_risky : MethodName := ⟨"TabledOriginModel", "risky", "(II)I"⟩
abbrev rm_Y_risky : Room := { frames := 2, cells := 0, slots := 0, locals := 46 }
theorem hd_Y_risky : y_Y_risky.cls ≠ "java/lang/invoke/MethodHandle" ∧ y_Y_risky.cls ≠ "java/lang/invoke/VarHandle" ∧ (parseMethodDescriptor y_Y_risky.desc).map (fun d => d.parameters.length) = some 2 := by decide +kernel
theorem cw_Y_risky {R : Room} {s : State} {args : Array Value} {own : String} {index : Nat} (hW : ∀ w ∈ zws, w.before args s = true) (hl : Cond.methodLink own index y_Y_risky ∈ zws) (hR : rm_Y_risky.frames + 1 ≤ R.frames ∧ 8 + (5 + 11) + rm_Y_risky.locals ≤ R.locals) : CallW R s args own "TabledOriginModel" index y_Y_risky prog_11_method_6_code 5 (some .int) (Cond.code y_Y_risky prog_11_method_6_code 5 (some .int) :: zws) rm_Y_risky 0 0 2 := ⟨callB_of 2 hW (zgood k_745) rfl rfl rfl (hW _ k_8) (hW _ hl) hd_Y_risky hR, hW _ k_744, hW _ ks_20⟩
abbrev y_Y_uses : MethodName := ⟨"TabledOriginModel", "uses", "(II)I"⟩
abbrev rm_Y_uses : Room := { frames := 2, cells := 0, slots := 0, locals := 46 }
theorem hd_Y_uses : y_Y_uses.cls ≠ "java/lang/invoke/MethodHandle" ∧ y_Y_uses.cls ≠ "java/lang/invoke/VarHandle" ∧ (parseMethodDescriptor y_Y_uses.desc).map (fun d => d.parameters.length) = some 2 := by decide +kernel
theorem cw_Y_uses {R : Room} {s : State} {args : Array Value} {own : String} {index : Nat} (hW : ∀ w ∈ zws, w.before args s = true) (hl : Cond.methodLink own index y_Y_uses ∈ zws) (hR : rm_Y_uses.frames + 1 ≤ R.frames ∧ 8 + (7 + 11) + rm_Y_uses.locals ≤ R.locals) : CallW R s args own "TabledOriginModel" index y_Y_uses prog_11_method_7_code 7 (some .int) (Cond.code y_Y_uses prog_11_method_7_code 7 (some .int) :: zws) rm_Y_uses 0 0 2 := ⟨callB_of 2 hW (zgood k_757) rfl rfl rfl (hW _ k_8) (hW _ hl) hd_Y_uses hR, hW _ k_756, hW _ ks_23⟩
abbrev y_Y_oldest : MethodName := ⟨"TabledOriginModel", "oldest", "()I"⟩
abbrev rm_Y_oldest : Room := { frames := 0, cells := 0, slots := 0, locals := 0 }
theorem hd_Y_oldest : y_Y_oldest.cls ≠ "java/lang/invoke/MethodHandle" ∧ y_Y_oldest.cls ≠ "java/lang/invoke/VarHandle" ∧ (parseMethodDescriptor y_Y_oldest.desc).map (fun d => d.parameters.length) = some 0 := by decide +kernel
theorem cw_Y_oldest {R : Room} {s : State} {args : Array Value} {own : String} {index : Nat} (hW : ∀ w ∈ zws, w.before args s = true) (hl : Cond.methodLink own index y_Y_oldest ∈ zws) (hR : rm_Y_oldest.frames + 1 ≤ R.frames ∧ 8 + (1 + 11) + rm_Y_oldest.locals ≤ R.locals) : CallW R s args own "TabledOriginModel" index y_Y_oldest prog_11_method_8_code 1 (some .int) (Cond.code y_Y_oldest prog_11_method_8_code 1 (some .int) :: zws) rm_Y_oldest 0 0 0 := ⟨callB_of 0 hW (zgood k_753) rfl rfl rfl (hW _ k_8) (hW _ hl) hd_Y_oldest hR, hW _ k_752, hW _ ks_22⟩
abbrev y_Y_tell : MethodName := ⟨"TabledOriginModel", "tell", "(II)V"⟩
abbrev rm_Y_tell : Room := { frames := 0, cells := 0, slots := 0, locals := 0 }
theorem hd_Y_tell : y_Y_tell.cls ≠ "java/lang/invoke/MethodHandle" ∧ y_Y_tell.cls ≠ "java/lang/invoke/VarHandle" ∧ (parseMethodDescriptor y_Y_tell.desc).map (fun d => d.parameters.length) = some 2 := by decide +kernel
theorem cw_Y_tell {R : Room} {s : State} {args : Array Value} {own : String} {index : Nat} (hW : ∀ w ∈ zws, w.before args s = true) (hl : Cond.methodLink own index y_Y_tell ∈ zws) (hR : rm_Y_tell.frames + 1 ≤ R.frames ∧ 8 + (3 + 11) + rm_Y_tell.locals ≤ R.locals) : CallW R s args own "TabledOriginModel" index y_Y_tell prog_11_method_9_code 3 none (Cond.code y_Y_tell prog_11_method_9_code 3 none :: zws) rm_Y_tell 0 0 2 := ⟨callB_of 2 hW (zgood k_789) rfl rfl rfl (hW _ k_8) (hW _ hl) hd_Y_tell hR, hW _ k_788, hW _ ks_26⟩
abbrev y_Y_write : MethodName := ⟨"TabledOriginModel", "write", "(III)I"⟩
abbrev rm_Y_write : Room := { frames := 0, cells := 0, slots := 0, locals := 0 }
theorem hd_Y_write : y_Y_write.cls ≠ "java/lang/invoke/MethodHandle" ∧ y_Y_write.cls ≠ "java/lang/invoke/VarHandle" ∧ (parseMethodDescriptor y_Y_write.desc).map (fun d => d.parameters.length) = some 3 := by decide +kernel
theorem cw_Y_write {R : Room} {s : State} {args : Array Value} {own : String} {index : Nat} (hW : ∀ w ∈ zws, w.before args s = true) (hl : Cond.methodLink own index y_Y_write ∈ zws) (hR : rm_Y_write.frames + 1 ≤ R.frames ∧ 8 + (4 + 11) + rm_Y_write.locals ≤ R.locals) : CallW R s args own "TabledOriginModel" index y_Y_write prog_11_method_10_code 4 (some .int) (Cond.code y_Y_write prog_11_method_10_code 4 (some .int) :: zws) rm_Y_write 0 0 3 := ⟨callB_of 3 hW (zgood k_717) rfl rfl rfl (hW _ k_8) (hW _ hl) hd_Y_write hR, hW _ k_716, hW _ ks_15⟩
abbrev y_Y_put : MethodName := ⟨"TabledOriginModel", "put", "(III)I"⟩
abbrev rm_Y_put : Room := { frames := 1, cells := 0, slots := 0, locals := 23 }
theorem hd_Y_put : y_Y_put.cls ≠ "java/lang/invoke/MethodHandle" ∧ y_Y_put.cls ≠ "java/lang/invoke/VarHandle" ∧ (parseMethodDescriptor y_Y_put.desc).map (fun d => d.parameters.length) = some 3 := by decide +kernel
theorem cw_Y_put {R : Room} {s : State} {args : Array Value} {own : String} {index : Nat} (hW : ∀ w ∈ zws, w.before args s = true) (hl : Cond.methodLink own index y_Y_put ∈ zws) (hR : rm_Y_put.frames + 1 ≤ R.frames ∧ 8 + (4 + 11) + rm_Y_put.locals ≤ R.locals) : CallW R s args own "TabledOriginModel" index y_Y_put prog_11_method_11_code 4 (some .int) (Cond.code y_Y_put prog_11_method_11_code 4 (some .int) :: zws) rm_Y_put 0 0 3 := ⟨callB_of 3 hW (zgood k_710) rfl rfl rfl (hW _ k_8) (hW _ hl) hd_Y_put hR, hW _ k_708, hW _ k_709⟩
abbrev y_Y_drop : MethodName := ⟨"TabledOriginModel", "drop", "(I)Z"⟩
abbrev rm_Y_drop : Room := { frames := 1, cells := 0, slots := 0, locals := 21 }
theorem hd_Y_drop : y_Y_drop.cls ≠ "java/lang/invoke/MethodHandle" ∧ y_Y_drop.cls ≠ "java/lang/invoke/VarHandle" ∧ (parseMethodDescriptor y_Y_drop.desc).map (fun d => d.parameters.length) = some 1 := by decide +kernel
theorem cw_Y_drop {R : Room} {s : State} {args : Array Value} {own : String} {index : Nat} (hW : ∀ w ∈ zws, w.before args s = true) (hl : Cond.methodLink own index y_Y_drop ∈ zws) (hR : rm_Y_drop.frames + 1 ≤ R.frames ∧ 8 + (2 + 11) + rm_Y_drop.locals ≤ R.locals) : CallW R s args own "TabledOriginModel" index y_Y_drop prog_11_method_12_code 2 (some .boolean) (Cond.code y_Y_drop prog_11_method_12_code 2 (some .boolean) :: zws) rm_Y_drop 0 0 1 := ⟨callB_of 1 hW (zgood k_721) rfl rfl rfl (hW _ k_8) (hW _ hl) hd_Y_drop hR, hW _ k_719, hW _ k_720⟩
abbrev y_Y_field : MethodName := ⟨"TabledOriginModel", "field", "(III)V"⟩
abbrev rm_Y_field : Room := { frames := 3, cells := 0, slots := 0, locals := 72 }
theorem hd_Y_field : y_Y_field.cls ≠ "java/lang/invoke/MethodHandle" ∧ y_Y_field.cls ≠ "java/lang/invoke/VarHandle" ∧ (parseMethodDescriptor y_Y_field.desc).map (fun d => d.parameters.length) = some 3 := by decide +kernel
theorem cw_Y_field {R : Room} {s : State} {args : Array Value} {own : String} {index : Nat} (hW : ∀ w ∈ zws, w.before args s = true) (hl : Cond.methodLink own index y_Y_field ∈ zws) (hR : rm_Y_field.frames + 1 ≤ R.frames ∧ 8 + (9 + 11) + rm_Y_field.locals ≤ R.locals) : CallW R s args own "TabledOriginModel" index y_Y_field prog_11_method_13_code 9 none (Cond.code y_Y_field prog_11_method_13_code 9 none :: zws) rm_Y_field 0 0 3 := ⟨callB_of 3 hW (zgood k_733) rfl rfl rfl (hW _ k_8) (hW _ hl) hd_Y_field hR, hW _ k_732, hW _ ks_17⟩
abbrev y_Y_decide : MethodName := ⟨"TabledOriginModel", "decide", "(I)I"⟩
abbrev rm_Y_decide : Room := { frames := 1, cells := 0, slots := 0, locals := 23 }
theorem hd_Y_decide : y_Y_decide.cls ≠ "java/lang/invoke/MethodHandle" ∧ y_Y_decide.cls ≠ "java/lang/invoke/VarHandle" ∧ (parseMethodDescriptor y_Y_decide.desc).map (fun d => d.parameters.length) = some 1 := by decide +kernel
theorem cw_Y_decide {R : Room} {s : State} {args : Array Value} {own : String} {index : Nat} (hW : ∀ w ∈ zws, w.before args s = true) (hl : Cond.methodLink own index y_Y_decide ∈ zws) (hR : rm_Y_decide.frames + 1 ≤ R.frames ∧ 8 + (3 + 11) + rm_Y_decide.locals ≤ R.locals) : CallW R s args own "TabledOriginModel" index y_Y_decide prog_11_method_14_code 3 (some .int) (Cond.code y_Y_decide prog_11_method_14_code 3 (some .int) :: zws) rm_Y_decide 0 0 1 := ⟨callB_of 1 hW (zgood k_729) rfl rfl rfl (hW _ k_8) (hW _ hl) hd_Y_decide hR, hW _ k_728, hW _ ks_16⟩
abbrev y_Y_arrive : MethodName := ⟨"TabledOriginModel", "arrive", "(I)I"⟩
abbrev rm_Y_arrive : Room := { frames := 4, cells := 0, slots := 0, locals := 100 }
theorem hd_Y_arrive : y_Y_arrive.cls ≠ "java/lang/invoke/MethodHandle" ∧ y_Y_arrive.cls ≠ "java/lang/invoke/VarHandle" ∧ (parseMethodDescriptor y_Y_arrive.desc).map (fun d => d.parameters.length) = some 1 := by decide +kernel
theorem cw_Y_arrive {R : Room} {s : State} {args : Array Value} {own : String} {index : Nat} (hW : ∀ w ∈ zws, w.before args s = true) (hl : Cond.methodLink own index y_Y_arrive ∈ zws) (hR : rm_Y_arrive.frames + 1 ≤ R.frames ∧ 8 + (4 + 11) + rm_Y_arrive.locals ≤ R.locals) : CallW R s args own "TabledOriginModel" index y_Y_arrive prog_11_method_15_code 4 (some .int) (Cond.code y_Y_arrive prog_11_method_15_code 4 (some .int) :: zws) rm_Y_arrive 0 0 1 := ⟨callB_of 1 hW (zgood k_725) rfl rfl rfl (hW _ k_8) (hW _ hl) hd_Y_arrive hR, hW _ k_723, hW _ k_724⟩
abbrev y_Y_feedback : MethodName := ⟨"TabledOriginModel", "feedback", "()I"⟩
abbrev rm_Y_feedback : Room := { frames := 0, cells := 0, slots := 0, locals := 0 }
theorem hd_Y_feedback : y_Y_feedback.cls ≠ "java/lang/invoke/MethodHandle" ∧ y_Y_feedback.cls ≠ "java/lang/invoke/VarHandle" ∧ (parseMethodDescriptor y_Y_feedback.desc).map (fun d => d.parameters.length) = some 0 := by decide +kernel
theorem cw_Y_feedback {R : Room} {s : State} {args : Array Value} {own : String} {index : Nat} (hW : ∀ w ∈ zws, w.before args s = true) (hl : Cond.methodLink own index y_Y_feedback ∈ zws) (hR : rm_Y_feedback.frames + 1 ≤ R.frames ∧ 8 + (1 + 11) + rm_Y_feedback.locals ≤ R.locals) : CallW R s args own "TabledOriginModel" index y_Y_feedback prog_11_method_16_code 1 (some .int) (Cond.code y_Y_feedback prog_11_method_16_code 1 (some .int) :: zws) rm_Y_feedback 0 0 0 := ⟨callB_of 0 hW (zgood k_761) rfl rfl rfl (hW _ k_8) (hW _ hl) hd_Y_feedback hR, hW _ k_759, hW _ k_760⟩
abbrev y_Y_goaway : MethodName := ⟨"TabledOriginModel", "goaway", "()I"⟩
abbrev rm_Y_goaway : Room := { frames := 0, cells := 0, slots := 0, locals := 0 }
theorem hd_Y_goaway : y_Y_goaway.cls ≠ "java/lang/invoke/MethodHandle" ∧ y_Y_goaway.cls ≠ "java/lang/invoke/VarHandle" ∧ (parseMethodDescriptor y_Y_goaway.desc).map (fun d => d.parameters.length) = some 0 := by decide +kernel
theorem cw_Y_goaway {R : Room} {s : State} {args : Array Value} {own : String} {index : Nat} (hW : ∀ w ∈ zws, w.before args s = true) (hl : Cond.methodLink own index y_Y_goaway ∈ zws) (hR : rm_Y_goaway.frames + 1 ≤ R.frames ∧ 8 + (1 + 11) + rm_Y_goaway.locals ≤ R.locals) : CallW R s args own "TabledOriginModel" index y_Y_goaway prog_11_method_17_code 1 (some .int) (Cond.code y_Y_goaway prog_11_method_17_code 1 (some .int) :: zws) rm_Y_goaway 0 0 0 := ⟨callB_of 0 hW (zgood k_765) rfl rfl rfl (hW _ k_8) (hW _ hl) hd_Y_goaway hR, hW _ k_763, hW _ k_764⟩
abbrev y_Y_ask : MethodName := ⟨"TabledOriginModel", "ask", "(IZII)I"⟩
abbrev rm_Y_ask : Room := { frames := 0, cells := 0, slots := 0, locals := 0 }
theorem hd_Y_ask : y_Y_ask.cls ≠ "java/lang/invoke/MethodHandle" ∧ y_Y_ask.cls ≠ "java/lang/invoke/VarHandle" ∧ (parseMethodDescriptor y_Y_ask.desc).map (fun d => d.parameters.length) = some 4 := by decide +kernel
theorem cw_Y_ask {R : Room} {s : State} {args : Array Value} {own : String} {index : Nat} (hW : ∀ w ∈ zws, w.before args s = true) (hl : Cond.methodLink own index y_Y_ask ∈ zws) (hR : rm_Y_ask.frames + 1 ≤ R.frames ∧ 8 + (7 + 11) + rm_Y_ask.locals ≤ R.locals) : CallW R s args own "TabledOriginModel" index y_Y_ask prog_11_method_18_code 7 (some .int) (Cond.code y_Y_ask prog_11_method_18_code 7 (some .int) :: zws) rm_Y_ask 0 0 4 := ⟨callB_of 4 hW (zgood k_773) rfl rfl rfl (hW _ k_8) (hW _ hl) hd_Y_ask hR, hW _ k_772, hW _ ks_24⟩
abbrev y_Y_get : MethodName := ⟨"TabledOriginModel", "get", "(I)I"⟩
abbrev rm_Y_get : Room := { frames := 1, cells := 0, slots := 0, locals := 26 }
theorem hd_Y_get : y_Y_get.cls ≠ "java/lang/invoke/MethodHandle" ∧ y_Y_get.cls ≠ "java/lang/invoke/VarHandle" ∧ (parseMethodDescriptor y_Y_get.desc).map (fun d => d.parameters.length) = some 1 := by decide +kernel
theorem cw_Y_get {R : Room} {s : State} {args : Array Value} {own : String} {index : Nat} (hW : ∀ w ∈ zws, w.before args s = true) (hl : Cond.methodLink own index y_Y_get ∈ zws) (hR : rm_Y_get.frames + 1 ≤ R.frames ∧ 8 + (2 + 11) + rm_Y_get.locals ≤ R.locals) : CallW R s args own "TabledOriginModel" index y_Y_get prog_11_method_19_code 2 (some .int) (Cond.code y_Y_get prog_11_method_19_code 2 (some .int) :: zws) rm_Y_get 0 0 1 := ⟨callB_of 1 hW (zgood k_769) rfl rfl rfl (hW _ k_8) (hW _ hl) hd_Y_get hR, hW _ k_767, hW _ k_768⟩
abbrev y_Y_replace : MethodName := ⟨"TabledOriginModel", "replace", "(III)I"⟩
abbrev rm_Y_replace : Room := { frames := 1, cells := 0, slots := 0, locals := 26 }
theorem hd_Y_replace : y_Y_replace.cls ≠ "java/lang/invoke/MethodHandle" ∧ y_Y_replace.cls ≠ "java/lang/invoke/VarHandle" ∧ (parseMethodDescriptor y_Y_replace.desc).map (fun d => d.parameters.length) = some 3 := by decide +kernel
theorem cw_Y_replace {R : Room} {s : State} {args : Array Value} {own : String} {index : Nat} (hW : ∀ w ∈ zws, w.before args s = true) (hl : Cond.methodLink own index y_Y_replace ∈ zws) (hR : rm_Y_replace.frames + 1 ≤ R.frames ∧ 8 + (4 + 11) + rm_Y_replace.locals ≤ R.locals) : CallW R s args own "TabledOriginModel" index y_Y_replace prog_11_method_20_code 4 (some .int) (Cond.code y_Y_replace prog_11_method_20_code 4 (some .int) :: zws) rm_Y_replace 0 0 3 := ⟨callB_of 3 hW (zgood k_777) rfl rfl rfl (hW _ k_8) (hW _ hl) hd_Y_replace hR, hW _ k_775, hW _ k_776⟩
abbrev y_Y_read : MethodName := ⟨"TabledOriginModel", "read", "(I)I"⟩
abbrev rm_Y_read : Room := { frames := 1, cells := 0, slots := 0, locals := 23 }
theorem hd_Y_read : y_Y_read.cls ≠ "java/lang/invoke/MethodHandle" ∧ y_Y_read.cls ≠ "java/lang/invoke/VarHandle" ∧ (parseMethodDescriptor y_Y_read.desc).map (fun d => d.parameters.length) = some 1 := by decide +kernel
theorem cw_Y_read {R : Room} {s : State} {args : Array Value} {own : String} {index : Nat} (hW : ∀ w ∈ zws, w.before args s = true) (hl : Cond.methodLink own index y_Y_read ∈ zws) (hR : rm_Y_read.frames + 1 ≤ R.frames ∧ 8 + (5 + 11) + rm_Y_read.locals ≤ R.locals) : CallW R s args own "TabledOriginModel" index y_Y_read prog_11_method_21_code 5 (some .int) (Cond.code y_Y_read prog_11_method_21_code 5 (some .int) :: zws) rm_Y_read 0 0 1 := ⟨callB_of 1 hW (zgood k_785) rfl rfl rfl (hW _ k_8) (hW _ hl) hd_Y_read hR, hW _ k_784, hW _ ks_25⟩
abbrev y_Y_reply : MethodName := ⟨"TabledOriginModel", "reply", "(I)I"⟩
abbrev rm_Y_reply : Room := { frames := 2, cells := 0, slots := 0, locals := 47 }
theorem hd_Y_reply : y_Y_reply.cls ≠ "java/lang/invoke/MethodHandle" ∧ y_Y_reply.cls ≠ "java/lang/invoke/VarHandle" ∧ (parseMethodDescriptor y_Y_reply.desc).map (fun d => d.parameters.length) = some 1 := by decide +kernel
theorem cw_Y_reply {R : Room} {s : State} {args : Array Value} {own : String} {index : Nat} (hW : ∀ w ∈ zws, w.before args s = true) (hl : Cond.methodLink own index y_Y_reply ∈ zws) (hR : rm_Y_reply.frames + 1 ≤ R.frames ∧ 8 + (2 + 11) + rm_Y_reply.locals ≤ R.locals) : CallW R s args own "TabledOriginModel" index y_Y_reply prog_11_method_22_code 2 (some .int) (Cond.code y_Y_reply prog_11_method_22_code 2 (some .int) :: zws) rm_Y_reply 0 0 1 := ⟨callB_of 1 hW (zgood k_781) rfl rfl rfl (hW _ k_8) (hW _ hl) hd_Y_reply hR, hW _ k_779, hW _ k_780⟩
abbrev y_Y_insert : MethodName := ⟨"TabledOriginModel", "insert", "()I"⟩
abbrev rm_Y_insert : Room := { frames := 2, cells := 0, slots := 0, locals := 47 }
theorem hd_Y_insert : y_Y_insert.cls ≠ "java/lang/invoke/MethodHandle" ∧ y_Y_insert.cls ≠ "java/lang/invoke/VarHandle" ∧ (parseMethodDescriptor y_Y_insert.desc).map (fun d => d.parameters.length) = some 0 := by decide +kernel
theorem cw_Y_insert {R : Room} {s : State} {args : Array Value} {own : String} {index : Nat} (hW : ∀ w ∈ zws, w.before args s = true) (hl : Cond.methodLink own index y_Y_insert ∈ zws) (hR : rm_Y_insert.frames + 1 ≤ R.frames ∧ 8 + (4 + 11) + rm_Y_insert.locals ≤ R.locals) : CallW R s args own "TabledOriginModel" index y_Y_insert prog_11_method_23_code 4 (some .int) (Cond.code y_Y_insert prog_11_method_23_code 4 (some .int) :: zws) rm_Y_insert 0 0 0 := ⟨callB_of 0 hW (zgood k_793) rfl rfl rfl (hW _ k_8) (hW _ hl) hd_Y_insert hR, hW _ k_791, hW _ k_792⟩
abbrev y_Y_report : MethodName := ⟨"TabledOriginModel", "report", "()Z"⟩
abbrev rm_Y_report : Room := { frames := 2, cells := 0, slots := 0, locals := 47 }
theorem hd_Y_report : y_Y_report.cls ≠ "java/lang/invoke/MethodHandle" ∧ y_Y_report.cls ≠ "java/lang/invoke/VarHandle" ∧ (parseMethodDescriptor y_Y_report.desc).map (fun d => d.parameters.length) = some 0 := by decide +kernel
theorem cw_Y_report {R : Room} {s : State} {args : Array Value} {own : String} {index : Nat} (hW : ∀ w ∈ zws, w.before args s = true) (hl : Cond.methodLink own index y_Y_report ∈ zws) (hR : rm_Y_report.frames + 1 ≤ R.frames ∧ 8 + (2 + 11) + rm_Y_report.locals ≤ R.locals) : CallW R s args own "TabledOriginModel" index y_Y_report prog_11_method_24_code 2 (some .boolean) (Cond.code y_Y_report prog_11_method_24_code 2 (some .boolean) :: zws) rm_Y_report 0 0 0 := ⟨callB_of 0 hW (zgood k_797) rfl rfl rfl (hW _ k_8) (hW _ hl) hd_Y_report hR, hW _ k_795, hW _ k_796⟩
abbrev y_Y_notice : MethodName := ⟨"TabledOriginModel", "notice", "()I"⟩
abbrev rm_Y_notice : Room := { frames := 0, cells := 0, slots := 0, locals := 0 }
theorem hd_Y_notice : y_Y_notice.cls ≠ "java/lang/invoke/MethodHandle" ∧ y_Y_notice.cls ≠ "java/lang/invoke/VarHandle" ∧ (parseMethodDescriptor y_Y_notice.desc).map (fun d => d.parameters.length) = some 0 := by decide +kernel
theorem cw_Y_notice {R : Room} {s : State} {args : Array Value} {own : String} {index : Nat} (hW : ∀ w ∈ zws, w.before args s = true) (hl : Cond.methodLink own index y_Y_notice ∈ zws) (hR : rm_Y_notice.frames + 1 ≤ R.frames ∧ 8 + (3 + 11) + rm_Y_notice.locals ≤ R.locals) : CallW R s args own "TabledOriginModel" index y_Y_notice prog_11_method_25_code 3 (some .int) (Cond.code y_Y_notice prog_11_method_25_code 3 (some .int) :: zws) rm_Y_notice 0 0 0 := ⟨callB_of 0 hW (zgood k_801) rfl rfl rfl (hW _ k_8) (hW _ hl) hd_Y_notice hR, hW _ k_799, hW _ k_800⟩
abbrev y_Y_cancel : MethodName := ⟨"TabledOriginModel", "cancel", "(I)Z"⟩
abbrev rm_Y_cancel : Room := { frames := 1, cells := 0, slots := 0, locals := 22 }
theorem hd_Y_cancel : y_Y_cancel.cls ≠ "java/lang/invoke/MethodHandle" ∧ y_Y_cancel.cls ≠ "java/lang/invoke/VarHandle" ∧ (parseMethodDescriptor y_Y_cancel.desc).map (fun d => d.parameters.length) = some 1 := by decide +kernel
theorem cw_Y_cancel {R : Room} {s : State} {args : Array Value} {own : String} {index : Nat} (hW : ∀ w ∈ zws, w.before args s = true) (hl : Cond.methodLink own index y_Y_cancel ∈ zws) (hR : rm_Y_cancel.frames + 1 ≤ R.frames ∧ 8 + (2 + 11) + rm_Y_cancel.locals ≤ R.locals) : CallW R s args own "TabledOriginModel" index y_Y_cancel prog_11_method_26_code 2 (some .boolean) (Cond.code y_Y_cancel prog_11_method_26_code 2 (some .boolean) :: zws) rm_Y_cancel 0 0 1 := ⟨callB_of 1 hW (zgood k_805) rfl rfl rfl (hW _ k_8) (hW _ hl) hd_Y_cancel hR, hW _ k_803, hW _ k_804⟩
abbrev y_Y_tick : MethodName := ⟨"TabledOriginModel", "tick", "(I)Z"⟩
abbrev rm_Y_tick : Room := { frames := 1, cells := 0, slots := 0, locals := 21 }
theorem hd_Y_tick : y_Y_tick.cls ≠ "java/lang/invoke/MethodHandle" ∧ y_Y_tick.cls ≠ "java/lang/invoke/VarHandle" ∧ (parseMethodDescriptor y_Y_tick.desc).map (fun d => d.parameters.length) = some 1 := by decide +kernel
theorem cw_Y_tick {R : Room} {s : State} {args : Array Value} {own : String} {index : Nat} (hW : ∀ w ∈ zws, w.before args s = true) (hl : Cond.methodLink own index y_Y_tick ∈ zws) (hR : rm_Y_tick.frames + 1 ≤ R.frames ∧ 8 + (2 + 11) + rm_Y_tick.locals ≤ R.locals) : CallW R s args own "TabledOriginModel" index y_Y_tick prog_11_method_27_code 2 (some .boolean) (Cond.code y_Y_tick prog_11_method_27_code 2 (some .boolean) :: zws) rm_Y_tick 0 0 1 := ⟨callB_of 1 hW (zgood k_809) rfl rfl rfl (hW _ k_8) (hW _ hl) hd_Y_tick hR, hW _ k_807, hW _ k_808⟩
abbrev y_Y_outcome : MethodName := ⟨"TabledOriginModel", "outcome", "(I)I"⟩
abbrev rm_Y_outcome : Room := { frames := 1, cells := 0, slots := 0, locals := 21 }
theorem hd_Y_outcome : y_Y_outcome.cls ≠ "java/lang/invoke/MethodHandle" ∧ y_Y_outcome.cls ≠ "java/lang/invoke/VarHandle" ∧ (parseMethodDescriptor y_Y_outcome.desc).map (fun d => d.parameters.length) = some 1 := by decide +kernel
theorem cw_Y_outcome {R : Room} {s : State} {args : Array Value} {own : String} {index : Nat} (hW : ∀ w ∈ zws, w.before args s = true) (hl : Cond.methodLink own index y_Y_outcome ∈ zws) (hR : rm_Y_outcome.frames + 1 ≤ R.frames ∧ 8 + (2 + 11) + rm_Y_outcome.locals ≤ R.locals) : CallW R s args own "TabledOriginModel" index y_Y_outcome prog_11_method_28_code 2 (some .int) (Cond.code y_Y_outcome prog_11_method_28_code 2 (some .int) :: zws) rm_Y_outcome 0 0 1 := ⟨callB_of 1 hW (zgood k_813) rfl rfl rfl (hW _ k_8) (hW _ hl) hd_Y_outcome hR, hW _ k_811, hW _ k_812⟩
abbrev y_Y_content : MethodName := ⟨"TabledOriginModel", "content", "(I)I"⟩
abbrev rm_Y_content : Room := { frames := 1, cells := 0, slots := 0, locals := 21 }
theorem hd_Y_content : y_Y_content.cls ≠ "java/lang/invoke/MethodHandle" ∧ y_Y_content.cls ≠ "java/lang/invoke/VarHandle" ∧ (parseMethodDescriptor y_Y_content.desc).map (fun d => d.parameters.length) = some 1 := by decide +kernel
theorem cw_Y_content {R : Room} {s : State} {args : Array Value} {own : String} {index : Nat} (hW : ∀ w ∈ zws, w.before args s = true) (hl : Cond.methodLink own index y_Y_content ∈ zws) (hR : rm_Y_content.frames + 1 ≤ R.frames ∧ 8 + (3 + 11) + rm_Y_content.locals ≤ R.locals) : CallW R s args own "TabledOriginModel" index y_Y_content prog_11_method_29_code 3 (some .int) (Cond.code y_Y_content prog_11_method_29_code 3 (some .int) :: zws) rm_Y_content 0 0 1 := ⟨callB_of 1 hW (zgood k_817) rfl rfl rfl (hW _ k_8) (hW _ hl) hd_Y_content hR, hW _ k_815, hW _ k_816⟩
abbrev y_Y_stored : MethodName := ⟨"TabledOriginModel", "stored", "(II)I"⟩
abbrev rm_Y_stored : Room := { frames := 1, cells := 0, slots := 0, locals := 21 }
theorem hd_Y_stored : y_Y_stored.cls ≠ "java/lang/invoke/MethodHandle" ∧ y_Y_stored.cls ≠ "java/lang/invoke/VarHandle" ∧ (parseMethodDescriptor y_Y_stored.desc).map (fun d => d.parameters.length) = some 2 := by decide +kernel
theorem cw_Y_stored {R : Room} {s : State} {args : Array Value} {own : String} {index : Nat} (hW : ∀ w ∈ zws, w.before args s = true) (hl : Cond.methodLink own index y_Y_stored ∈ zws) (hR : rm_Y_stored.frames + 1 ≤ R.frames ∧ 8 + (4 + 11) + rm_Y_stored.locals ≤ R.locals) : CallW R s args own "TabledOriginModel" index y_Y_stored prog_11_method_30_code 4 (some .int) (Cond.code y_Y_stored prog_11_method_30_code 4 (some .int) :: zws) rm_Y_stored 0 0 2 := ⟨callB_of 2 hW (zgood k_821) rfl rfl rfl (hW _ k_8) (hW _ hl) hd_Y_stored hR, hW _ k_819, hW _ k_820⟩
abbrev y_Y_entry : MethodName := ⟨"TabledOriginModel", "entry", "(II)I"⟩
abbrev rm_Y_entry : Room := { frames := 3, cells := 0, slots := 0, locals := 72 }
theorem hd_Y_entry : y_Y_entry.cls ≠ "java/lang/invoke/MethodHandle" ∧ y_Y_entry.cls ≠ "java/lang/invoke/VarHandle" ∧ (parseMethodDescriptor y_Y_entry.desc).map (fun d => d.parameters.length) = some 2 := by decide +kernel
theorem cw_Y_entry {R : Room} {s : State} {args : Array Value} {own : String} {index : Nat} (hW : ∀ w ∈ zws, w.before args s = true) (hl : Cond.methodLink own index y_Y_entry ∈ zws) (hR : rm_Y_entry.frames + 1 ≤ R.frames ∧ 8 + (4 + 11) + rm_Y_entry.locals ≤ R.locals) : CallW R s args own "TabledOriginModel" index y_Y_entry prog_11_method_31_code 4 (some .int) (Cond.code y_Y_entry prog_11_method_31_code 4 (some .int) :: zws) rm_Y_entry 0 0 2 := ⟨callB_of 2 hW (zgood k_825) rfl rfl rfl (hW _ k_8) (hW _ hl) hd_Y_entry hR, hW _ k_823, hW _ k_824⟩
abbrev y_Y_count : MethodName := ⟨"TabledOriginModel", "count", "(I)I"⟩
abbrev rm_Y_count : Room := { frames := 3, cells := 0, slots := 0, locals := 70 }
theorem hd_Y_count : y_Y_count.cls ≠ "java/lang/invoke/MethodHandle" ∧ y_Y_count.cls ≠ "java/lang/invoke/VarHandle" ∧ (parseMethodDescriptor y_Y_count.desc).map (fun d => d.parameters.length) = some 1 := by decide +kernel
theorem cw_Y_count {R : Room} {s : State} {args : Array Value} {own : String} {index : Nat} (hW : ∀ w ∈ zws, w.before args s = true) (hl : Cond.methodLink own index y_Y_count ∈ zws) (hR : rm_Y_count.frames + 1 ≤ R.frames ∧ 8 + (5 + 11) + rm_Y_count.locals ≤ R.locals) : CallW R s args own "TabledOriginModel" index y_Y_count prog_11_method_32_code 5 (some .int) (Cond.code y_Y_count prog_11_method_32_code 5 (some .int) :: zws) rm_Y_count 0 0 1 := ⟨callB_of 1 hW (zgood k_829) rfl rfl rfl (hW _ k_8) (hW _ hl) hd_Y_count hR, hW _ k_827, hW _ k_828⟩
end
section
/-! memory of small objects and arrays, as three functions: type of an address, its ints, its references -/
abbrev zM : Type := (Nat → Option (Nat × Nat)) × (Nat → Nat → Int32) × (Nat → Nat → Option Nat)
def zT (M : zM) (a : Nat) : Option (Nat × Nat) := M.1 a
def zI (M : zM) (a k : Nat) : Int32 := M.2.1 a k
def zR (M : zM) (a k : Nat) : Option Nat := M.2.2 a k
def zwI (M : zM) (a k : Nat) (v : Int32) : zM := (M.1, (fun b j => if b = a ∧ j = k then v else M.2.1 b j), M.2.2)
def zwR (M : zM) (a k : Nat) (v : Option Nat) : zM := (M.1, M.2.1, (fun b j => if b = a ∧ j = k then v else M.2.2 b j))
def znw (M : zM) (a : Nat) (t : Nat × Nat) : zM := ((fun b => if b = a then some t else M.1 b), (fun b j => if b = a then 0 else M.2.1 b j), (fun b j => if b = a then none else M.2.2 b j))
theorem zT_wI (M : zM) (a k : Nat) (v : Int32) (b : Nat) : zT (zwI M a k v) b = zT M b := rfl
theorem zT_wR (M : zM) (a k : Nat) (v : Option Nat) (b : Nat) : zT (zwR M a k v) b = zT M b := rfl
theorem zT_nw (M : zM) (a : Nat) (t : Nat × Nat) (b : Nat) : zT (znw M a t) b = if b = a then some t else zT M b := rfl
theorem zI_wI (M : zM) (a k : Nat) (v : Int32) (b j : Nat) : zI (zwI M a k v) b j = if b = a ∧ j = k then v else zI M b j := rfl
theorem zI_wR (M : zM) (a k : Nat) (v : Option Nat) (b j : Nat) : zI (zwR M a k v) b j = zI M b j := rfl
theorem zI_nw (M : zM) (a : Nat) (t : Nat × Nat) (b j : Nat) : zI (znw M a t) b j = if b = a then 0 else zI M b j := rfl
theorem zR_wI (M : zM) (a k : Nat) (v : Int32) (b j : Nat) : zR (zwI M a k v) b j = zR M b j := rfl
theorem zR_wR (M : zM) (a k : Nat) (v : Option Nat) (b j : Nat) : zR (zwR M a k v) b j = if b = a ∧ j = k then v else zR M b j := rfl
theorem zR_nw (M : zM) (a : Nat) (t : Nat × Nat) (b j : Nat) : zR (znw M a t) b j = if b = a then none else zR M b j := rfl
def zfv (M : zM) (a : Nat) : Nat → List Bool → List Value
  | _, [] => []
  | k, b :: r => (if b then va_rf (zR M a k) else .int (zI M a k)) :: zfv M a (k + 1) r
theorem zfv_get (M : zM) (a : Nat) : ∀ (bs : List Bool) (o k : Nat) (b : Bool), bs[k]? = some b → (zfv M a o bs)[k]? = some (if b then va_rf (zR M a (o + k)) else .int (zI M a (o + k)))
  | [], o, k, b, h => by simp at h
  | c :: r, o, 0, b, h => by
    simp only [List.getElem?_cons_zero] at h
    cases h
    simp [zfv]
  | c :: r, o, k + 1, b, h => by
    simp only [List.getElem?_cons_succ] at h
    have := zfv_get M a r (o + 1) k b h
    simp only [zfv, List.getElem?_cons_succ]
    rw [this, show o + 1 + k = o + (k + 1) by omega]
theorem zfv_len (M : zM) (a : Nat) : ∀ (bs : List Bool) (o : Nat), (zfv M a o bs).length = bs.length
  | [], _ => rfl
  | _ :: r, o => by simp [zfv, zfv_len M a r (o + 1)]
theorem zfv_congr {M M' : zM} {a : Nat} : ∀ (bs : List Bool) (o : Nat), (∀ j, o ≤ j → zI M' a j = zI M a j ∧ zR M' a j = zR M a j) → zfv M' a o bs = zfv M a o bs
  | [], _, _ => rfl
  | b :: r, o, h => by
    simp only [zfv]
    rw [(h o (Nat.le_refl _)).1, (h o (Nat.le_refl _)).2, zfv_congr r (o + 1) (fun j hj => h j (by omega))]
theorem zfv_setI (M : zM) (a : Nat) (v : Int32) : ∀ (bs : List Bool) (o k : Nat), bs[k]? = some false → (zfv M a o bs).set k (.int v) = zfv (zwI M a (o + k) v) a o bs
  | [], o, k, h => by simp at h
  | c :: r, o, 0, h => by
    simp only [List.getElem?_cons_zero] at h
    cases h
    simp only [zfv, List.set_cons_zero]
    rw [zfv_congr (M := M) (M' := zwI M a (o + 0) v) r (o + 1) (fun j hj => ⟨by rw [zI_wI, if_neg (by omega)], rfl⟩)]
    simp [zI_wI]
  | c :: r, o, k + 1, h => by
    simp only [List.getElem?_cons_succ] at h
    have ih := zfv_setI M a v r (o + 1) k h
    simp only [zfv, List.set_cons_succ]
    rw [ih, show o + 1 + k = o + (k + 1) by omega, zI_wI, if_neg (show ¬ (a = a ∧ o = o + (k + 1)) by omega), zR_wI]
theorem zfv_setR (M : zM) (a : Nat) (v : Option Nat) : ∀ (bs : List Bool) (o k : Nat), bs[k]? = some true → (zfv M a o bs).set k (va_rf v) = zfv (zwR M a (o + k) v) a o bs
  | [], o, k, h => by simp at h
  | c :: r, o, 0, h => by
    simp only [List.getElem?_cons_zero] at h
    cases h
    simp only [zfv, List.set_cons_zero]
    rw [zfv_congr (M := M) (M' := zwR M a (o + 0) v) r (o + 1) (fun j hj => ⟨rfl, by rw [zR_wR, if_neg (by omega)]⟩)]
    simp [zR_wR]
  | c :: r, o, k + 1, h => by
    simp only [List.getElem?_cons_succ] at h
    have ih := zfv_setR M a v r (o + 1) k h
    simp only [zfv, List.set_cons_succ]
    rw [ih, show o + 1 + k = o + (k + 1) by omega, zR_wR, if_neg (show ¬ (a = a ∧ o = o + (k + 1)) by omega), zI_wR]
def zdf (bs : List Bool) : List Value := bs.map fun b => if b then .null else .int 0
theorem zfv_new (M : zM) (a : Nat) (t : Nat × Nat) : ∀ (bs : List Bool) (o : Nat), zfv (znw M a t) a o bs = zdf bs
  | [], _ => rfl
  | b :: r, o => by
    simp only [zfv, zdf, List.map_cons]
    have := zfv_new M a t r (o + 1)
    simp only [zdf] at this
    rw [this, zI_nw, zR_nw, if_pos rfl, if_pos rfl]
    rfl
def zcel (ca : Nat → ClassId) (M : zM) (a : Nat) (t : Nat × Nat) : va_E :=
  if t.1 < 20 then .inr (t.1, zfv M a 0 (zfl t.1))
  else if t.1 < 22 then .inl (ca t.1, t.2, .inl (zI M a))
  else .inl (ca t.1, t.2, .inr (.inr (.inr (.inr (zR M a)))))
theorem zcel_congr {ca : Nat → ClassId} {M M' : zM} {a : Nat} {t : Nat × Nat} (hI : ∀ j, zI M' a j = zI M a j) (hR : ∀ j, zR M' a j = zR M a j) : zcel ca M' a t = zcel ca M a t := by
  unfold zcel
  rw [zfv_congr (M := M) (M' := M') _ 0 (fun j _ => ⟨hI j, hR j⟩), show zI M' a = zI M a from funext hI, show zR M' a = zR M a from funext hR]
def zW (ca : Nat → ClassId) (D : va_G) (cl : List vw_C) (A : Nat → Prop) (M : zM) (H : Heap) : Prop :=
  ∃ ws : va_W, va_P D cl ws H ∧ va_D A ws ∧ (∀ (a : Nat) (t : Nat × Nat), zT M a = some t → (a, zcel ca M a t) ∈ ws) ∧ ∀ q ∈ ws, ∃ t, zT M q.1 = some t
def zA (M : zM) (sz : Nat) : Nat → Prop := fun q => (∃ t, zT M q = some t) ∨ sz ≤ q
theorem zW.get {ca : Nat → ClassId} {D : va_G} {cl : List vw_C} {A : Nat → Prop} {M : zM} {H : Heap} {a : Nat} {t : Nat × Nat} (h : zW ca D cl A M H) (hT : zT M a = some t) :
    ∃ (ws : va_W) (q0 : Nat), va_P D cl ws H ∧ va_D A ws ∧ ws[q0]? = some (a, zcel ca M a t) ∧
      ∀ (e : va_E) (H1 : Heap) (M' : zM), va_P D cl (ws.set q0 (a, e)) H1 → va_D A (ws.set q0 (a, e)) → (∀ b, zT M' b = zT M b) → e = zcel ca M' a t → (∀ b, b ≠ a → (∀ j, zI M' b j = zI M b j) ∧ ∀ j, zR M' b j = zR M b j) → zW ca D cl A M' H1 := by
  obtain ⟨ws, hP, hD, h1, h2⟩ := h
  obtain ⟨q0, hq⟩ := List.getElem?_of_mem (h1 a t hT)
  refine ⟨ws, q0, hP, hD, hq, fun e H1 M' hP1 hD1 hTT he hne => ⟨_, hP1, hD1, fun b u hb => ?_, fun q hq1 => ?_⟩⟩
  · rw [hTT] at hb
    have hl : q0 < ws.length := (List.getElem?_eq_some_iff.mp hq).1
    by_cases hba : b = a
    · subst hba
      have : u = t := Option.some.inj (hb.symm.trans hT)
      subst this
      rw [← he]
      exact List.mem_of_getElem? (List.getElem?_set_self hl)
    · have hb1 := h1 b u hb
      rw [zcel_congr (M := M) (M' := M') (hne b hba).1 (hne b hba).2]
      obtain ⟨k, hk⟩ := List.getElem?_of_mem hb1
      have hkq : q0 ≠ k := by
        intro hh
        subst hh
        rw [hq] at hk
        exact hba (congrArg Prod.fst (Option.some.inj hk)).symm
      exact List.mem_of_getElem? (by rw [List.getElem?_set_ne hkq]; exact hk)
  · rcases List.mem_or_eq_of_mem_set hq1 with h3 | h3
    · obtain ⟨u, hu⟩ := h2 q h3
      exact ⟨u, by rw [hTT]; exact hu⟩
    · rw [h3]
      exact ⟨t, by rw [hTT]; exact hT⟩
theorem zW.new {ca : Nat → ClassId} {D : va_G} {cl : List vw_C} {A : Nat → Prop} {M : zM} {H : Heap} (h : zW ca D cl A M H) :
    ∃ ws : va_W, va_P D cl ws H ∧ va_D A ws ∧ ∀ (q : Nat) (e : va_E) (H1 : Heap) (t : Nat × Nat), va_P D cl (ws ++ [(q, e)]) H1 → va_D A (ws ++ [(q, e)]) → zcel ca (znw M q t) q t = e → zT M q = none ∧ zW ca D cl A (znw M q t) H1 := by
  obtain ⟨ws, hP, hD, h1, h2⟩ := h
  refine ⟨ws, hP, hD, fun q e H1 t hP1 hD1 he => ?_⟩
  have hnone : zT M q = none := by
    cases hz : zT M q with
    | none => rfl
    | some u =>
      obtain ⟨k, hk⟩ := List.getElem?_of_mem (h1 q u hz)
      have hl := (List.getElem?_eq_some_iff.mp hk).1
      have e1 : (ws ++ [(q, e)])[k]? = some (q, zcel ca M q u) := by rw [List.getElem?_append_left hl]; exact hk
      have e2 : (ws ++ [(q, e)])[ws.length]? = some (q, e) := by rw [List.getElem?_append_right (Nat.le_refl _), Nat.sub_self]; rfl
      have := hD1.1 _ _ _ _ e1 e2 rfl
      omega
  refine ⟨hnone, _, hP1, hD1, fun b u hb => ?_, fun z hz => ?_⟩
  · by_cases hbq : b = q
    · subst hbq
      rw [zT_nw, if_pos rfl] at hb
      cases hb
      rw [he]
      exact List.mem_append_right _ (List.mem_singleton.mpr rfl)
    · rw [zT_nw, if_neg hbq] at hb
      rw [zcel_congr (M := M) (M' := znw M q t) (fun j => by rw [zI_nw, if_neg hbq]) (fun j => by rw [zR_nw, if_neg hbq])]
      exact List.mem_append_left _ (h1 b u hb)
  · rcases List.mem_append.mp hz with h3 | h3
    · obtain ⟨u, hu⟩ := h2 z h3
      by_cases hzq : z.1 = q
      · exact ⟨t, by rw [zT_nw, if_pos hzq]⟩
      · exact ⟨u, by rw [zT_nw, if_neg hzq]; exact hu⟩
    · rw [List.mem_singleton.mp h3]
      exact ⟨t, by rw [zT_nw, if_pos rfl]⟩
theorem zW.weaken {ca : Nat → ClassId} {D : va_G} {cl : List vw_C} {A B : Nat → Prop} {M : zM} {H : Heap} (h : zW ca D cl A M H) (hAB : ∀ q, (∃ t, zT M q = some t) → A q → B q) : zW ca D cl B M H := by
  obtain ⟨ws, hP, hD, h1, h2⟩ := h
  exact ⟨ws, hP, hD.weaken (fun k q hk ha => hAB q.1 (h2 q (List.mem_of_getElem? hk)) ha), h1, h2⟩
theorem zW.inA {ca : Nat → ClassId} {D : va_G} {cl : List vw_C} {A : Nat → Prop} {M : zM} {H : Heap} (h : zW ca D cl A M H) {q : Nat} {t : Nat × Nat} (ht : zT M q = some t) : A q := by
  obtain ⟨ws, hP, hD, h1, h2⟩ := h
  obtain ⟨k, hk⟩ := List.getElem?_of_mem (h1 q t ht)
  exact hD.2 k _ hk
theorem zW.recv {ca : Nat → ClassId} {D : va_G} {cl : List vw_C} {A : Nat → Prop} {M : zM} {H : Heap} {s : State} {tys : List (ClassId × FieldType)} {b ci n : Nat} {q : vw_C} (h : zW ca D cl A M H) (hK : va_K D cl tys s) (hT : zT M b = some (ci, n)) (hci : ci < 20) (hc : cl[ci]? = some q) : ∃ cell : Cell, H[b]? = some cell ∧ cell.vm.isStatics = false ∧ s.vm.findClass q.1 = some cell.cls := by
  obtain ⟨ws, q0, hP, hD, hq, -⟩ := h.get hT
  have hq : ws[q0]? = some (b, .inr (ci, zfv M b 0 (zfl ci))) := by rw [hq]; simp [zcel, hci]
  exact va_recv hK hP hc hq
/-- locals, all of one word -/
def zL (ls : Array Slot) (nL : Nat) (lv : List (Nat × Value)) : Prop := lv_has ls nL lv ∧ ∀ q ∈ lv, q.2.category = 1
theorem z_cat (r : Option Nat) : (va_rf r).category = 1 := by cases r <;> rfl
theorem zL.at {ls : Array Slot} {nL : Nat} {lv : List (Nat × Value)} (h : zL ls nL lv) (k : Nat) {i : Nat} {v : Value} (hk : lv[k]? = some (i, v)) : ls[i]? = some (.val v) := lv_at h.1 k hk
theorem zL.sub {ls : Array Slot} {nL : Nat} {l l' : List (Nat × Value)} (h : zL ls nL l) (ks : List Nat) (hl : lv_pick l ks = l') : zL ls nL l' := by
  refine ⟨lv_sub h.1 ks hl, fun q hq => ?_⟩
  subst hl
  obtain ⟨k, -, hk⟩ := List.mem_filterMap.mp hq
  exact h.2 q (List.mem_of_getElem? hk)
theorem zL_filter {lv : List (Nat × Value)} (h : ∀ q ∈ lv, q.2.category = 1) (i : Nat) : lv.filter (fun q => !(q.1 == i) && !(q.1 + 1 == i && q.2.category == 2)) = lv.filter (fun q => !(q.1 == i)) := by
  apply List.filter_congr
  intro q hq
  simp [h q hq]
theorem zL.put {ls : Array Slot} {nL : Nat} {lv lv' : List (Nat × Value)} {i : Nat} {v : Value} (h : ∀ q ∈ lv, q.2.category = 1) (hv : v.category = 1) (hl : (i, v) :: lv.filter (fun q => !(q.1 == i)) = lv') (h' : lv_has ls nL ((i, v) :: lv.filter (fun q => !(q.1 == i) && !(q.1 + 1 == i && q.2.category == 2)))) : zL ls nL lv' := by
  rw [zL_filter h] at h'
  subst hl
  refine ⟨h', fun q hq => ?_⟩
  rcases List.mem_cons.mp hq with rfl | hq
  · exact hv
  · exact h q (List.mem_filter.mp hq).1
end
section
section ZR
variable {p : Program} {l : Launch} {e : Env} {R : Room} {s : State} {m : MethodId} {args : Array Value} {below : List Frame} {meth : Method} {c : Code} {H : Heap} {locs : List Loc} {cells slots : Nat} {Q : State → Prop}
variable {cc : ByteArray} {pc : Nat} {ls : Array Slot} {rest : List Value} {D : va_G} {cl : List vw_C} {A : Nat → Prop} {a : Nat} {tys : List (ClassId × FieldType)} {H0 : Heap} {ca : Nat → ClassId} {M : zM}
theorem z_istore_n (hexec : p.tables.exec = Jvm.exec) (hb : c.code = cc) {k : Fin 4} {i nL : Nat} {x : Int32} {lv lv' : List (Nat × Value)} (hdg : decode cc pc = .ok (.istore_n k, 1)) (hi : (k : Nat) = i) (h : zL ls nL lv) (hn : i < nL) (hl : (i, Value.int x) :: lv.filter (fun q => !(q.1 == i)) = lv')
    (kk : ∀ ls' : Array Slot, zL ls' nL lv' → W p l e R s m args below meth c H locs cells slots Q (F0 m (pc + 1) ls' rest)) : W p l e R s m args below meth c H locs cells slots Q (F0 m pc ls (.int x :: rest)) :=
  lv_istore_n hexec hb hdg hi h.1 hn rfl fun ls' h' => kk ls' (zL.put h.2 rfl hl h')
theorem z_istore (hexec : p.tables.exec = Jvm.exec) (hb : c.code = cc) {i nL : Nat} {x : Int32} {lv lv' : List (Nat × Value)} (hdg : decode cc pc = .ok (.istore i, 2)) (h : zL ls nL lv) (hn : i < nL) (hl : (i, Value.int x) :: lv.filter (fun q => !(q.1 == i)) = lv')
    (kk : ∀ ls' : Array Slot, zL ls' nL lv' → W p l e R s m args below meth c H locs cells slots Q (F0 m (pc + 2) ls' rest)) : W p l e R s m args below meth c H locs cells slots Q (F0 m pc ls (.int x :: rest)) :=
  lv_istore hexec hb hdg h.1 hn rfl fun ls' h' => kk ls' (zL.put h.2 rfl hl h')
theorem z_iinc (hexec : p.tables.exec = Jvm.exec) (hb : c.code = cc) {i nL k : Nat} {n : Int} {x v : Int32} {lv lv' : List (Nat × Value)} (hdg : decode cc pc = .ok (.iinc i n, 3)) (h : zL ls nL lv) (hk : lv[k]? = some (i, .int x)) (hv : x + Int32.ofInt n = v) (hn : i < nL) (hl : (i, Value.int v) :: lv.filter (fun q => !(q.1 == i)) = lv')
    (kk : ∀ ls' : Array Slot, zL ls' nL lv' → W p l e R s m args below meth c H locs cells slots Q (F0 m (pc + 3) ls' rest)) : W p l e R s m args below meth c H locs cells slots Q (F0 m pc ls rest) :=
  lv_iinc hexec hb hdg h.1 hk hv hn rfl fun ls' h' => kk ls' (zL.put h.2 rfl hl h')
theorem z_astore_n (hexec : p.tables.exec = Jvm.exec) (hb : c.code = cc) {k : Fin 4} {i nL : Nat} {x : Option Nat} {lv lv' : List (Nat × Value)} (hdg : decode cc pc = .ok (.astore_n k, 1)) (hi : (k : Nat) = i) (h : zL ls nL lv) (hn : i < nL) (hl : (i, va_rf x) :: lv.filter (fun q => !(q.1 == i)) = lv')
    (kk : ∀ ls' : Array Slot, zL ls' nL lv' → W p l e R s m args below meth c H locs cells slots Q (F0 m (pc + 1) ls' rest)) : W p l e R s m args below meth c H locs cells slots Q (F0 m pc ls (va_rf x :: rest)) := by
  cases x with
  | none => exact lv_astore_nN hexec hb hdg hi h.1 hn rfl fun ls' h' => kk ls' (zL.put h.2 rfl hl h')
  | some x => exact lv_astore_n hexec hb hdg hi h.1 hn rfl fun ls' h' => kk ls' (zL.put h.2 rfl hl h')
theorem z_astore (hexec : p.tables.exec = Jvm.exec) (hb : c.code = cc) {i nL : Nat} {x : Option Nat} {lv lv' : List (Nat × Value)} (hdg : decode cc pc = .ok (.astore i, 2)) (h : zL ls nL lv) (hn : i < nL) (hl : (i, va_rf x) :: lv.filter (fun q => !(q.1 == i)) = lv')
    (kk : ∀ ls' : Array Slot, zL ls' nL lv' → W p l e R s m args below meth c H locs cells slots Q (F0 m (pc + 2) ls' rest)) : W p l e R s m args below meth c H locs cells slots Q (F0 m pc ls (va_rf x :: rest)) := by
  cases x with
  | none => exact lv_astoreN hexec hb hdg h.1 hn rfl fun ls' h' => kk ls' (zL.put h.2 rfl hl h')
  | some x => exact lv_astore hexec hb hdg h.1 hn rfl fun ls' h' => kk ls' (zL.put h.2 rfl hl h')
theorem z_aload_n (hexec : p.tables.exec = Jvm.exec) (hb : c.code = cc) {k : Fin 4} {i : Nat} {x : Option Nat} (hdg : decode cc pc = .ok (.aload_n k, 1)) (hi : (k : Nat) = i) (hl : ls[i]? = some (.val (va_rf x)))
    (k : W p l e R s m args below meth c H locs cells slots Q (F0 m (pc + 1) ls (va_rf x :: rest))) : W p l e R s m args below meth c H locs cells slots Q (F0 m pc ls (rest)) := by
  cases x with
  | none => exact lv_aload_nN hexec hb hdg hi hl k
  | some x => exact lv_aload_n hexec hb hdg hi hl k
theorem z_aload (hexec : p.tables.exec = Jvm.exec) (hb : c.code = cc) {i : Nat} {x : Option Nat} (hdg : decode cc pc = .ok (.aload i, 2)) (hl : ls[i]? = some (.val (va_rf x)))
    (k : W p l e R s m args below meth c H locs cells slots Q (F0 m (pc + 2) ls (va_rf x :: rest))) : W p l e R s m args below meth c H locs cells slots Q (F0 m pc ls (rest)) := by
  cases x with
  | none => exact lv_aloadN hexec hb hdg hl k
  | some x => exact lv_aload hexec hb hdg hl k
theorem z_getI (hexec : p.tables.exec = Jvm.exec) (hb : c.code = cc) {own ref C : String} {T : u_T} {N ci index n : Nat} {Ts : List Cond} (hts : ∀ w ∈ Ts, w.before args s = true) (hin : ∀ w ∈ u_ws C T N, w ∈ Ts) (hown : s.vm.findClass own = some m.cls) (hK : va_K D cl tys s) (hM : zW ca D cl A M H) (hT : zT M a = some (ci, n)) (hci : ci < 20) (hc : cl[ci]? = some (C, T, N)) (k : Nat) (hk : k < N) (hfl : (zfl ci)[k]? = some false) (hlink : (Cond.fieldLink own index ref (T k).2.1 (T k).2.2.1).before args s = true) (hsame : (T k).1 = ref) (hdg : decode cc pc = .ok (.getfield index, 3))
    (kk : W p l e R s m args below meth c H locs cells slots Q (F0 m (pc + 3) ls (.int (zI M a k) :: rest))) : W p l e R s m args below meth c H locs cells slots Q (F0 m pc ls (.ref a :: rest)) := by
  obtain ⟨ws, q0, hP, hD, hq, -⟩ := hM.get hT
  have hq : ws[q0]? = some (a, .inr (ci, zfv M a 0 (zfl ci))) := by rw [hq]; simp [zcel, hci]
  have hv := zfv_get M a (zfl ci) 0 k false hfl
  rw [Nat.zero_add] at hv
  exact va_get hexec hb hts hin hown hK hP q0 hq hc k hk hlink (fun x h => by rw [← hsame]; exact h) hv hdg kk
theorem z_getR (hexec : p.tables.exec = Jvm.exec) (hb : c.code = cc) {own ref C : String} {T : u_T} {N ci index n : Nat} {Ts : List Cond} (hts : ∀ w ∈ Ts, w.before args s = true) (hin : ∀ w ∈ u_ws C T N, w ∈ Ts) (hown : s.vm.findClass own = some m.cls) (hK : va_K D cl tys s) (hM : zW ca D cl A M H) (hT : zT M a = some (ci, n)) (hci : ci < 20) (hc : cl[ci]? = some (C, T, N)) (k : Nat) (hk : k < N) (hfl : (zfl ci)[k]? = some true) (hlink : (Cond.fieldLink own index ref (T k).2.1 (T k).2.2.1).before args s = true) (hsame : (T k).1 = ref) (hdg : decode cc pc = .ok (.getfield index, 3))
    (kk : W p l e R s m args below meth c H locs cells slots Q (F0 m (pc + 3) ls (va_rf (zR M a k) :: rest))) : W p l e R s m args below meth c H locs cells slots Q (F0 m pc ls (.ref a :: rest)) := by
  obtain ⟨ws, q0, hP, hD, hq, -⟩ := hM.get hT
  have hq : ws[q0]? = some (a, .inr (ci, zfv M a 0 (zfl ci))) := by rw [hq]; simp [zcel, hci]
  have hv := zfv_get M a (zfl ci) 0 k true hfl
  rw [Nat.zero_add] at hv
  exact va_get hexec hb hts hin hown hK hP q0 hq hc k hk hlink (fun x h => by rw [← hsame]; exact h) hv hdg kk
theorem z_putI (hexec : p.tables.exec = Jvm.exec) (hb : c.code = cc) {own ref C : String} {T : u_T} {N ci index n : Nat} {Ts : List Cond} (hts : ∀ w ∈ Ts, w.before args s = true) (hin : ∀ w ∈ u_ws C T N, w ∈ Ts) (ty0 : Nat → FieldType) (hty : ∀ k, k < N → parseFieldDescriptor (T k).2.2.1 = some (ty0 k)) (hnm : ∀ a, a < N → ∀ b, b < N → a ≠ b → (T a).2.1 ≠ (T b).2.1) (hown : s.vm.findClass own = some m.cls) (hK : va_K D cl tys s) (hM : zW ca D cl A M H) (hS : va_S A H0 H locs) (hT : zT M a = some (ci, n)) (hci : ci < 20) (hc : cl[ci]? = some (C, T, N)) (k : Nat) (hk : k < N) (hfl : (zfl ci)[k]? = some false) (hlink : (Cond.fieldLink own index ref (T k).2.1 (T k).2.2.1).before args s = true) (hsame : (T k).1 = ref)
    (hfin : (T k).2.2.2 = false ∨ ((T k).2.2.2 = true ∧ meth.name = "<init>" ∧ (T k).1 = own)) {v : Int32} (hn : narrow (ty0 k) (.int v) = .int v) (hfit : fits (ty0 k) (.int v) = true) (hdg : decode cc pc = .ok (.putfield index, 3))
    (kk : ∀ (H1 : Heap) (locs1 : List Loc), zW ca D cl A (zwI M a k v) H1 → va_S A H0 H1 locs1 → W p l e R s m args below meth c H1 locs1 cells slots Q (F0 m (pc + 3) ls rest)) : W p l e R s m args below meth c H locs cells slots Q (F0 m pc ls (.int v :: .ref a :: rest)) := by
  obtain ⟨ws, q0, hP, hD, hq, hset⟩ := hM.get hT
  have hq : ws[q0]? = some (a, .inr (ci, zfv M a 0 (zfl ci))) := by rw [hq]; simp [zcel, hci]
  have hl : k < (zfv M a 0 (zfl ci)).length := by rw [zfv_len]; exact (List.getElem?_eq_some_iff.mp hfl).1
  have hv := zfv_setI M a v (zfl ci) 0 k hfl
  rw [Nat.zero_add] at hv
  have fin : ∀ (H1 : Heap) (locs1 : List Loc), va_P D cl (ws.set q0 (a, .inr (ci, (zfv M a 0 (zfl ci)).set k (.int v)))) H1 → va_D A (ws.set q0 (a, .inr (ci, (zfv M a 0 (zfl ci)).set k (.int v)))) → va_S A H0 H1 locs1 → W p l e R s m args below meth c H1 locs1 cells slots Q (F0 m (pc + 3) ls rest) := fun H1 locs1 hP1 hD1 hS1 =>
    kk H1 locs1 (hset _ H1 (zwI M a k v) hP1 hD1 (fun b => rfl) (by rw [hv]; simp [zcel, hci]) (fun b hb => ⟨fun j => by rw [zI_wI, if_neg (fun h => hb h.1)], fun j => rfl⟩)) hS1
  rcases hfin with hfin | ⟨hfin, hin2, hdecl⟩
  · exact va_put hexec hb hts hin ty0 hty hnm hown hK hP hD hS q0 hq hc k hk hlink (fun x h => by rw [← hsame]; exact h) hfin (hty k hk) hn hfit hl hdg fin
  · exact va_putF hexec hb hts hin ty0 hty hnm hown hK hP hD hS q0 hq hc k hk hlink (fun x h => by rw [← hsame]; exact h) hfin hin2 hdecl (hty k hk) hn hfit hl hdg fin
theorem z_putR (hexec : p.tables.exec = Jvm.exec) (hb : c.code = cc) {own ref C : String} {T : u_T} {N ci index n : Nat} {Ts : List Cond} (hts : ∀ w ∈ Ts, w.before args s = true) (hin : ∀ w ∈ u_ws C T N, w ∈ Ts) (ty0 : Nat → FieldType) (hty : ∀ k, k < N → parseFieldDescriptor (T k).2.2.1 = some (ty0 k)) (hnm : ∀ a, a < N → ∀ b, b < N → a ≠ b → (T a).2.1 ≠ (T b).2.1) (hown : s.vm.findClass own = some m.cls) (hK : va_K D cl tys s) (hM : zW ca D cl A M H) (hS : va_S A H0 H locs) (hT : zT M a = some (ci, n)) (hci : ci < 20) (hc : cl[ci]? = some (C, T, N)) (k : Nat) (hk : k < N) (hfl : (zfl ci)[k]? = some true) (hlink : (Cond.fieldLink own index ref (T k).2.1 (T k).2.2.1).before args s = true) (hsame : (T k).1 = ref)
    (hfin : (T k).2.2.2 = false ∨ ((T k).2.2.2 = true ∧ meth.name = "<init>" ∧ (T k).1 = own)) {v : Option Nat} (hn : narrow (ty0 k) (va_rf v) = va_rf v) (hfit : fits (ty0 k) (va_rf v) = true) (hdg : decode cc pc = .ok (.putfield index, 3))
    (kk : ∀ (H1 : Heap) (locs1 : List Loc), zW ca D cl A (zwR M a k v) H1 → va_S A H0 H1 locs1 → W p l e R s m args below meth c H1 locs1 cells slots Q (F0 m (pc + 3) ls rest)) : W p l e R s m args below meth c H locs cells slots Q (F0 m pc ls (va_rf v :: .ref a :: rest)) := by
  obtain ⟨ws, q0, hP, hD, hq, hset⟩ := hM.get hT
  have hq : ws[q0]? = some (a, .inr (ci, zfv M a 0 (zfl ci))) := by rw [hq]; simp [zcel, hci]
  have hl : k < (zfv M a 0 (zfl ci)).length := by rw [zfv_len]; exact (List.getElem?_eq_some_iff.mp hfl).1
  have hv := zfv_setR M a v (zfl ci) 0 k hfl
  rw [Nat.zero_add] at hv
  have fin : ∀ (H1 : Heap) (locs1 : List Loc), va_P D cl (ws.set q0 (a, .inr (ci, (zfv M a 0 (zfl ci)).set k (va_rf v)))) H1 → va_D A (ws.set q0 (a, .inr (ci, (zfv M a 0 (zfl ci)).set k (va_rf v)))) → va_S A H0 H1 locs1 → W p l e R s m args below meth c H1 locs1 cells slots Q (F0 m (pc + 3) ls rest) := fun H1 locs1 hP1 hD1 hS1 =>
    kk H1 locs1 (hset _ H1 (zwR M a k v) hP1 hD1 (fun b => rfl) (by rw [hv]; simp [zcel, hci]) (fun b hb => ⟨fun j => rfl, fun j => by rw [zR_wR, if_neg (fun h => hb h.1)]⟩)) hS1
  rcases hfin with hfin | ⟨hfin, hin2, hdecl⟩
  · exact va_put hexec hb hts hin ty0 hty hnm hown hK hP hD hS q0 hq hc k hk hlink (fun x h => by rw [← hsame]; exact h) hfin (hty k hk) hn hfit hl hdg fin
  · exact va_putF hexec hb hts hin ty0 hty hnm hown hK hP hD hS q0 hq hc k hk hlink (fun x h => by rw [← hsame]; exact h) hfin hin2 hdecl (hty k hk) hn hfit hl hdg fin
theorem z_iald (hexec : p.tables.exec = Jvm.exec) (hb : c.code = cc) (hK : va_K D cl tys s) (hM : zW ca D cl A M H) {n : Nat} (hT : zT M a = some (20, n)) (t0 : Nat) (ht : tys[t0]? = some (ca 20, .int)) {i : Int32} (hin : vp_in i n) (hdg : decode cc pc = .ok (.iaload, 1))
    (kk : W p l e R s m args below meth c H locs cells slots Q (F0 m (pc + 1) ls (.int (zI M a i.toNatClampNeg) :: rest))) : W p l e R s m args below meth c H locs cells slots Q (F0 m pc ls (.int i :: .ref a :: rest)) := by
  obtain ⟨ws, q0, hP, hD, hq, -⟩ := hM.get hT
  exact va_iald hexec hb hK hP q0 t0 hq ht hin hdg kk
theorem z_zald (hexec : p.tables.exec = Jvm.exec) (hb : c.code = cc) (hK : va_K D cl tys s) (hM : zW ca D cl A M H) {n : Nat} (hT : zT M a = some (21, n)) (t0 : Nat) (ht : tys[t0]? = some (ca 21, .boolean)) {i : Int32} (hin : vp_in i n) (hdg : decode cc pc = .ok (.baload, 1))
    (kk : W p l e R s m args below meth c H locs cells slots Q (F0 m (pc + 1) ls (.int (zI M a i.toNatClampNeg) :: rest))) : W p l e R s m args below meth c H locs cells slots Q (F0 m pc ls (.int i :: .ref a :: rest)) := by
  obtain ⟨ws, q0, hP, hD, hq, -⟩ := hM.get hT
  exact va_zald hexec hb hK hP q0 t0 hq ht hin hdg kk
theorem z_aald (hexec : p.tables.exec = Jvm.exec) (hb : c.code = cc) (hK : va_K D cl tys s) (hM : zW ca D cl A M H) {n kd : Nat} (hT : zT M a = some (kd, n)) (hkd : ¬ kd < 22) (t0 : Nat) {C : String} (ht : tys[t0]? = some (ca kd, .object C)) {i : Int32} (hin : vp_in i n) (hdg : decode cc pc = .ok (.aaload, 1))
    (kk : W p l e R s m args below meth c H locs cells slots Q (F0 m (pc + 1) ls (va_rf (zR M a i.toNatClampNeg) :: rest))) : W p l e R s m args below meth c H locs cells slots Q (F0 m pc ls (.int i :: .ref a :: rest)) := by
  obtain ⟨ws, q0, hP, hD, hq, -⟩ := hM.get hT
  have hq : ws[q0]? = some (a, .inl (ca kd, n, .inr (.inr (.inr (.inr (zR M a)))))) := by rw [hq]; simp [zcel, hkd, show ¬ kd < 20 by omega]
  exact va_aldq hexec hb hK hP q0 t0 hq ht hin hdg kk
theorem z_alen (hexec : p.tables.exec = Jvm.exec) (hb : c.code = cc) (hK : va_K D cl tys s) (hM : zW ca D cl A M H) {n kd : Nat} (hT : zT M a = some (kd, n)) (hkd : ¬ kd < 20) (t0 : Nat) {ty : FieldType} (ht : tys[t0]? = some (ca kd, ty)) (hdg : decode cc pc = .ok (.arraylength, 1))
    (kk : W p l e R s m args below meth c H locs cells slots Q (F0 m (pc + 1) ls (.int (nI n) :: rest))) : W p l e R s m args below meth c H locs cells slots Q (F0 m pc ls (.ref a :: rest)) := by
  obtain ⟨ws, q0, hP, hD, hq, -⟩ := hM.get hT
  by_cases hk : kd < 22
  · have hq : ws[q0]? = some (a, .inl (ca kd, n, .inl (zI M a))) := by rw [hq]; simp [zcel, hkd, hk]
    exact va_alen hexec hb hK hP q0 t0 hq ht rfl hdg kk
  · have hq : ws[q0]? = some (a, .inl (ca kd, n, .inr (.inr (.inr (.inr (zR M a)))))) := by rw [hq]; simp [zcel, hkd, hk]
    exact va_alen hexec hb hK hP q0 t0 hq ht rfl hdg kk
theorem z_upd (M : zM) (a i : Nat) (x : Int32) : upd (zI M a) i x = zI (zwI M a i x) a := by
  funext j
  by_cases hj : j = i
  · subst hj; simp [upd, zI_wI]
  · simp [upd, zI_wI, hj]
theorem z_vup (M : zM) (a i : Nat) (x : Option Nat) : va_up (zR M a) i x = zR (zwR M a i x) a := by
  funext j
  by_cases hj : j = i
  · subst hj; simp [va_up, zR_wR]
  · simp [va_up, zR_wR, hj]
theorem z_iast (hexec : p.tables.exec = Jvm.exec) (hb : c.code = cc) (hK : va_K D cl tys s) (hM : zW ca D cl A M H) (hS : va_S A H0 H locs) {n : Nat} (hT : zT M a = some (20, n)) (t0 : Nat) (ht : tys[t0]? = some (ca 20, .int)) {i x : Int32} (hin : vp_in i n) (hdg : decode cc pc = .ok (.iastore, 1))
    (kk : ∀ (H1 : Heap) (locs1 : List Loc), zW ca D cl A (zwI M a i.toNatClampNeg x) H1 → va_S A H0 H1 locs1 → W p l e R s m args below meth c H1 locs1 cells slots Q (F0 m (pc + 1) ls rest)) : W p l e R s m args below meth c H locs cells slots Q (F0 m pc ls (.int x :: .int i :: .ref a :: rest)) := by
  obtain ⟨ws, q0, hP, hD, hq, hset⟩ := hM.get hT
  refine va_iast hexec hb hK hP hD hS q0 t0 hq ht hin hdg (fun H1 locs1 hP1 hD1 hS1 => kk H1 locs1 (hset _ H1 (zwI M a i.toNatClampNeg x) hP1 hD1 (fun b => rfl) ?_ (fun b hb => ⟨fun j => by rw [zI_wI, if_neg (fun h => hb h.1)], fun j => rfl⟩)) hS1)
  rw [z_upd]; simp [zcel]
theorem z_zast (hexec : p.tables.exec = Jvm.exec) (hb : c.code = cc) (hK : va_K D cl tys s) (hM : zW ca D cl A M H) (hS : va_S A H0 H locs) {n : Nat} (hT : zT M a = some (21, n)) (t0 : Nat) (ht : tys[t0]? = some (ca 21, .boolean)) {i x : Int32} (hin : vp_in i n) (hdg : decode cc pc = .ok (.bastore, 1))
    (kk : ∀ (H1 : Heap) (locs1 : List Loc), zW ca D cl A (zwI M a i.toNatClampNeg (vp_nar .boolean x)) H1 → va_S A H0 H1 locs1 → W p l e R s m args below meth c H1 locs1 cells slots Q (F0 m (pc + 1) ls rest)) : W p l e R s m args below meth c H locs cells slots Q (F0 m pc ls (.int x :: .int i :: .ref a :: rest)) := by
  obtain ⟨ws, q0, hP, hD, hq, hset⟩ := hM.get hT
  refine va_zast hexec hb hK hP hD hS q0 t0 hq ht hin hdg (fun H1 locs1 hP1 hD1 hS1 => kk H1 locs1 (hset _ H1 (zwI M a i.toNatClampNeg (vp_nar .boolean x)) hP1 hD1 (fun b => rfl) ?_ (fun b hb => ⟨fun j => by rw [zI_wI, if_neg (fun h => hb h.1)], fun j => rfl⟩)) hS1)
  rw [z_upd]; simp [zcel]
theorem z_aast (hexec : p.tables.exec = Jvm.exec) (hb : c.code = cc) (hK : va_K D cl tys s) (hM : zW ca D cl A M H) (hS : va_S A H0 H locs) {n kd : Nat} (hT : zT M a = some (kd, n)) (hkd : ¬ kd < 22) (t0 : Nat) {r : vw_C} (ht : tys[t0]? = some (ca kd, .object r.1)) {v ci nv : Nat} (hTv : zT M v = some (ci, nv)) (hci : ci < 20) (hc : cl[ci]? = some r) {i : Int32} (hin : vp_in i n) (hdg : decode cc pc = .ok (.aastore, 1))
    (kk : ∀ (H1 : Heap) (locs1 : List Loc), zW ca D cl A (zwR M a i.toNatClampNeg (some v)) H1 → va_S A H0 H1 locs1 → W p l e R s m args below meth c H1 locs1 cells slots Q (F0 m (pc + 1) ls rest)) : W p l e R s m args below meth c H locs cells slots Q (F0 m pc ls (.ref v :: .int i :: .ref a :: rest)) := by
  have hM2 := hM
  obtain ⟨ws0, hP0, hD0, h10, h20⟩ := hM
  have hM : zW ca D cl A M H := ⟨ws0, hP0, hD0, h10, h20⟩
  obtain ⟨ws, hP, hD, h1, h2⟩ := hM
  have hM3 : zW ca D cl A M H := ⟨ws, hP, hD, h1, h2⟩
  obtain ⟨q0, hq⟩ := List.getElem?_of_mem (h1 a _ hT)
  obtain ⟨qk, hqk⟩ := List.getElem?_of_mem (h1 v _ hTv)
  have hq' : ws[q0]? = some (a, .inl (ca kd, n, .inr (.inr (.inr (.inr (zR M a)))))) := by rw [hq]; simp [zcel, hkd, show ¬ kd < 20 by omega]
  have hqk' : ws[qk]? = some (v, .inr (ci, zfv M v 0 (zfl ci))) := by rw [hqk]; simp [zcel, hci]
  refine va_astq hexec hb hK hP hD hS q0 t0 qk ci hq' ht hqk' hc hin hdg (fun H1 locs1 hP1 hD1 hS1 => kk H1 locs1 ⟨_, hP1, hD1, fun b u hb => ?_, fun z hz => ?_⟩ hS1)
  · rw [zT_wR] at hb
    have hl : q0 < ws.length := (List.getElem?_eq_some_iff.mp hq).1
    by_cases hba : b = a
    · subst hba
      have : u = (kd, n) := Option.some.inj (hb.symm.trans hT)
      subst this
      refine List.mem_of_getElem? (i := q0) ?_
      rw [List.getElem?_set_self hl, z_vup]
      simp [zcel, hkd, show ¬ kd < 20 by omega]
    · have hb1 := h1 b u hb
      rw [zcel_congr (M := M) (M' := zwR M a i.toNatClampNeg (some v)) (fun j => rfl) (fun j => by rw [zR_wR, if_neg (fun h => hba h.1)])]
      obtain ⟨k, hk⟩ := List.getElem?_of_mem hb1
      have hkq : q0 ≠ k := by
        intro hh
        subst hh
        rw [hq] at hk
        exact hba (congrArg Prod.fst (Option.some.inj hk)).symm
      exact List.mem_of_getElem? (by rw [List.getElem?_set_ne hkq]; exact hk)
  · rcases List.mem_or_eq_of_mem_set hz with h3 | h3
    · exact h2 z h3
    · rw [h3]; exact ⟨_, hT⟩
theorem z_new (hexec : p.tables.exec = Jvm.exec) (hb : c.code = cc) {own C : String} {T : u_T} {N ci index : Nat} {Ts : List Cond} (hts : ∀ w ∈ Ts, w.before args s = true) (hin : ∀ w ∈ u_ws C T N, w ∈ Ts) (ty : Nat → FieldType) (hty : ∀ k, k < N → parseFieldDescriptor (T k).2.2.1 = some (ty k)) (hown : s.vm.findClass own = some m.cls) (hcl : (Cond.classLink own index C).before args s = true) (hinst : (Cond.instantiable C N).before args s = true) (hini : (Cond.initialized C).before args s = true)
    (hK : va_K D cl tys s) (hM : zW ca D cl A M H) (hS : va_S A H0 H locs) (hA : ∀ q, H0.size ≤ q → A q) (hci : ci < 20) (hc : cl[ci]? = some (C, T, N)) (hfs : ∀ j, j < N → defaultValue (ty j) = vp_V (zdf (zfl ci)) j) (hcells : cells + 1 ≤ R.cells) (hslots : slots + N ≤ R.slots) (hdg : decode cc pc = .ok (.new index, 3))
    (kk : ∀ (q : Nat) (H1 : Heap), zT M q = none → zW ca D cl A (znw M q (ci, N)) H1 → va_S A H0 H1 locs →
      W p l e R s m args below meth c H1 locs (cells + 1) (slots + N) Q (F0 m (pc + 3) ls (.ref q :: rest))) : W p l e R s m args below meth c H locs cells slots Q (F0 m pc ls rest) := by
  obtain ⟨ws, hP, hD, hnew⟩ := hM.new
  refine va_new hexec hb hts hin ty hty hown hcl hinst hini hK hP hD hS hA hc hfs hcells hslots hdg (fun q H1 hP1 hD1 hS1 => ?_)
  obtain ⟨h1, h2⟩ := hnew q _ H1 (ci, N) hP1 hD1 (by simp [zcel, hci, zfv_new])
  exact kk q H1 h1 h2 hS1
theorem z_newP (hexec : p.tables.exec = Jvm.exec) (hb : c.code = cc) {atype : ArrayType} (harr : (Cond.arrayClass (newarray.typeOf atype)).before args s = true) {ty : FieldType} (hty : newarray.typeOf atype = ty) (hK : va_K D cl tys s) (hM : zW ca D cl A M H) (hS : va_S A H0 H locs) (hA : ∀ q, H0.size ≤ q → A q) {kd : Nat} (hkd : kd = 20 ∧ ty = .int ∨ kd = 21 ∧ ty = .boolean) (t0 : Nat) (ht : tys[t0]? = some (ca kd, ty))
    {n : Int32} {N' : Nat} (hn : ¬ n < 0) (hN : n.toNatClampNeg = N') (hbytes : N' * componentBytes ty ≤ 536870912) (hcells : cells + 1 ≤ R.cells) (hslots : slots + N' ≤ R.slots) (hdg : decode cc pc = .ok (.newarray atype, 2))
    (kk : ∀ (q : Nat) (H1 : Heap), zT M q = none → zW ca D cl A (znw M q (kd, N')) H1 → va_S A H0 H1 locs →
      W p l e R s m args below meth c H1 locs (cells + 1) (slots + N') Q (F0 m (pc + 2) ls (.ref q :: rest))) : W p l e R s m args below meth c H locs cells slots Q (F0 m pc ls (.int n :: rest)) := by
  obtain ⟨ws, hP, hD, hnew⟩ := hM.new
  refine va_newa (a0 := (N', .inl (fun _ => 0))) hexec hb harr hty hK hP hD hS hA (fun cA => ?_) hn hN hbytes hcells hslots hdg (fun q cA H1 hK1 hP1 hD1 hS1 => ?_)
  · rw [vp_cell_i]
    rcases hkd with ⟨-, rfl⟩ | ⟨-, rfl⟩ <;> rfl
  · have e1 : cA = ca kd := by
      have h1 := (hK.2 t0 _ ht).2
      have h2 := (hK1.2 tys.length (cA, ty) (by rw [List.getElem?_append_right (Nat.le_refl _), Nat.sub_self]; rfl)).2
      rcases hkd with ⟨-, rfl⟩ | ⟨-, rfl⟩ <;> exact Option.some.inj (h2.symm.trans h1)
    subst e1
    obtain ⟨h1, h2⟩ := hnew q _ H1 (kd, N') hP1 hD1 (by
      have hz : zI (znw M q (kd, N')) q = fun _ => 0 := funext fun j => by rw [zI_nw, if_pos rfl]
      rcases hkd with ⟨rfl, -⟩ | ⟨rfl, -⟩ <;> simp [zcel, hz])
    exact kk q H1 h1 h2 hS1
theorem z_newA (hexec : p.tables.exec = Jvm.exec) (hb : c.code = cc) {own C : String} {index : Nat} (hown : s.vm.findClass own = some m.cls) (hclink : (Cond.classLink own index C).before args s = true) (hover : va_AO C s) (hK : va_K D cl tys s) (hM : zW ca D cl A M H) (hS : va_S A H0 H locs) (hA : ∀ q, H0.size ≤ q → A q) {kd : Nat} (hkd : ¬ kd < 22) (t0 : Nat) (ht : tys[t0]? = some (ca kd, .object C))
    {n : Int32} {N' : Nat} (hn : ¬ n < 0) (hN : n.toNatClampNeg = N') (hbytes : N' * 4 ≤ 536870912) (hcells : cells + 1 ≤ R.cells) (hslots : slots + N' ≤ R.slots) (hdg : decode cc pc = .ok (.anewarray index, 3))
    (kk : ∀ (q : Nat) (H1 : Heap), zT M q = none → zW ca D cl A (znw M q (kd, N')) H1 → va_S A H0 H1 locs →
      W p l e R s m args below meth c H1 locs (cells + 1) (slots + N') Q (F0 m (pc + 3) ls (.ref q :: rest))) : W p l e R s m args below meth c H locs cells slots Q (F0 m pc ls (.int n :: rest)) := by
  obtain ⟨ws, hP, hD, hnew⟩ := hM.new
  refine va_newq hexec hb hown hclink hover hK hP hD hS hA hn hN hbytes hcells hslots hdg (fun q cA H1 hK1 hP1 hD1 hS1 => ?_)
  have e1 : cA = ca kd := by
    obtain ⟨_, _, _, _, _, h1⟩ := (hK.2 t0 _ ht).2
    obtain ⟨_, _, _, _, _, h2⟩ := (hK1.2 tys.length (cA, .object C) (by rw [List.getElem?_append_right (Nat.le_refl _), Nat.sub_self]; rfl)).2
    exact Option.some.inj (h2.symm.trans h1)
  subst e1
  obtain ⟨h1, h2⟩ := hnew q _ H1 (kd, N') hP1 hD1 (by
    have hz : zR (znw M q (kd, N')) q = fun _ => none := funext fun j => by rw [zR_nw, if_pos rfl]
    simp [zcel, hz, hkd, show ¬ kd < 20 by omega])
  exact kk q H1 h1 h2 hS1
theorem z_tsIn {x : Int32} (v : Int32) (hxv : x = v) (hexec : p.tables.exec = Jvm.exec) (hb : c.code = cc) {dflt lo hi : Int} {offs : Array Int} {len : Nat} {off : Int} {tgt : Nat} (hdg : decode cc pc = .ok (.tableswitch dflt lo hi offs, len)) (h1 : ¬ v.toInt < lo) (h2 : ¬ hi < v.toInt) (ho : offs[(v.toInt - lo).toNat]? = some off) (ht : (pc : Int) + off = (tgt : Int))
    (kk : W p l e R s m args below meth c H locs cells slots Q (F0 m tgt ls rest)) : W p l e R s m args below meth c H locs cells slots Q (F0 m pc ls (.int x :: rest)) := by
  subst hxv
  exact lv_tableIn hexec hb hdg h1 h2 ho ht kk
theorem z_lkIn {x : Int32} (v : Int32) (hxv : x = v) (hexec : p.tables.exec = Jvm.exec) (hb : c.code = cc) {dflt : Int} {ps : Array (Int × Int)} {len : Nat} {off : Int} {tgt : Nat} (hdg : decode cc pc = .ok (.lookupswitch dflt ps, len)) (hp : (ps.toList.zip (ps.toList.drop 1)).all (fun (a, next) => a.1 < next.1) = true) (ho : Op.lookupswitch.offset ps.toList dflt v.toInt = off) (ht : (pc : Int) + off = (tgt : Int))
    (kk : W p l e R s m args below meth c H locs cells slots Q (F0 m tgt ls rest)) : W p l e R s m args below meth c H locs cells slots Q (F0 m pc ls (.int x :: rest)) := by
  subst hxv
  exact lv_lookup hexec hb hdg hp ho ht kk
theorem zb_n {v : Int32} (h : v = 0 ∨ v = 1) : narrow .boolean (.int v) = .int v := by rcases h with rfl | rfl <;> rfl
theorem zb_f {v : Int32} (h : v = 0 ∨ v = 1) : fits .boolean (.int v) = true := by rcases h with rfl | rfl <;> rfl
theorem z_out (n : Nat) (hn : n < 2 ^ 31) (x : Int32) (h : ∀ k : Nat, k < n → ¬ x = nI k) : x.toInt < 0 ∨ (n : Int) - 1 < x.toInt := by
  by_cases h0 : x < 0
  · exact Or.inl (by rw [Int32.lt_iff_toInt_lt] at h0; simpa using h0)
  · obtain ⟨j, hj, rfl⟩ := nI_of h0
    rw [nI_toInt hj]
    refine Or.inr ?_
    have : ¬ j < n := fun q => h j q rfl
    omega
end ZR
end
section
def zB (ca : Nat → ClassId) (D : va_G) (cl : List vw_C) (tys : List (ClassId × FieldType)) (A : Nat → Prop) (M : zM) (t : State) : Prop := zW ca D cl A M t.heap ∧ va_K D cl tys t
def zPre (ca : Nat → ClassId) (D : va_G) (cl : List vw_C) (tys : List (ClassId × FieldType)) (av : List Value) (M : zM) (sz : Nat) (pre : Prop) : Array Value → State → Prop := va_Pc av (fun U => U.heap.size = sz ∧ zW ca D cl (fun _ => True) M U.heap ∧ va_K D cl tys U ∧ zN U ∧ pre)
theorem zPre_blind {ca : Nat → ClassId} {D : va_G} {cl : List vw_C} {tys : List (ClassId × FieldType)} {av : List Value} {M : zM} {sz : Nat} {pre : Prop} : FrameBlind (zPre ca D cl tys av M sz pre) := by
  intro a U g mk q
  obtain ⟨q0, q1, qW, qK, qN, qp⟩ := q
  exact ⟨q0, q1, qW, va_K.moved (u := U) (U := U.calling g mk a) (Vm.Alike.refl U.vm) qK, zN_same rfl qN, qp⟩
section ZC
variable {p : Program} {l : Launch} {e : Env} {R : Room} {s : State} {m : MethodId} {args : Array Value} {below : List Frame} {meth : Method} {c : Code} {H : Heap} {locs : List Loc} {cells slots : Nat} {Q : State → Prop}
variable {cc : ByteArray} {pc : Nat} {ls : Array Slot} {rest st0 : List Value} {D : va_G} {cl : List vw_C} {A : Nat → Prop} {a : Nat} {tys : List (ClassId × FieldType)} {H0 : Heap} {ca : Nat → ClassId} {M : zM}
variable {y : MethodName} {bytes : ByteArray} {maxL nL mc ms n index : Nat} {ret : Option FieldType} {ws : List Cond} {rm : Room} {Ts : List Cond} {own C : String} {b : Nat} {As : List Value} {pre : Prop}
theorem zPre_S (hK : va_K D cl tys s) (hN : zN s) (hM : zW ca D cl A M H) (hpre : pre) : PreS s H (zPre ca D cl tys As M H.size pre) As :=
  ⟨zPre_blind, fun U hU hW => ⟨rfl, by rw [hU], by rw [hU]; exact hM.weaken (fun _ _ _ => trivial), va_K.moved hW.alike hK, zN_warm hW hN, hpre⟩⟩
theorem zPre_V (hK : va_K D cl tys s) (hN : zN s) (hM : zW ca D cl A M H) (hpre : pre) {ci nb : Nat} {T : u_T} {N : Nat} (hT : zT M b = some (ci, nb)) (hci : ci < 20) (hc : cl[ci]? = some (C, T, N)) : PreV s H C b (zPre ca D cl tys (.ref b :: As) M H.size pre) As :=
  ⟨zPre_blind, hM.recv hK hT hci hc, fun U hU hW => ⟨rfl, by rw [hU], by rw [hU]; exact hM.weaken (fun _ _ _ => trivial), va_K.moved hW.alike hK, zN_warm hW hN, hpre⟩⟩
theorem zA_in (hM : zW ca D cl A M H) (hS : va_S A H0 H locs) (hA : ∀ q, H0.size ≤ q → A q) : ∀ q, zA M H.size q → A q := by
  intro q h
  rcases h with ⟨t, ht⟩ | h
  · exact hM.inA ht
  · exact hA q (Nat.le_trans hS.1 h)
theorem z_cti {post : Int32 → zM → Prop} {av : Array Value} (hr : va_Run p l e R s m args below meth c H locs cells slots mc ms (F0 m pc ls st0) rest (va_Qi post (zB ca D cl tys (zA M H.size)) (zA M H.size) av) (zA M H.size)) (hM : zW ca D cl A M H) (hS : va_S A H0 H locs) (hA : ∀ q, H0.size ≤ q → A q)
    (kk : ∀ (r : Int32) (M1 : zM) (H1 : Heap) (locs1 : List Loc), post r M1 → zW ca D cl A M1 H1 → va_S A H0 H1 locs1 → W p l e R s m args below meth c H1 locs1 (cells + mc) (slots + ms) Q (F0 m (pc + 3) ls (.int r :: rest))) : W p l e R s m args below meth c H locs cells slots Q (F0 m pc ls st0) :=
  va_calli hr hS (fun q _ h => zA_in hM hS hA q h) (zA_in hM hS hA) (fun r M1 t H1 locs1 ht hvm hpost hB hz hk hS1 => kk r M1 H1 locs1 hpost (by rw [← ht]; exact hB.1.weaken (fun q _ h => zA_in hM hS hA q h)) hS1)
theorem z_ctv {post : zM → Prop} {av : Array Value} (hr : va_Run p l e R s m args below meth c H locs cells slots mc ms (F0 m pc ls st0) rest (va_Qv post (zB ca D cl tys (zA M H.size)) (zA M H.size) av) (zA M H.size)) (hM : zW ca D cl A M H) (hS : va_S A H0 H locs) (hA : ∀ q, H0.size ≤ q → A q)
    (kk : ∀ (M1 : zM) (H1 : Heap) (locs1 : List Loc), post M1 → zW ca D cl A M1 H1 → va_S A H0 H1 locs1 → W p l e R s m args below meth c H1 locs1 (cells + mc) (slots + ms) Q (F0 m (pc + 3) ls rest)) : W p l e R s m args below meth c H locs cells slots Q (F0 m pc ls st0) :=
  va_callv hr hS (fun q _ h => zA_in hM hS hA q h) (zA_in hM hS hA) (fun M1 t H1 locs1 ht hvm hpost hB hz hk hS1 => kk M1 H1 locs1 hpost (by rw [← ht]; exact hB.1.weaken (fun q _ h => zA_in hM hS hA q h)) hS1)
theorem z_ctq {post : Option Nat → zM → Prop} {av : Array Value} (hr : va_Run p l e R s m args below meth c H locs cells slots mc ms (F0 m pc ls st0) rest (va_Qq post (zB ca D cl tys (zA M H.size)) (zA M H.size) av) (zA M H.size)) (hM : zW ca D cl A M H) (hS : va_S A H0 H locs) (hA : ∀ q, H0.size ≤ q → A q)
    (kk : ∀ (r : Option Nat) (M1 : zM) (H1 : Heap) (locs1 : List Loc), post r M1 → zW ca D cl A M1 H1 → va_S A H0 H1 locs1 → W p l e R s m args below meth c H1 locs1 (cells + mc) (slots + ms) Q (F0 m (pc + 3) ls (va_rf r :: rest))) : W p l e R s m args below meth c H locs cells slots Q (F0 m pc ls st0) :=
  va_callq hr hS (fun q _ h => zA_in hM hS hA q h) (zA_in hM hS hA) (fun r M1 t H1 locs1 ht hvm hpost hB hz hk hS1 => kk r M1 H1 locs1 hpost (by rw [← ht]; exact hB.1.weaken (fun q _ h => zA_in hM hS hA q h)) hS1)
/-- ends -/
theorem z_iret {post : Int32 → zM → Prop} {v : Int32} (hexec : p.tables.exec = Jvm.exec) (hb : c.code = cc) (hr : meth.sig.returnType = some .int) (hlocks : meth.locks = false) (hK : va_K D cl tys s) (hM : zW ca D cl A M H) (hS : va_S A s.heap H locs) (hpost : post v M) (hdg : decode cc pc = .ok (.ireturn, 1)) : W p l e R s m args below meth c H locs cells slots (MQ below (va_Qi post (zB ca D cl tys A) A) args s cells slots A) (F0 m pc ls [.int v]) :=
  W.iret hexec hb hr (fun t ht hW => ⟨⟨v, M, rfl, hpost, by rw [ht]; exact hM, va_K.moved hW.alike hK⟩, hS.F ht⟩) hS.2.2 hdg hlocks
theorem z_zret {post : Int32 → zM → Prop} {v : Int32} (hexec : p.tables.exec = Jvm.exec) (hb : c.code = cc) (hr : meth.sig.returnType = some .boolean) (hlocks : meth.locks = false) (hn : narrow .boolean (.int v) = .int v) (hK : va_K D cl tys s) (hM : zW ca D cl A M H) (hS : va_S A s.heap H locs) (hpost : post v M) (hdg : decode cc pc = .ok (.ireturn, 1)) : W p l e R s m args below meth c H locs cells slots (MQ below (va_Qi post (zB ca D cl tys A) A) args s cells slots A) (F0 m pc ls [.int v]) :=
  W.zret hexec hb hr hn (fun t ht hW => ⟨⟨v, M, rfl, hpost, by rw [ht]; exact hM, va_K.moved hW.alike hK⟩, hS.F ht⟩) hS.2.2 hdg hlocks
theorem z_vret {post : zM → Prop} (hexec : p.tables.exec = Jvm.exec) (hb : c.code = cc) (hr : meth.sig.returnType = none) (hlocks : meth.locks = false) (hK : va_K D cl tys s) (hM : zW ca D cl A M H) (hS : va_S A s.heap H locs) (hpost : post M) (hdg : decode cc pc = .ok (.return_, 1)) : W p l e R s m args below meth c H locs cells slots (MQ below (va_Qv post (zB ca D cl tys A) A) args s cells slots A) (F0 m pc ls []) :=
  W.vret hexec hb hr (fun t ht hW => ⟨⟨M, rfl, hpost, by rw [ht]; exact hM, va_K.moved hW.alike hK⟩, hS.F ht⟩) hS.2.2 hdg hlocks
theorem z_aret {post : Option Nat → zM → Prop} {v : Option Nat} {rn : String} (hexec : p.tables.exec = Jvm.exec) (hb : c.code = cc) (hr : meth.sig.returnType = some (.object rn)) (hlocks : meth.locks = false) (hK : va_K D cl tys s) (hM : zW ca D cl A M H) (hS : va_S A s.heap H locs) (hpost : post v M) (hdg : decode cc pc = .ok (.areturn, 1)) : W p l e R s m args below meth c H locs cells slots (MQ below (va_Qq post (zB ca D cl tys A) A) args s cells slots A) (F0 m pc ls [va_rf v]) :=
  W.aret hexec hb hr (Or.inl ⟨rn, rfl⟩) (va_rf_or v) (fun t ht hW => ⟨⟨v, M, rfl, hpost, by rw [ht]; exact hM, va_K.moved hW.alike hK⟩, hS.F ht⟩) hS.2.2 hdg hlocks
end ZC
theorem z_sllen : ∀ {av : List Value}, (∀ v ∈ av, v.category = 1) → (lg_sl av).length = av.length
  | [], _ => rfl
  | v :: t, h => by
    have h1 := h v List.mem_cons_self
    have ih := z_sllen (av := t) (fun w hw => h w (List.mem_cons_of_mem _ hw))
    unfold lg_sl at ih ⊢
    rw [List.flatMap_cons, List.length_append, ih, if_neg (by rw [h1]; decide)]
    simp [Nat.add_comm]
theorem z_lvcat : ∀ {av : List Value}, (∀ v ∈ av, v.category = 1) → ∀ (i : Nat) (q : Nat × Value), q ∈ lv_args i av → q.2.category = 1
  | [], _, i, q, hq => by cases hq
  | v :: t, h, i, q, hq => by
    rcases List.mem_cons.mp hq with rfl | hq
    · exact h v List.mem_cons_self
    · exact z_lvcat (fun w hw => h w (List.mem_cons_of_mem _ hw)) _ q hq
/-- a method's start -/
theorem z_met {l : Launch} {y : MethodName} {ws ws' : List Cond} {rm : Room} {ca : Nat → ClassId} {D : va_G} {cl : List vw_C} {tys : List (ClassId × FieldType)} {av : List Value} {M : zM} {sz : Nat} {pre : Prop} {Qc : Array Value → State → Outcome → State → Prop} {mc ms : Nat} {cc : ByteArray} {maxL : Nat} {ret : Option FieldType}
    (hy : plainName y.cls = true) (hw : ws = Cond.code y cc maxL ret :: ws') (hcat : ∀ v ∈ av, v.category = 1) (hlen : av.length ≤ maxL)
    (body : ∀ (p : Program) (e : Env) (s : State) (m : MethodId) (args : Array Value) (below : List Frame) (meth : Method) (c : Code) (ls : Array Slot) (A : Nat → Prop), p.tables.exec = Jvm.exec → c.code = cc → meth.sig.returnType = ret → meth.locks = false → c.maxLocals = maxL → (∀ w ∈ ws, w.before args s = true) → s.vm.findClass y.cls = some m.cls → meth.name = y.name → va_K D cl tys s → zN s → zL ls maxL (lv_args 0 av) → A = zA M sz → zW ca D cl A M s.heap → va_S A s.heap s.heap [] → (∀ q, s.heap.size ≤ q → A q) → pre →
      W p l e rm s m args below meth c s.heap [] 0 0 (MQ below Qc args s mc ms A) (F0 m 0 ls [])) : Met l y ws rm (zPre ca D cl tys av M sz pre) Qc mc ms (zA M sz) := by
  refine Met.ofW (cc := cc) (maxL := maxL) (ret := ret) hy hw ?_
  intro p e s m args below meth c s₁ B hml hv
  obtain ⟨rfl, hsz, hM, hK, hN, hpre⟩ := hv
  have hslen : (lg_sl av).length = av.length := z_sllen hcat
  have hl := lv_entry av (n := maxL) (by rw [hslen]; exact hlen)
  rw [lg_entry_eq]
  have hcat2 : ∀ (i : Nat) (q : Nat × Value), q ∈ lv_args i av → q.2.category = 1 := z_lvcat hcat
  refine body p e s m av.toArray below meth c _ (zA M sz) B.exec B.bytes B.returns B.notSynchronized hml (atoms_spec (ws := ws) B.pre) (findClass_of_methodNamed B.named) (name_of_methodNamed B.named B.method).1 hK hN ⟨hl, fun q hq => hcat2 0 q hq⟩ rfl (hM.weaken (fun q hq _ => Or.inl hq)) va_S.rf (fun q hq => Or.inr (by rw [← hsz]; exact hq)) hpre
end
section
def w_A_init (M : zM) (a0 : Nat) (x1 : Int32) (post : zM → Prop) : Prop := zT M a0 = some (0, 10) ∧ ∀ M2, M2 = zwI M a0 0 x1 → ∀ q4, zT M2 q4 = none → ∀ M6, M6 = znw M2 q4 (20, 3) → zT M6 a0 = some (0, 10) ∧ ∀ M10, M10 = zwR M6 a0 1 (some q4) → ∀ M13, M13 = zwI M10 a0 7 (1 : Int32) → post M13
def w_A_addReference (M : zM) (a0 : Nat) (x1 : Int32) (post : zM → Prop) : Prop := zT M a0 = some (0, 10) ∧ ∃ b2, zR M a0 1 = some b2 ∧ ∃ n5, zT M b2 = some (20, n5) ∧ ((zI M a0 2 < nI n5 → ∃ b7, zR M a0 1 = some b7 ∧ ∃ n10, zT M b7 = some (20, n10) ∧ vp_in (zI M a0 2) n10 ∧ ∀ M12, M12 = zwI M b7 (zI M a0 2).toNatClampNeg x1 → ∀ M15, M15 = zwI M12 a0 2 ((zI M12 a0 2) + (1 : Int32)) → ∀ M18, M18 = zwI M15 a0 3 (if zI M15 a0 3 < x1 + (1 : Int32) then x1 + (1 : Int32) else zI M15 a0 3) → post M18) ∧ (¬ (zI M a0 2 < nI n5) → post M))
def w_A_refersTo_2 (post : Int32 → zM → Prop) : Nat → zM → Nat → Int32 → Int32 → Prop
  | 0, _, _, _, _ => False
  | n + 1, M, a0, x1, x2 => zT M a0 = some (0, 10) ∧ ((zI M a0 2 ≤ x2 → post (0 : Int32) M) ∧ (¬ (zI M a0 2 ≤ x2) → ∃ b3, zR M a0 1 = some b3 ∧ ∃ n6, zT M b3 = some (20, n6) ∧ ((nI n6 ≤ x2 → post (0 : Int32) M) ∧ (¬ (nI n6 ≤ x2) → ∃ b8, zR M a0 1 = some b8 ∧ ∃ n11, zT M b8 = some (20, n11) ∧ vp_in x2 n11 ∧ ((zI M b8 x2.toNatClampNeg = x1 → post (1 : Int32) M) ∧ (¬ (zI M b8 x2.toNatClampNeg = x1) → w_A_refersTo_2 post n M a0 x1 (x2 + (1 : Int32))))))))
def w_A_refersTo (M : zM) (a0 : Nat) (x1 : Int32) (post : Int32 → zM → Prop) : Prop := ∃ n14, w_A_refersTo_2 post n14 M a0 x1 (0 : Int32)
def w_K_init (M : zM) (a0 : Nat) (post : zM → Prop) : Prop := post M
def w_C_init_15 (post : zM → Prop) : Nat → zM → Nat → Int32 → Prop
  | 0, _, _, _ => False
  | n + 1, M, a0, x1 => zT M a0 = some (1, 4) ∧ ∃ b10, zR M a0 0 = some b10 ∧ ∃ n13, zT M b10 = some (25, n13) ∧ ((nI n13 ≤ x1 → post M) ∧ (¬ (nI n13 ≤ x1) → ∀ q15, zT M q15 = none → ∀ M17, M17 = znw M q15 (6, 6) → w_K_init M17 q15 (fun M20 => ∃ b21, zR M a0 0 = some b21 ∧ ∃ n24, zT M20 b21 = some (25, n24) ∧ zT M20 q15 = some (6, 6) ∧ vp_in x1 n24 ∧ ∀ M27, M27 = zwR M20 b21 x1.toNatClampNeg (some q15) → w_C_init_15 post n M27 a0 (x1 + (1 : Int32)))))
def w_C_init (M : zM) (a0 : Nat) (post : zM → Prop) : Prop := ∀ q1, zT M q1 = none → ∀ M3, M3 = znw M q1 (25, 6) → zT M3 a0 = some (1, 4) ∧ ∀ M7, M7 = zwR M3 a0 0 (some q1) → w_C_init_15 post 7 M7 a0 (0 : Int32)
def w_C_storedAt (M : zM) (a0 : Nat) (x1 : Int32) (post : Option Nat → zM → Prop) : Prop := ((x1 < 0 → post none M) ∧ (¬ (x1 < 0) → zT M a0 = some (1, 4) ∧ ∃ b3, zR M a0 0 = some b3 ∧ ∃ n6, zT M b3 = some (25, n6) ∧ ((nI n6 ≤ x1 → post none M) ∧ (¬ (nI n6 ≤ x1) → ∃ b8, zR M a0 0 = some b8 ∧ ∃ n11, zT M b8 = some (25, n11) ∧ vp_in x1 n11 ∧ post (zR M b8 x1.toNatClampNeg) M))))
def w_K_isFresh (M : zM) (a0 : Nat) (x1 : Int32) (post : Int32 → zM → Prop) : Prop := zT M a0 = some (6, 6) ∧ ((zI M a0 0 = 0 → post (0 : Int32) M) ∧ (¬ (zI M a0 0 = 0) → ((zI M a0 3 ≤ x1 - (zI M a0 4) → post (0 : Int32) M) ∧ (¬ (zI M a0 3 ≤ x1 - (zI M a0 4)) → post (1 : Int32) M))))
def w_Q_settle (M : zM) (a0 : Nat) (x1 : Int32) (x2 : Int32) (post : zM → Prop) : Prop := zT M a0 = some (3, 12) ∧ ∀ M2, M2 = zwI M a0 9 x1 → ∀ M5, M5 = zwI M2 a0 10 x2 → post M5
def w_C_begin (M : zM) (a0 : Nat) (a1 : Nat) (a2 : Nat) (x3 : Int32) (post : zM → Prop) : Prop := zT M a1 = some (3, 12) ∧ ((zI M a1 2 = 0 → zT M a2 = some (6, 6) ∧ w_K_isFresh M a2 x3 (fun r21 M22 => ((r21 = 0 → zT M22 a0 = some (1, 4) ∧ ((zI M22 a0 3 = 0 → zT M22 a1 = some (3, 12) ∧ ∀ M27, M27 = zwI M22 a1 6 x3 → ∀ M30, M30 = zwI M27 a1 8 (1 : Int32) → zT M30 a2 = some (6, 6) ∧ ((zI M30 a2 0 = 0 → post M30) ∧ (¬ (zI M30 a2 0 = 0) → ∀ M35, M35 = zwI M30 a1 5 (zI M30 a2 1) → ∀ M39, M39 = zwI M35 a1 7 (zI M35 a2 2) → post M39))) ∧ (¬ (zI M22 a0 3 = 0) → zT M22 a1 = some (3, 12) ∧ w_Q_settle M22 a1 (7 : Int32) (0 : Int32) (fun M42 => post M42)))) ∧ (¬ (r21 = 0) → zT M22 a2 = some (6, 6) ∧ zT M22 a1 = some (3, 12) ∧ w_Q_settle M22 a1 (8 : Int32) (zI M22 a2 2) (fun M45 => post M45))))) ∧ (¬ (zI M a1 2 = 0) → zT M a0 = some (1, 4) ∧ ((zI M a0 3 = 0 → ∀ M5, M5 = zwI M a1 6 x3 → ∀ M8, M8 = zwI M5 a1 8 (1 : Int32) → zT M8 a2 = some (6, 6) ∧ ((zI M8 a2 0 = 0 → post M8) ∧ (¬ (zI M8 a2 0 = 0) → ∀ M13, M13 = zwI M8 a1 5 (zI M8 a2 1) → ∀ M17, M17 = zwI M13 a1 7 (zI M13 a2 2) → post M17))) ∧ (¬ (zI M a0 3 = 0) → w_Q_settle M a1 (7 : Int32) (0 : Int32) (fun M19 => post M19)))))
def w_C_mustWaitFor (M : zM) (a0 : Nat) (a1 : Nat) (post : Int32 → zM → Prop) : Prop := zT M a1 = some (0, 10) ∧ zT M a0 = some (1, 4) ∧ ((zI M a1 3 ≤ zI M a0 1 → post (0 : Int32) M) ∧ (¬ (zI M a1 3 ≤ zI M a0 1) → post (1 : Int32) M))
def w_K_forgetIfOlderThan (M : zM) (a0 : Nat) (x1 : Int32) (post : zM → Prop) : Prop := zT M a0 = some (6, 6) ∧ ((x1 ≤ zI M a0 5 → post M) ∧ (¬ (x1 ≤ zI M a0 5) → ∀ M3, M3 = zwI M a0 0 (0 : Int32) → post M3))
def w_C_store_19 (post : zM → Prop) (M : zM) (a0 : Nat) (a1 : Nat) (a2 : Nat) (a3 : Nat) : Prop := zT M a1 = some (6, 6) ∧ ∀ M4, M4 = zwI M a1 0 (1 : Int32) → zT M4 a3 = some (0, 10) ∧ ∀ M8, M8 = zwI M4 a1 1 (zI M4 a3 4) → ∀ M12, M12 = zwI M8 a1 2 (zI M8 a3 6) → ∀ M16, M16 = zwI M12 a1 3 (zI M12 a3 5) → zT M16 a2 = some (3, 12) ∧ ∀ M20, M20 = zwI M16 a1 4 (zI M16 a2 6) → ∀ M24, M24 = zwI M20 a1 5 (zI M20 a2 0) → post M24
def w_C_store (M : zM) (a0 : Nat) (a1 : Nat) (a2 : Nat) (a3 : Nat) (post : zM → Prop) : Prop := zT M a1 = some (6, 6) ∧ ((zI M a1 0 = 0 → w_C_store_19 post M a0 a1 a2 a3) ∧ (¬ (zI M a1 0 = 0) → zT M a2 = some (3, 12) ∧ ((zI M a1 5 < zI M a2 0 → w_C_store_19 post M a0 a1 a2 a3) ∧ (¬ (zI M a1 5 < zI M a2 0) → post M))))
def w_C_renew (M : zM) (a0 : Nat) (a1 : Nat) (a2 : Nat) (a3 : Nat) (post : zM → Prop) : Prop := zT M a1 = some (6, 6) ∧ ((zI M a1 0 = 0 → post M) ∧ (¬ (zI M a1 0 = 0) → zT M a3 = some (0, 10) ∧ ((zI M a1 1 = zI M a3 4 → zT M a2 = some (3, 12) ∧ ((zI M a1 5 < zI M a2 0 → ∀ M7, M7 = zwI M a1 3 (zI M a3 5) → ∀ M11, M11 = zwI M7 a1 4 (zI M7 a2 6) → ∀ M15, M15 = zwI M11 a1 5 (zI M11 a2 0) → post M15) ∧ (¬ (zI M a1 5 < zI M a2 0) → post M))) ∧ (¬ (zI M a1 1 = zI M a3 4) → post M))))
def w_F_append (M : zM) (a0 : Nat) (x1 : Int32) (x2 : Int32) (post : zM → Prop) : Prop := zT M a0 = some (2, 4) ∧ ∃ b2, zR M a0 0 = some b2 ∧ ∃ n5, zT M b2 = some (20, n5) ∧ ((nI n5 ≤ zI M a0 2 → post M) ∧ (¬ (nI n5 ≤ zI M a0 2) → ∃ b7, zR M a0 1 = some b7 ∧ ∃ n10, zT M b7 = some (20, n10) ∧ ((zI M a0 2 < nI n10 → ∃ b12, zR M a0 0 = some b12 ∧ ∃ n15, zT M b12 = some (20, n15) ∧ vp_in (zI M a0 2) n15 ∧ ∀ M17, M17 = zwI M b12 (zI M a0 2).toNatClampNeg x1 → ∃ b20, zR M17 a0 1 = some b20 ∧ ∃ n23, zT M17 b20 = some (20, n23) ∧ vp_in (zI M17 a0 2) n23 ∧ ∀ M25, M25 = zwI M17 b20 (zI M17 a0 2).toNatClampNeg x2 → ∀ M28, M28 = zwI M25 a0 2 ((zI M25 a0 2) + (1 : Int32)) → post M28) ∧ (¬ (zI M a0 2 < nI n10) → post M))))
def w_C_acknowledge (M : zM) (a0 : Nat) (a1 : Nat) (a2 : Nat) (a3 : Nat) (post : zM → Prop) : Prop := zT M a2 = some (0, 10) ∧ ((zI M a2 3 = 0 → post M) ∧ (¬ (zI M a2 3 = 0) → zT M a1 = some (3, 12) ∧ zT M a3 = some (2, 4) ∧ w_F_append M a3 (0 : Int32) (zI M a1 0) (fun M5 => zT M5 a0 = some (1, 4) ∧ zT M5 a2 = some (0, 10) ∧ ∀ M8, M8 = zwI M5 a0 2 (if zI M5 a0 2 < zI M5 a2 3 then zI M5 a2 3 else zI M5 a0 2) → post M8)))
def w_C_read_145 (post : zM → Prop) (M : zM) (a0 : Nat) (a1 : Nat) (a2 : Nat) (a3 : Nat) (a4 : Nat) : Prop := zT M a0 = some (1, 4) ∧ w_C_acknowledge M a0 a1 a2 a3 (fun M14 => post M14)
def w_C_read (M : zM) (a0 : Nat) (a1 : Nat) (a2 : Nat) (a3 : Nat) (post : zM → Prop) : Prop := zT M a1 = some (3, 12) ∧ zT M a0 = some (1, 4) ∧ w_C_storedAt M a0 (zI M a1 1) (fun r3 M4 => ((r3 = none → post M4) ∧ (∀ b5, r3 = some b5 → zT M4 a2 = some (0, 10) ∧ ((zI M4 a2 0 = (200 : Int32) → zT M4 a1 = some (3, 12) ∧ ((zI M4 a1 2 = 0 → w_Q_settle M4 a1 (1 : Int32) (zI M4 a2 6) (fun M10 => zT M10 a0 = some (1, 4) ∧ w_C_store M10 a0 b5 a1 a2 (fun M12 => w_C_read_145 post M12 a0 a1 a2 a3 b5))) ∧ (¬ (zI M4 a1 2 = 0) → w_Q_settle M4 a1 (4 : Int32) (0 : Int32) (fun M15 => zT M15 a1 = some (3, 12) ∧ zT M15 b5 = some (6, 6) ∧ w_K_forgetIfOlderThan M15 b5 (zI M15 a1 0) (fun M18 => w_C_read_145 post M18 a0 a1 a2 a3 b5))))) ∧ (¬ (zI M4 a2 0 = (200 : Int32)) → ((zI M4 a2 0 = (304 : Int32) → zT M4 a1 = some (3, 12) ∧ w_Q_settle M4 a1 (2 : Int32) (zI M4 a1 7) (fun M21 => zT M21 a0 = some (1, 4) ∧ w_C_renew M21 a0 b5 a1 a2 (fun M23 => w_C_read_145 post M23 a0 a1 a2 a3 b5))) ∧ (¬ (zI M4 a2 0 = (304 : Int32)) → ((zI M4 a2 0 = (404 : Int32) → zT M4 a1 = some (3, 12) ∧ w_Q_settle M4 a1 (3 : Int32) (0 : Int32) (fun M26 => zT M26 a1 = some (3, 12) ∧ zT M26 b5 = some (6, 6) ∧ w_K_forgetIfOlderThan M26 b5 (zI M26 a1 0) (fun M29 => w_C_read_145 post M29 a0 a1 a2 a3 b5))) ∧ (¬ (zI M4 a2 0 = (404 : Int32)) → zT M4 a1 = some (3, 12) ∧ w_Q_settle M4 a1 (5 : Int32) (0 : Int32) (fun M31 => w_C_read_145 post M31 a0 a1 a2 a3 b5))))))))))
def w_F_init (M : zM) (a0 : Nat) (post : zM → Prop) : Prop := ∀ q1, zT M q1 = none → ∀ M3, M3 = znw M q1 (20, 240) → zT M3 a0 = some (2, 4) ∧ ∀ M7, M7 = zwR M3 a0 0 (some q1) → ∀ q9, zT M7 q9 = none → ∀ M11, M11 = znw M7 q9 (20, 240) → zT M11 a0 = some (2, 4) ∧ ∀ M15, M15 = zwR M11 a0 1 (some q9) → post M15
def w_F_nextKind (M : zM) (a0 : Nat) (post : Int32 → zM → Prop) : Prop := zT M a0 = some (2, 4) ∧ ((zI M a0 2 ≤ zI M a0 3 → post (-1 : Int32) M) ∧ (¬ (zI M a0 2 ≤ zI M a0 3) → ∃ b3, zR M a0 0 = some b3 ∧ ∃ n6, zT M b3 = some (20, n6) ∧ ((nI n6 ≤ zI M a0 3 → post (-1 : Int32) M) ∧ (¬ (nI n6 ≤ zI M a0 3) → ∃ b8, zR M a0 0 = some b8 ∧ ∃ n11, zT M b8 = some (20, n11) ∧ vp_in (zI M a0 3) n11 ∧ post (zI M b8 (zI M a0 3).toNatClampNeg) M))))
def w_F_nextNumber (M : zM) (a0 : Nat) (post : Int32 → zM → Prop) : Prop := zT M a0 = some (2, 4) ∧ ((zI M a0 2 ≤ zI M a0 3 → post (-1 : Int32) M) ∧ (¬ (zI M a0 2 ≤ zI M a0 3) → ∃ b3, zR M a0 1 = some b3 ∧ ∃ n6, zT M b3 = some (20, n6) ∧ ((nI n6 ≤ zI M a0 3 → post (-1 : Int32) M) ∧ (¬ (nI n6 ≤ zI M a0 3) → ∃ b8, zR M a0 1 = some b8 ∧ ∃ n11, zT M b8 = some (20, n11) ∧ vp_in (zI M a0 3) n11 ∧ post (zI M b8 (zI M a0 3).toNatClampNeg) M))))
def w_F_moveOn (M : zM) (a0 : Nat) (post : zM → Prop) : Prop := zT M a0 = some (2, 4) ∧ ((zI M a0 2 ≤ zI M a0 3 → post M) ∧ (¬ (zI M a0 2 ≤ zI M a0 3) → ∀ M3, M3 = zwI M a0 3 ((zI M a0 3) + (1 : Int32)) → post M3))
def w_Q_init (M : zM) (a0 : Nat) (x1 : Int32) (x2 : Int32) (x3 : Int32) (x4 : Int32) (x5 : Int32) (post : zM → Prop) : Prop := zT M a0 = some (3, 12) ∧ ∀ M2, M2 = zwI M a0 0 x1 → ∀ M5, M5 = zwI M2 a0 1 x2 → (x3 = 0 ∨ x3 = 1) ∧ ∀ M9, M9 = zwI M5 a0 2 x3 → ∀ M12, M12 = zwI M9 a0 3 x4 → ∀ M15, M15 = zwI M12 a0 4 x5 → ∀ M18, M18 = zwI M15 a0 5 (0 : Int32) → ∀ M21, M21 = zwI M18 a0 9 (0 : Int32) → post M21
def w_O_init (M : zM) (a0 : Nat) (post : zM → Prop) : Prop := post M
def w_T_init (M : zM) (a0 : Nat) (post : zM → Prop) : Prop := ∀ q1, zT M q1 = none → ∀ M3, M3 = znw M q1 (20, 5) → zT M3 a0 = some (7, 8) ∧ ∀ M7, M7 = zwR M3 a0 0 (some q1) → ∀ q9, zT M7 q9 = none → ∀ M11, M11 = znw M7 q9 (20, 5) → zT M11 a0 = some (7, 8) ∧ ∀ M15, M15 = zwR M11 a0 1 (some q9) → ∀ q17, zT M15 q17 = none → ∀ M19, M19 = znw M15 q17 (23, 60) → zT M19 a0 = some (7, 8) ∧ ∀ M23, M23 = zwR M19 a0 2 (some q17) → post M23
def w_S_init_15 (post : zM → Prop) : Nat → zM → Nat → Int32 → Prop
  | 0, _, _, _ => False
  | n + 1, M, a0, x1 => zT M a0 = some (5, 6) ∧ ∃ b10, zR M a0 0 = some b10 ∧ ∃ n13, zT M b10 = some (24, n13) ∧ ((nI n13 ≤ x1 → ∀ q15, zT M q15 = none → ∀ M17, M17 = znw M q15 (7, 8) → w_T_init M17 q15 (fun M20 => zT M20 a0 = some (5, 6) ∧ ∀ M22, M22 = zwR M20 a0 1 (some q15) → post M22)) ∧ (¬ (nI n13 ≤ x1) → ∀ q24, zT M q24 = none → ∀ M26, M26 = znw M q24 (4, 4) → w_O_init M26 q24 (fun M29 => ∃ b30, zR M a0 0 = some b30 ∧ ∃ n33, zT M29 b30 = some (24, n33) ∧ zT M29 q24 = some (4, 4) ∧ vp_in x1 n33 ∧ ∀ M36, M36 = zwR M29 b30 x1.toNatClampNeg (some q24) → w_S_init_15 post n M36 a0 (x1 + (1 : Int32)))))
def w_S_init (M : zM) (a0 : Nat) (post : zM → Prop) : Prop := ∀ q1, zT M q1 = none → ∀ M3, M3 = znw M q1 (24, 6) → zT M3 a0 = some (5, 6) ∧ ∀ M7, M7 = zwR M3 a0 0 (some q1) → w_S_init_15 post 7 M7 a0 (0 : Int32)
def w_S_resourceAt (M : zM) (a0 : Nat) (x1 : Int32) (post : Option Nat → zM → Prop) : Prop := ((x1 < 0 → post none M) ∧ (¬ (x1 < 0) → zT M a0 = some (5, 6) ∧ ∃ b3, zR M a0 0 = some b3 ∧ ∃ n6, zT M b3 = some (24, n6) ∧ ((nI n6 ≤ x1 → post none M) ∧ (¬ (nI n6 ≤ x1) → ∃ b8, zR M a0 0 = some b8 ∧ ∃ n11, zT M b8 = some (24, n11) ∧ vp_in x1 n11 ∧ post (zR M b8 x1.toNatClampNeg) M))))
def w_S_write (M : zM) (a0 : Nat) (a1 : Nat) (x2 : Int32) (x3 : Int32) (post : zM → Prop) : Prop := zT M a0 = some (5, 6) ∧ ∀ M2, M2 = zwI M a0 2 ((zI M a0 2) + (1 : Int32)) → zT M2 a1 = some (4, 4) ∧ ∀ M5, M5 = zwI M2 a1 0 (1 : Int32) → ∀ M9, M9 = zwI M5 a1 1 (zI M5 a0 2) → ∀ M12, M12 = zwI M9 a1 2 x2 → ∀ M15, M15 = zwI M12 a1 3 x3 → post M15
def w_T_outstandingNeeding_4 (post : Int32 → zM → Prop) : Nat → zM → Nat → Int32 → Int32 → Int32 → Prop
  | 0, _, _, _, _, _ => False
  | n + 1, M, a0, x1, x2, x3 => zT M a0 = some (7, 8) ∧ ((zI M a0 3 ≤ x3 → post x2 M) ∧ (¬ (zI M a0 3 ≤ x3) → ∃ b3, zR M a0 2 = some b3 ∧ ∃ n6, zT M b3 = some (23, n6) ∧ ((nI n6 ≤ x3 → post x2 M) ∧ (¬ (nI n6 ≤ x3) → ∃ b8, zR M a0 2 = some b8 ∧ ∃ n11, zT M b8 = some (23, n11) ∧ vp_in x3 n11 ∧ ∀ r13, r13 = zR M b8 x3.toNatClampNeg → ((r13 = none → w_T_outstandingNeeding_4 post n M a0 x1 x2 (x3 + (1 : Int32))) ∧ (∀ b15, r13 = some b15 → zT M b15 = some (0, 10) ∧ ((zI M b15 9 = 0 → w_T_outstandingNeeding_4 post n M a0 x1 x2 (x3 + (1 : Int32))) ∧ (¬ (zI M b15 9 = 0) → ((zI M b15 3 < x1 → w_T_outstandingNeeding_4 post n M a0 x1 x2 (x3 + (1 : Int32))) ∧ (¬ (zI M b15 3 < x1) → w_T_outstandingNeeding_4 post n M a0 x1 (x2 + (1 : Int32)) (x3 + (1 : Int32))))))))))))
def w_T_outstandingNeeding (M : zM) (a0 : Nat) (x1 : Int32) (post : Int32 → zM → Prop) : Prop := ∃ n20, w_T_outstandingNeeding_4 post n20 M a0 x1 (0 : Int32) (0 : Int32)
def w_T_atRisk (M : zM) (a0 : Nat) (post : Int32 → zM → Prop) : Prop := zT M a0 = some (7, 8) ∧ w_T_outstandingNeeding M a0 ((zI M a0 5) + (1 : Int32)) (fun r2 M3 => post r2 M3)
def w_T_liveCount (M : zM) (a0 : Nat) (post : Int32 → zM → Prop) : Prop := zT M a0 = some (7, 8) ∧ post (if (5 : Int32) < zI M a0 4 then (5 : Int32) else zI M a0 4) M
def w_M_floorMod (M : zM) (x0 : Int32) (x1 : Int32) (post : Int32 → zM → Prop) : Prop := ¬ x1 = 0 ∧ ((0 ≤ x0 ^^^ x1 → post (x0 - x0 / x1 * x1) M) ∧ (¬ (0 ≤ x0 ^^^ x1) → ((x0 - x0 / x1 * x1 = 0 → post (x0 - x0 / x1 * x1) M) ∧ (¬ (x0 - x0 / x1 * x1 = 0) → post ((x0 - x0 / x1 * x1) + x1) M))))
def w_T_nameOf (M : zM) (a0 : Nat) (x1 : Int32) (post : Int32 → zM → Prop) : Prop := zT M a0 = some (7, 8) ∧ w_M_floorMod M x1 (5 : Int32) (fun r2 M3 => ∃ b4, zR M a0 0 = some b4 ∧ ∃ n7, zT M3 b4 = some (20, n7) ∧ vp_in r2 n7 ∧ post (zI M3 b4 r2.toNatClampNeg) M3)
def w_T_valueOf (M : zM) (a0 : Nat) (x1 : Int32) (post : Int32 → zM → Prop) : Prop := zT M a0 = some (7, 8) ∧ w_M_floorMod M x1 (5 : Int32) (fun r2 M3 => ∃ b4, zR M a0 1 = some b4 ∧ ∃ n7, zT M3 b4 = some (20, n7) ∧ vp_in r2 n7 ∧ post (zI M3 b4 r2.toNatClampNeg) M3)
def w_T_findLive_18 (post : Int32 → zM → Prop) : Nat → zM → Nat → Int32 → Int32 → Int32 → Int32 → Prop
  | 0, _, _, _, _, _, _ => False
  | n + 1, M, a0, x1, x2, x3, x4 => ((x4 < x3 → post (-1 : Int32) M) ∧ (¬ (x4 < x3) → zT M a0 = some (7, 8) ∧ w_T_nameOf M a0 x4 (fun r7 M8 => ((r7 = x1 → zT M8 a0 = some (7, 8) ∧ w_T_valueOf M8 a0 x4 (fun r11 M12 => ((r11 = x2 → post x4 M12) ∧ (¬ (r11 = x2) → w_T_findLive_18 post n M12 a0 x1 x2 x3 (x4 + (-1 : Int32)))))) ∧ (¬ (r7 = x1) → w_T_findLive_18 post n M8 a0 x1 x2 x3 (x4 + (-1 : Int32)))))))
def w_T_findLive (M : zM) (a0 : Nat) (x1 : Int32) (x2 : Int32) (post : Int32 → zM → Prop) : Prop := zT M a0 = some (7, 8) ∧ w_T_liveCount M a0 (fun r2 M3 => zT M3 a0 = some (7, 8) ∧ ∃ n14, w_T_findLive_18 post n14 M3 a0 x1 x2 ((zI M a0 4) - r2) ((zI M3 a0 4) - (1 : Int32)))
def w_T_refer (M : zM) (a0 : Nat) (a1 : Nat) (x2 : Int32) (post : zM → Prop) : Prop := zT M a1 = some (0, 10) ∧ w_A_addReference M a1 x2 (fun M2 => zT M2 a0 = some (7, 8) ∧ ∀ M4, M4 = zwI M2 a0 7 ((zI M2 a0 7) + (1 : Int32)) → post M4)
def w_T_referencesTo_4 (post : Int32 → zM → Prop) : Nat → zM → Nat → Int32 → Int32 → Int32 → Prop
  | 0, _, _, _, _, _ => False
  | n + 1, M, a0, x1, x2, x3 => zT M a0 = some (7, 8) ∧ ((zI M a0 3 ≤ x3 → post x2 M) ∧ (¬ (zI M a0 3 ≤ x3) → ∃ b3, zR M a0 2 = some b3 ∧ ∃ n6, zT M b3 = some (23, n6) ∧ ((nI n6 ≤ x3 → post x2 M) ∧ (¬ (nI n6 ≤ x3) → ∃ b8, zR M a0 2 = some b8 ∧ ∃ n11, zT M b8 = some (23, n11) ∧ vp_in x3 n11 ∧ ∀ r13, r13 = zR M b8 x3.toNatClampNeg → ((r13 = none → w_T_referencesTo_4 post n M a0 x1 x2 (x3 + (1 : Int32))) ∧ (∀ b15, r13 = some b15 → zT M b15 = some (0, 10) ∧ ((zI M b15 9 = 0 → w_T_referencesTo_4 post n M a0 x1 x2 (x3 + (1 : Int32))) ∧ (¬ (zI M b15 9 = 0) → w_A_refersTo M b15 x1 (fun r18 M19 => ((r18 = 0 → w_T_referencesTo_4 post n M19 a0 x1 x2 (x3 + (1 : Int32))) ∧ (¬ (r18 = 0) → w_T_referencesTo_4 post n M19 a0 x1 (x2 + (1 : Int32)) (x3 + (1 : Int32)))))))))))))
def w_T_referencesTo (M : zM) (a0 : Nat) (x1 : Int32) (post : Int32 → zM → Prop) : Prop := ∃ n22, w_T_referencesTo_4 post n22 M a0 x1 (0 : Int32) (0 : Int32)
def w_T_hasRoomFor (M : zM) (a0 : Nat) (a1 : Nat) (post : Int32 → zM → Prop) : Prop := zT M a0 = some (7, 8) ∧ w_T_liveCount M a0 (fun r2 M3 => (((5 : Int32) ≤ r2 → zT M3 a0 = some (7, 8) ∧ ((zI M3 a0 5 ≤ (zI M3 a0 4) - (5 : Int32) → post (0 : Int32) M3) ∧ (¬ (zI M3 a0 5 ≤ (zI M3 a0 4) - (5 : Int32)) → w_T_referencesTo M3 a0 ((zI M3 a0 4) - (5 : Int32)) (fun r7 M8 => ((r7 = 0 → zT M8 a1 = some (0, 10) ∧ w_A_refersTo M8 a1 ((zI M3 a0 4) - (5 : Int32)) (fun r11 M12 => ((r11 = 0 → post (1 : Int32) M12) ∧ (¬ (r11 = 0) → post (0 : Int32) M12)))) ∧ (¬ (r7 = 0) → post (0 : Int32) M8)))))) ∧ (¬ ((5 : Int32) ≤ r2) → post (1 : Int32) M3)))
def w_T_makeEntry (M : zM) (a0 : Nat) (x1 : Int32) (x2 : Int32) (post : Int32 → zM → Prop) : Prop := zT M a0 = some (7, 8) ∧ w_M_floorMod M (zI M a0 4) (5 : Int32) (fun r2 M3 => ∃ b4, zR M a0 0 = some b4 ∧ ∃ n7, zT M3 b4 = some (20, n7) ∧ vp_in r2 n7 ∧ ∀ M9, M9 = zwI M3 b4 r2.toNatClampNeg x1 → zT M9 a0 = some (7, 8) ∧ w_M_floorMod M9 (zI M a0 4) (5 : Int32) (fun r12 M13 => ∃ b14, zR M9 a0 1 = some b14 ∧ ∃ n17, zT M13 b14 = some (20, n17) ∧ vp_in r12 n17 ∧ ∀ M19, M19 = zwI M13 b14 r12.toNatClampNeg x2 → zT M19 a0 = some (7, 8) ∧ ∀ M22, M22 = zwI M19 a0 4 ((zI M19 a0 4) + (1 : Int32)) → post (zI M a0 4) M22))
def w_T_putDown_97 (post : zM → Prop) (M : zM) (a0 : Nat) (a1 : Nat) (x2 : Int32) (x3 : Int32) (x4 : Int32) (x5 : Int32) : Prop := zT M a0 = some (7, 8) ∧ ∀ M10, M10 = zwI M a0 6 ((zI M a0 6) + (1 : Int32)) → post M10
def w_T_putDown_24 (post : zM → Prop) (M : zM) (a0 : Nat) (a1 : Nat) (x2 : Int32) (x3 : Int32) (u0 : Int32) : Prop := zT M a0 = some (7, 8) ∧ w_T_findLive M a0 x2 x3 (fun r5 M6 => ((r5 = (-1 : Int32) → ((r5 = (-1 : Int32) → ((u0 = 0 → w_T_putDown_97 post M6 a0 a1 x2 x3 u0 r5) ∧ (¬ (u0 = 0) → zT M6 a0 = some (7, 8) ∧ w_T_hasRoomFor M6 a0 a1 (fun r14 M15 => ((r14 = 0 → w_T_putDown_97 post M15 a0 a1 x2 x3 u0 r5) ∧ (¬ (r14 = 0) → zT M15 a0 = some (7, 8) ∧ w_T_makeEntry M15 a0 x2 x3 (fun r18 M19 => zT M19 a0 = some (7, 8) ∧ w_T_refer M19 a0 a1 r18 (fun M21 => post M21)))))))) ∧ (¬ (r5 = (-1 : Int32)) → w_T_putDown_97 post M6 a0 a1 x2 x3 u0 r5))) ∧ (¬ (r5 = (-1 : Int32)) → zT M6 a0 = some (7, 8) ∧ ((r5 < zI M6 a0 5 → w_T_refer M6 a0 a1 r5 (fun M24 => post M24)) ∧ (¬ (r5 < zI M6 a0 5) → ((u0 = 0 → ((r5 = (-1 : Int32) → ((u0 = 0 → w_T_putDown_97 post M6 a0 a1 x2 x3 u0 r5) ∧ (¬ (u0 = 0) → w_T_hasRoomFor M6 a0 a1 (fun r28 M29 => ((r28 = 0 → w_T_putDown_97 post M29 a0 a1 x2 x3 u0 r5) ∧ (¬ (r28 = 0) → zT M29 a0 = some (7, 8) ∧ w_T_makeEntry M29 a0 x2 x3 (fun r32 M33 => zT M33 a0 = some (7, 8) ∧ w_T_refer M33 a0 a1 r32 (fun M35 => post M35)))))))) ∧ (¬ (r5 = (-1 : Int32)) → w_T_putDown_97 post M6 a0 a1 x2 x3 u0 r5))) ∧ (¬ (u0 = 0) → w_T_refer M6 a0 a1 r5 (fun M36 => post M36))))))))
def w_T_putDown (M : zM) (a0 : Nat) (a1 : Nat) (x2 : Int32) (x3 : Int32) (post : zM → Prop) : Prop := zT M a1 = some (0, 10) ∧ zT M a0 = some (7, 8) ∧ ((zI M a0 5 < zI M a1 3 → w_T_putDown_24 post M a0 a1 x2 x3 (1 : Int32)) ∧ (¬ (zI M a0 5 < zI M a1 3) → w_T_atRisk M a0 (fun r37 M38 => (((2 : Int32) ≤ r37 → w_T_putDown_24 post M38 a0 a1 x2 x3 (0 : Int32)) ∧ (¬ ((2 : Int32) ≤ r37) → w_T_putDown_24 post M38 a0 a1 x2 x3 (1 : Int32))))))
def w_S_answerPut_46 (post : Option Nat → zM → Prop) (M : zM) (a0 : Nat) (a1 : Nat) (a2 : Nat) (x3 : Int32) : Prop := zT M a1 = some (3, 12) ∧ zT M a0 = some (5, 6) ∧ w_S_write M a0 a2 (zI M a1 3) (zI M a1 4) (fun M7 => ∀ q8, zT M7 q8 = none → ∀ M10, M10 = znw M7 q8 (0, 10) → w_A_init M10 q8 (200 : Int32) (fun M13 => zT M13 a0 = some (5, 6) ∧ zT M13 a2 = some (4, 4) ∧ ∃ b16, zR M13 a0 1 = some b16 ∧ zT M13 b16 = some (7, 8) ∧ w_T_putDown M13 b16 q8 (0 : Int32) (zI M13 a2 1) (fun M19 => post (some q8) M19)))
def w_S_answerPut (M : zM) (a0 : Nat) (a1 : Nat) (a2 : Nat) (post : Option Nat → zM → Prop) : Prop := zT M a2 = some (4, 4) ∧ ((zI M a2 0 = 0 → zT M a1 = some (3, 12) ∧ ((zI M a1 5 = 0 → w_S_answerPut_46 post M a0 a1 a2 (0 : Int32)) ∧ (¬ (zI M a1 5 = 0) → (((0 : Int32) = 0 → ∀ q21, zT M q21 = none → ∀ M23, M23 = znw M q21 (0, 10) → w_A_init M23 q21 (412 : Int32) (fun M26 => post (some q21) M26)) ∧ (¬ ((0 : Int32) = 0) → w_S_answerPut_46 post M a0 a1 a2 (0 : Int32)))))) ∧ (¬ (zI M a2 0 = 0) → zT M a1 = some (3, 12) ∧ ((zI M a2 1 = zI M a1 5 → ((zI M a1 5 = 0 → w_S_answerPut_46 post M a0 a1 a2 (1 : Int32)) ∧ (¬ (zI M a1 5 = 0) → (((1 : Int32) = 0 → ∀ q39, zT M q39 = none → ∀ M41, M41 = znw M q39 (0, 10) → w_A_init M41 q39 (412 : Int32) (fun M44 => post (some q39) M44)) ∧ (¬ ((1 : Int32) = 0) → w_S_answerPut_46 post M a0 a1 a2 (1 : Int32)))))) ∧ (¬ (zI M a2 1 = zI M a1 5) → ((zI M a1 5 = 0 → w_S_answerPut_46 post M a0 a1 a2 (0 : Int32)) ∧ (¬ (zI M a1 5 = 0) → (((0 : Int32) = 0 → ∀ q31, zT M q31 = none → ∀ M33, M33 = znw M q31 (0, 10) → w_A_init M33 q31 (412 : Int32) (fun M36 => post (some q31) M36)) ∧ (¬ ((0 : Int32) = 0) → w_S_answerPut_46 post M a0 a1 a2 (0 : Int32)))))))))
def w_S_answerGet_52 (post : Option Nat → zM → Prop) (M : zM) (a0 : Nat) (a1 : Nat) (a2 : Nat) (x3 : Int32) (v0 : Nat) (v1 : Nat) (u2 : Int32) : Prop := zT M v1 = some (0, 10) ∧ w_A_init M v1 u2 (fun M12 => zT M12 a2 = some (4, 4) ∧ zT M12 v0 = some (0, 10) ∧ ∀ M15, M15 = zwI M12 v0 4 (zI M12 a2 1) → ∀ M19, M19 = zwI M15 v0 5 (zI M15 a2 3) → zT M19 a0 = some (5, 6) ∧ ∃ b23, zR M19 a0 1 = some b23 ∧ zT M19 b23 = some (7, 8) ∧ w_T_putDown M19 b23 v0 (0 : Int32) (zI M19 a2 1) (fun M26 => zT M26 a0 = some (5, 6) ∧ zT M26 a2 = some (4, 4) ∧ ∃ b29, zR M26 a0 1 = some b29 ∧ zT M26 b29 = some (7, 8) ∧ w_T_putDown M26 b29 v0 (1 : Int32) (zI M26 a2 3) (fun M32 => ((x3 = 0 → zT M32 a2 = some (4, 4) ∧ zT M32 v0 = some (0, 10) ∧ ∀ M36, M36 = zwI M32 v0 6 (zI M32 a2 2) → zT M36 a0 = some (5, 6) ∧ ∃ b40, zR M36 a0 1 = some b40 ∧ zT M36 b40 = some (7, 8) ∧ w_T_putDown M36 b40 v0 (2 : Int32) (zI M36 a2 2) (fun M43 => post (some v0) M43)) ∧ (¬ (x3 = 0) → post (some v0) M32)))))
def w_S_answerGet (M : zM) (a0 : Nat) (a1 : Nat) (a2 : Nat) (post : Option Nat → zM → Prop) : Prop := zT M a2 = some (4, 4) ∧ ((zI M a2 0 = 0 → ∀ q50, zT M q50 = none → ∀ M52, M52 = znw M q50 (0, 10) → w_A_init M52 q50 (404 : Int32) (fun M55 => post (some q50) M55)) ∧ (¬ (zI M a2 0 = 0) → zT M a1 = some (3, 12) ∧ ((zI M a1 5 = zI M a2 1 → ∀ q44, zT M q44 = none → ∀ M46, M46 = znw M q44 (0, 10) → (((1 : Int32) = 0 → w_S_answerGet_52 post M46 a0 a1 a2 (1 : Int32) q44 q44 (200 : Int32)) ∧ (¬ ((1 : Int32) = 0) → w_S_answerGet_52 post M46 a0 a1 a2 (1 : Int32) q44 q44 (304 : Int32)))) ∧ (¬ (zI M a1 5 = zI M a2 1) → ∀ q5, zT M q5 = none → ∀ M7, M7 = znw M q5 (0, 10) → (((0 : Int32) = 0 → w_S_answerGet_52 post M7 a0 a1 a2 (0 : Int32) q5 q5 (200 : Int32)) ∧ (¬ ((0 : Int32) = 0) → w_S_answerGet_52 post M7 a0 a1 a2 (0 : Int32) q5 q5 (304 : Int32)))))))
def w_T_keepIfReferring (M : zM) (a0 : Nat) (a1 : Nat) (post : zM → Prop) : Prop := zT M a1 = some (0, 10) ∧ ((zI M a1 2 = 0 → post M) ∧ (¬ (zI M a1 2 = 0) → zT M a0 = some (7, 8) ∧ ∃ b4, zR M a0 2 = some b4 ∧ ∃ n7, zT M b4 = some (23, n7) ∧ ((zI M a0 3 < nI n7 → ∀ M9, M9 = zwI M a1 9 (1 : Int32) → ∃ b12, zR M9 a0 2 = some b12 ∧ ∃ n15, zT M9 b12 = some (23, n15) ∧ vp_in (zI M9 a0 3) n15 ∧ ∀ M18, M18 = zwR M9 b12 (zI M9 a0 3).toNatClampNeg (some a1) → ∀ M21, M21 = zwI M18 a0 3 ((zI M18 a0 3) + (1 : Int32)) → post M21) ∧ (¬ (zI M a0 3 < nI n7) → post M))))
def w_S_takeRequest_72 (post : Int32 → zM → Prop) (M : zM) (a0 : Nat) (a1 : Nat) (a2 : Nat) (w0 : Option Nat) : Prop := zT M a0 = some (5, 6) ∧ ∃ b18, w0 = some b18 ∧ ∃ b20, zR M a0 1 = some b20 ∧ zT M b20 = some (7, 8) ∧ w_T_keepIfReferring M b20 b18 (fun M23 => zT M23 a1 = some (3, 12) ∧ ∀ M25, M25 = zwR M23 a1 11 (some b18) → zT M25 b18 = some (0, 10) ∧ post (zI M25 b18 0) M25)
def w_S_takeRequest_33 (post : Int32 → zM → Prop) (M : zM) (a0 : Nat) (a1 : Nat) (a2 : Nat) : Prop := zT M a0 = some (5, 6) ∧ zT M a1 = some (3, 12) ∧ ∀ M10, M10 = zwI M a0 3 (if zI M a0 3 < (zI M a1 0) + (1 : Int32) then (zI M a1 0) + (1 : Int32) else zI M a0 3) → ((zI M10 a1 2 = 0 → w_S_answerGet M10 a0 a1 a2 (fun r15 M16 => w_S_takeRequest_72 post M16 a0 a1 a2 r15)) ∧ (¬ (zI M10 a1 2 = 0) → w_S_answerPut M10 a0 a1 a2 (fun r29 M30 => w_S_takeRequest_72 post M30 a0 a1 a2 r29)))
def w_S_takeRequest (M : zM) (a0 : Nat) (a1 : Nat) (post : Int32 → zM → Prop) : Prop := zT M a1 = some (3, 12) ∧ zT M a0 = some (5, 6) ∧ w_S_resourceAt M a0 (zI M a1 1) (fun r3 M4 => ((r3 = none → post (0 : Int32) M4) ∧ (∀ b5, r3 = some b5 → zT M4 a0 = some (5, 6) ∧ ((zI M4 a0 4 = 0 → w_S_takeRequest_33 post M4 a0 a1 b5) ∧ (¬ (zI M4 a0 4 = 0) → zT M4 a1 = some (3, 12) ∧ ((zI M4 a1 0 < zI M4 a0 5 → w_S_takeRequest_33 post M4 a0 a1 b5) ∧ (¬ (zI M4 a1 0 < zI M4 a0 5) → post (0 : Int32) M4)))))))
def w_S_announceLimit (M : zM) (a0 : Nat) (post : zM → Prop) : Prop := zT M a0 = some (5, 6) ∧ ((zI M a0 4 = 0 → ∀ M3, M3 = zwI M a0 4 (1 : Int32) → ∀ M6, M6 = zwI M3 a0 5 (zI M3 a0 3) → post M6) ∧ (¬ (zI M a0 4 = 0) → post M))
def w_K_freshFor (M : zM) (a0 : Nat) (x1 : Int32) (post : Int32 → zM → Prop) : Prop := zT M a0 = some (6, 6) ∧ w_K_isFresh M a0 x1 (fun r2 M3 => ((r2 = 0 → post (0 : Int32) M3) ∧ (¬ (r2 = 0) → zT M3 a0 = some (6, 6) ∧ post ((zI M3 a0 3) - (x1 - (zI M3 a0 4))) M3)))
def w_T_learn (M : zM) (a0 : Nat) (x1 : Int32) (post : zM → Prop) : Prop := zT M a0 = some (7, 8) ∧ ∀ M2, M2 = zwI M a0 5 (if zI M a0 5 < x1 then x1 else zI M a0 5) → post M2
def w_X_init (M : zM) (a0 : Nat) (post : zM → Prop) : Prop := ∀ q1, zT M q1 = none → ∀ M3, M3 = znw M q1 (5, 6) → w_S_init M3 q1 (fun M6 => zT M6 a0 = some (8, 6) ∧ ∀ M8, M8 = zwR M6 a0 0 (some q1) → ∀ q10, zT M8 q10 = none → ∀ M12, M12 = znw M8 q10 (1, 4) → w_C_init M12 q10 (fun M15 => zT M15 a0 = some (8, 6) ∧ ∀ M17, M17 = zwR M15 a0 1 (some q10) → ∀ q19, zT M17 q19 = none → ∀ M21, M21 = znw M17 q19 (2, 4) → w_F_init M21 q19 (fun M24 => zT M24 a0 = some (8, 6) ∧ ∀ M26, M26 = zwR M24 a0 2 (some q19) → ∀ q28, zT M26 q28 = none → ∀ M30, M30 = znw M26 q28 (22, 60) → zT M30 a0 = some (8, 6) ∧ ∀ M34, M34 = zwR M30 a0 3 (some q28) → ∀ M37, M37 = zwI M34 a0 4 (0 : Int32) → ∀ M40, M40 = zwI M37 a0 5 (0 : Int32) → post M40)))
def w_X_isLifetime (M : zM) (x0 : Int32) (post : Int32 → zM → Prop) : Prop := ((x0 < 0 → post (0 : Int32) M) ∧ (¬ (x0 < 0) → (((1000 : Int32) < x0 → post (0 : Int32) M) ∧ (¬ ((1000 : Int32) < x0) → post (1 : Int32) M))))
def w_X_put (M : zM) (a0 : Nat) (x1 : Int32) (x2 : Int32) (x3 : Int32) (post : Int32 → zM → Prop) : Prop := zT M a0 = some (8, 6) ∧ ∃ b2, zR M a0 0 = some b2 ∧ zT M b2 = some (5, 6) ∧ w_S_resourceAt M b2 x1 (fun r5 M6 => ((r5 = none → post (-1 : Int32) M6) ∧ (∀ b7, r5 = some b7 → w_X_isLifetime M6 x3 (fun r8 M9 => ((r8 = 0 → post (-1 : Int32) M9) ∧ (¬ (r8 = 0) → zT M9 a0 = some (8, 6) ∧ ∃ b12, zR M9 a0 0 = some b12 ∧ zT M9 b12 = some (5, 6) ∧ w_S_write M9 b12 b7 x2 x3 (fun M15 => zT M15 b7 = some (4, 4) ∧ post (zI M15 b7 1) M15)))))))
def w_X_drop (M : zM) (a0 : Nat) (x1 : Int32) (post : Int32 → zM → Prop) : Prop := zT M a0 = some (8, 6) ∧ ∃ b2, zR M a0 0 = some b2 ∧ zT M b2 = some (5, 6) ∧ w_S_resourceAt M b2 x1 (fun r5 M6 => ((r5 = none → post (0 : Int32) M6) ∧ (∀ b7, r5 = some b7 → zT M6 b7 = some (4, 4) ∧ ((zI M6 b7 0 = 0 → post (0 : Int32) M6) ∧ (¬ (zI M6 b7 0 = 0) → ∀ M10, M10 = zwI M6 b7 0 (0 : Int32) → post (1 : Int32) M10)))))
def w_X_makeRequest (M : zM) (a0 : Nat) (x1 : Int32) (x2 : Int32) (x3 : Int32) (x4 : Int32) (post : Int32 → zM → Prop) : Prop := zT M a0 = some (8, 6) ∧ ∃ b2, zR M a0 1 = some b2 ∧ zT M b2 = some (1, 4) ∧ w_C_storedAt M b2 x1 (fun r5 M6 => ((r5 = none → post (-1 : Int32) M6) ∧ (∀ b7, r5 = some b7 → zT M6 a0 = some (8, 6) ∧ ∃ b9, zR M6 a0 3 = some b9 ∧ ∃ n12, zT M6 b9 = some (22, n12) ∧ ((zI M6 a0 4 < nI n12 → ∀ q14, zT M6 q14 = none → ∀ M16, M16 = znw M6 q14 (3, 12) → zT M16 a0 = some (8, 6) ∧ w_Q_init M16 q14 (zI M16 a0 4) x1 x2 x3 x4 (fun M20 => zT M20 a0 = some (8, 6) ∧ ∃ b22, zR M20 a0 1 = some b22 ∧ zT M20 b22 = some (1, 4) ∧ w_C_begin M20 b22 q14 b7 (zI M20 a0 5) (fun M25 => zT M25 a0 = some (8, 6) ∧ ∃ b27, zR M25 a0 3 = some b27 ∧ ∃ n30, zT M25 b27 = some (22, n30) ∧ zT M25 q14 = some (3, 12) ∧ vp_in (zI M25 a0 4) n30 ∧ ∀ M33, M33 = zwR M25 b27 (zI M25 a0 4).toNatClampNeg (some q14) → ∀ M36, M36 = zwI M33 a0 4 ((zI M33 a0 4) + (1 : Int32)) → post (zI M36 q14 0) M36))) ∧ (¬ (zI M6 a0 4 < nI n12) → post (-1 : Int32) M6)))))
def w_X_get (M : zM) (a0 : Nat) (x1 : Int32) (post : Int32 → zM → Prop) : Prop := zT M a0 = some (8, 6) ∧ w_X_makeRequest M a0 x1 (0 : Int32) (0 : Int32) (0 : Int32) (fun r2 M3 => post r2 M3)
def w_X_replace (M : zM) (a0 : Nat) (x1 : Int32) (x2 : Int32) (x3 : Int32) (post : Int32 → zM → Prop) : Prop := w_X_isLifetime M x3 (fun r1 M2 => ((r1 = 0 → post (-1 : Int32) M2) ∧ (¬ (r1 = 0) → zT M2 a0 = some (8, 6) ∧ w_X_makeRequest M2 a0 x1 (1 : Int32) x2 x3 (fun r5 M6 => post r5 M6))))
def w_X_requestAt (M : zM) (a0 : Nat) (x1 : Int32) (post : Option Nat → zM → Prop) : Prop := ((x1 < 0 → post none M) ∧ (¬ (x1 < 0) → zT M a0 = some (8, 6) ∧ ((zI M a0 4 ≤ x1 → post none M) ∧ (¬ (zI M a0 4 ≤ x1) → ∃ b4, zR M a0 3 = some b4 ∧ ∃ n7, zT M b4 = some (22, n7) ∧ ((x1 < nI n7 → ∃ b9, zR M a0 3 = some b9 ∧ ∃ n12, zT M b9 = some (22, n12) ∧ vp_in x1 n12 ∧ post (zR M b9 x1.toNatClampNeg) M) ∧ (¬ (x1 < nI n7) → post none M))))))
def w_X_arrive (M : zM) (a0 : Nat) (x1 : Int32) (post : Int32 → zM → Prop) : Prop := zT M a0 = some (8, 6) ∧ w_X_requestAt M a0 x1 (fun r2 M3 => ((r2 = none → post (-1 : Int32) M3) ∧ (∀ b4, r2 = some b4 → zT M3 b4 = some (3, 12) ∧ ((zI M3 b4 8 = 0 → post (-1 : Int32) M3) ∧ (¬ (zI M3 b4 8 = 0) → ∀ M7, M7 = zwI M3 b4 8 (0 : Int32) → zT M7 a0 = some (8, 6) ∧ ∃ b10, zR M7 a0 0 = some b10 ∧ zT M7 b10 = some (5, 6) ∧ w_S_takeRequest M7 b10 b4 (fun r13 M14 => post r13 M14))))))
def w_X_reply (M : zM) (a0 : Nat) (x1 : Int32) (post : Int32 → zM → Prop) : Prop := zT M a0 = some (8, 6) ∧ w_X_requestAt M a0 x1 (fun r2 M3 => ((r2 = none → post (-1 : Int32) M3) ∧ (∀ b4, r2 = some b4 → zT M3 b4 = some (3, 12) ∧ ((zR M3 b4 11 = none → post (-1 : Int32) M3) ∧ (∀ b6, zR M3 b4 11 = some b6 → ∃ b7, zR M3 b4 11 = some b7 ∧ zT M3 b7 = some (0, 10) ∧ ((zI M3 b7 7 = 0 → post (-1 : Int32) M3) ∧ (¬ (zI M3 b7 7 = 0) → ∃ b11, zR M3 b4 11 = some b11 ∧ zT M3 b11 = some (0, 10) ∧ ∀ M14, M14 = zwI M3 b11 7 (0 : Int32) → zT M14 a0 = some (8, 6) ∧ ∃ b18, zR M14 b4 11 = some b18 ∧ ∃ b20, zR M14 a0 1 = some b20 ∧ zT M14 b20 = some (1, 4) ∧ w_C_mustWaitFor M14 b20 b18 (fun r23 M24 => ((r23 = 0 → zT M24 a0 = some (8, 6) ∧ zT M24 b4 = some (3, 12) ∧ ∃ b28, zR M24 a0 2 = some b28 ∧ ∃ b30, zR M24 b4 11 = some b30 ∧ ∃ b32, zR M24 a0 1 = some b32 ∧ zT M24 b32 = some (1, 4) ∧ w_C_read M24 b32 b4 b30 b28 (fun M35 => zT M35 b4 = some (3, 12) ∧ post (zI M35 b4 9) M35)) ∧ (¬ (r23 = 0) → zT M24 b4 = some (3, 12) ∧ ∃ b38, zR M24 b4 11 = some b38 ∧ zT M24 b38 = some (0, 10) ∧ ∀ M41, M41 = zwI M24 b38 8 (1 : Int32) → post (0 : Int32) M41))))))))))
def w_X_isBlocked (M : zM) (a0 : Nat) (post : Int32 → zM → Prop) : Prop := zT M a0 = some (3, 12) ∧ ((zR M a0 11 = none → post (0 : Int32) M) ∧ (∀ b3, zR M a0 11 = some b3 → ∃ b4, zR M a0 11 = some b4 ∧ zT M b4 = some (0, 10) ∧ ((zI M b4 8 = 0 → post (0 : Int32) M) ∧ (¬ (zI M b4 8 = 0) → post (1 : Int32) M))))
def w_X_readUnblocked_4 (post : Int32 → zM → Prop) : Nat → zM → Nat → Int32 → Int32 → Prop
  | 0, _, _, _, _ => False
  | n + 1, M, a0, x1, x2 => zT M a0 = some (8, 6) ∧ ((zI M a0 4 ≤ x2 → post x1 M) ∧ (¬ (zI M a0 4 ≤ x2) → w_X_requestAt M a0 x2 (fun r3 M4 => ∃ b5, r3 = some b5 ∧ w_X_isBlocked M4 b5 (fun r7 M8 => ((r7 = 0 → w_X_readUnblocked_4 post n M8 a0 x1 (x2 + (1 : Int32))) ∧ (¬ (r7 = 0) → zT M8 a0 = some (8, 6) ∧ zT M8 b5 = some (3, 12) ∧ ∃ b12, zR M8 b5 11 = some b12 ∧ ∃ b14, zR M8 a0 1 = some b14 ∧ zT M8 b14 = some (1, 4) ∧ w_C_mustWaitFor M8 b14 b12 (fun r17 M18 => ((r17 = 0 → zT M18 b5 = some (3, 12) ∧ ∃ b21, zR M18 b5 11 = some b21 ∧ zT M18 b21 = some (0, 10) ∧ ∀ M24, M24 = zwI M18 b21 8 (0 : Int32) → zT M24 a0 = some (8, 6) ∧ ∃ b28, zR M24 a0 2 = some b28 ∧ ∃ b30, zR M24 b5 11 = some b30 ∧ ∃ b32, zR M24 a0 1 = some b32 ∧ zT M24 b32 = some (1, 4) ∧ w_C_read M24 b32 b5 b30 b28 (fun M35 => w_X_readUnblocked_4 post n M35 a0 (x1 + (1 : Int32)) (x2 + (1 : Int32)))) ∧ (¬ (r17 = 0) → w_X_readUnblocked_4 post n M18 a0 x1 (x2 + (1 : Int32)))))))))))
def w_X_readUnblocked (M : zM) (a0 : Nat) (post : Int32 → zM → Prop) : Prop := ∃ n36, w_X_readUnblocked_4 post n36 M a0 (0 : Int32) (0 : Int32)
def w_X_insert (M : zM) (a0 : Nat) (post : Int32 → zM → Prop) : Prop := zT M a0 = some (8, 6) ∧ ∃ b2, zR M a0 1 = some b2 ∧ zT M b2 = some (1, 4) ∧ ∃ b5, zR M a0 0 = some b5 ∧ zT M b5 = some (5, 6) ∧ ∃ b8, zR M b5 1 = some b8 ∧ zT M b8 = some (7, 8) ∧ ((zI M b2 1 < zI M b8 4 → ∃ b12, zR M a0 1 = some b12 ∧ zT M b12 = some (1, 4) ∧ ∀ M15, M15 = zwI M b12 1 ((zI M b12 1) + (1 : Int32)) → w_X_readUnblocked M15 a0 (fun r18 M19 => post r18 M19)) ∧ (¬ (zI M b2 1 < zI M b8 4) → post (-1 : Int32) M))
def w_X_endOutstanding (M : zM) (a0 : Nat) (x1 : Int32) (x2 : Int32) (post : zM → Prop) : Prop := zT M a0 = some (8, 6) ∧ w_X_requestAt M a0 x1 (fun r2 M3 => ((r2 = none → post M3) ∧ (∀ b4, r2 = some b4 → zT M3 b4 = some (3, 12) ∧ ((zR M3 b4 11 = none → post M3) ∧ (∀ b6, zR M3 b4 11 = some b6 → ∃ b7, zR M3 b4 11 = some b7 ∧ zT M3 b7 = some (0, 10) ∧ ∀ M10, M10 = zwI M3 b7 9 (0 : Int32) → ((x2 = 0 → post M10) ∧ (¬ (x2 = 0) → zT M10 a0 = some (8, 6) ∧ ∃ b14, zR M10 a0 0 = some b14 ∧ zT M10 b14 = some (5, 6) ∧ ∃ b18, zR M10 b4 11 = some b18 ∧ zT M10 b18 = some (0, 10) ∧ ∃ b21, zR M10 b14 1 = some b21 ∧ zT M10 b21 = some (7, 8) ∧ w_T_learn M10 b21 (zI M10 b18 3) (fun M24 => post M24))))))))
def w_X_feedback (M : zM) (a0 : Nat) (post : Int32 → zM → Prop) : Prop := zT M a0 = some (8, 6) ∧ ∃ b2, zR M a0 2 = some b2 ∧ zT M b2 = some (2, 4) ∧ w_F_nextKind M b2 (fun r5 M6 => ((r5 = (-1 : Int32) → post (-1 : Int32) M6) ∧ (¬ (r5 = (-1 : Int32)) → zT M6 a0 = some (8, 6) ∧ ∃ b9, zR M6 a0 2 = some b9 ∧ zT M6 b9 = some (2, 4) ∧ w_F_nextNumber M6 b9 (fun r12 M13 => zT M13 a0 = some (8, 6) ∧ ∃ b15, zR M13 a0 2 = some b15 ∧ zT M13 b15 = some (2, 4) ∧ w_F_moveOn M13 b15 (fun M18 => ((r5 = (2 : Int32) → zT M18 a0 = some (8, 6) ∧ ∃ b26, zR M18 a0 0 = some b26 ∧ zT M18 b26 = some (5, 6) ∧ ∃ b29, zR M18 b26 1 = some b29 ∧ zT M18 b29 = some (7, 8) ∧ ∀ M32, M32 = zwI M18 b29 5 ((zI M18 b29 5) + r12) → post r5 M32) ∧ (¬ (r5 = (2 : Int32)) → ((r5 = 0 → zT M18 a0 = some (8, 6) ∧ w_X_endOutstanding M18 a0 r12 (1 : Int32) (fun M24 => post r5 M24)) ∧ (¬ (r5 = 0) → zT M18 a0 = some (8, 6) ∧ w_X_endOutstanding M18 a0 r12 (0 : Int32) (fun M22 => post r5 M22))))))))))
def w_X_report (M : zM) (a0 : Nat) (post : Int32 → zM → Prop) : Prop := zT M a0 = some (8, 6) ∧ ∃ b2, zR M a0 1 = some b2 ∧ zT M b2 = some (1, 4) ∧ ∃ b5, zR M a0 1 = some b5 ∧ zT M b5 = some (1, 4) ∧ ((0 < (zI M b2 1) - (zI M b5 2) → ∃ b9, zR M a0 2 = some b9 ∧ zT M b9 = some (2, 4) ∧ w_F_append M b9 (2 : Int32) ((zI M b2 1) - (zI M b5 2)) (fun M12 => zT M12 a0 = some (8, 6) ∧ ∃ b14, zR M12 a0 1 = some b14 ∧ zT M12 b14 = some (1, 4) ∧ ∀ M17, M17 = zwI M12 b14 2 (zI M12 b14 1) → post (1 : Int32) M17)) ∧ (¬ (0 < (zI M b2 1) - (zI M b5 2)) → post (0 : Int32) M))
def w_X_goaway (M : zM) (a0 : Nat) (post : Int32 → zM → Prop) : Prop := zT M a0 = some (8, 6) ∧ ∃ b2, zR M a0 0 = some b2 ∧ zT M b2 = some (5, 6) ∧ w_S_announceLimit M b2 (fun M5 => zT M5 a0 = some (8, 6) ∧ ∃ b7, zR M5 a0 0 = some b7 ∧ zT M5 b7 = some (5, 6) ∧ post (zI M5 b7 5) M5)
def w_X_refuseFrom_4 (post : Int32 → zM → Prop) : Nat → zM → Nat → Int32 → Int32 → Int32 → Prop
  | 0, _, _, _, _, _ => False
  | n + 1, M, a0, x1, x2, x3 => zT M a0 = some (8, 6) ∧ ((zI M a0 4 ≤ x3 → post x2 M) ∧ (¬ (zI M a0 4 ≤ x3) → w_X_requestAt M a0 x3 (fun r3 M4 => ((r3 = none → w_X_refuseFrom_4 post n M4 a0 x1 x2 (x3 + (1 : Int32))) ∧ (∀ b5, r3 = some b5 → zT M4 b5 = some (3, 12) ∧ ((zI M4 b5 9 = 0 → w_Q_settle M4 b5 (7 : Int32) (0 : Int32) (fun M8 => zT M8 b5 = some (3, 12) ∧ ∀ M10, M10 = zwI M8 b5 8 (0 : Int32) → w_X_refuseFrom_4 post n M10 a0 x1 (x2 + (1 : Int32)) (x3 + (1 : Int32)))) ∧ (¬ (zI M4 b5 9 = 0) → w_X_refuseFrom_4 post n M4 a0 x1 x2 (x3 + (1 : Int32)))))))))
def w_X_refuseFrom (M : zM) (a0 : Nat) (x1 : Int32) (post : Int32 → zM → Prop) : Prop := ∃ n13, w_X_refuseFrom_4 post n13 M a0 x1 (0 : Int32) x1
def w_X_notice (M : zM) (a0 : Nat) (post : Int32 → zM → Prop) : Prop := zT M a0 = some (8, 6) ∧ ∃ b2, zR M a0 0 = some b2 ∧ zT M b2 = some (5, 6) ∧ ((zI M b2 4 = 0 → post (-1 : Int32) M) ∧ (¬ (zI M b2 4 = 0) → ∃ b6, zR M a0 1 = some b6 ∧ zT M b6 = some (1, 4) ∧ ((zI M b6 3 = 0 → ∃ b10, zR M a0 1 = some b10 ∧ zT M b10 = some (1, 4) ∧ ∀ M13, M13 = zwI M b10 3 (1 : Int32) → ∃ b16, zR M13 a0 0 = some b16 ∧ zT M13 b16 = some (5, 6) ∧ w_X_refuseFrom M13 a0 (zI M13 b16 5) (fun r19 M20 => post r19 M20)) ∧ (¬ (zI M b6 3 = 0) → post (-1 : Int32) M))))
def w_X_cancel_54 (post : Int32 → zM → Prop) (M : zM) (a0 : Nat) (x1 : Int32) (a2 : Nat) : Prop := zT M a0 = some (8, 6) ∧ zT M a2 = some (3, 12) ∧ ∃ b15, zR M a0 2 = some b15 ∧ zT M b15 = some (2, 4) ∧ w_F_append M b15 (1 : Int32) (zI M a2 0) (fun M18 => post (1 : Int32) M18)
def w_X_cancel (M : zM) (a0 : Nat) (x1 : Int32) (post : Int32 → zM → Prop) : Prop := zT M a0 = some (8, 6) ∧ w_X_requestAt M a0 x1 (fun r2 M3 => ((r2 = none → post (0 : Int32) M3) ∧ (∀ b4, r2 = some b4 → zT M3 b4 = some (3, 12) ∧ ((zI M3 b4 9 = 0 → w_Q_settle M3 b4 (6 : Int32) (0 : Int32) (fun M7 => zT M7 b4 = some (3, 12) ∧ ∀ M9, M9 = zwI M7 b4 8 (0 : Int32) → ((zR M9 b4 11 = none → w_X_cancel_54 post M9 a0 x1 b4) ∧ (∀ b12, zR M9 b4 11 = some b12 → ∃ b19, zR M9 b4 11 = some b19 ∧ zT M9 b19 = some (0, 10) ∧ ∀ M22, M22 = zwI M9 b19 7 (0 : Int32) → ∃ b25, zR M22 b4 11 = some b25 ∧ zT M22 b25 = some (0, 10) ∧ ∀ M28, M28 = zwI M22 b25 8 (0 : Int32) → w_X_cancel_54 post M28 a0 x1 b4)))) ∧ (¬ (zI M3 b4 9 = 0) → post (0 : Int32) M3)))))
def w_X_tick (M : zM) (a0 : Nat) (x1 : Int32) (post : Int32 → zM → Prop) : Prop := ((x1 < 0 → post (0 : Int32) M) ∧ (¬ (x1 < 0) → ((x1 ≤ (1000 : Int32) → zT M a0 = some (8, 6) ∧ ∀ M4, M4 = zwI M a0 5 ((zI M a0 5) + x1) → post (1 : Int32) M4) ∧ (¬ (x1 ≤ (1000 : Int32)) → post (0 : Int32) M))))
def w_X_outcome (M : zM) (a0 : Nat) (x1 : Int32) (post : Int32 → zM → Prop) : Prop := zT M a0 = some (8, 6) ∧ w_X_requestAt M a0 x1 (fun r2 M3 => ((r2 = none → post (-1 : Int32) M3) ∧ (∀ b4, r2 = some b4 → zT M3 b4 = some (3, 12) ∧ post (zI M3 b4 9) M3)))
def w_X_content (M : zM) (a0 : Nat) (x1 : Int32) (post : Int32 → zM → Prop) : Prop := zT M a0 = some (8, 6) ∧ w_X_requestAt M a0 x1 (fun r2 M3 => ((r2 = none → post (-1 : Int32) M3) ∧ (∀ b4, r2 = some b4 → zT M3 b4 = some (3, 12) ∧ post (zI M3 b4 10) M3)))
def w_X_stored (M : zM) (a0 : Nat) (x1 : Int32) (x2 : Int32) (post : Int32 → zM → Prop) : Prop := zT M a0 = some (8, 6) ∧ ∃ b2, zR M a0 1 = some b2 ∧ zT M b2 = some (1, 4) ∧ w_C_storedAt M b2 x1 (fun r5 M6 => ((r5 = none → post (-1 : Int32) M6) ∧ (∀ b7, r5 = some b7 → zT M6 b7 = some (6, 6) ∧ ((zI M6 b7 0 = 0 → post (-1 : Int32) M6) ∧ (¬ (zI M6 b7 0 = 0) → ((x2 = (0 : Int32) → post (zI M6 b7 1) M6) ∧ (¬ (x2 = (0 : Int32)) → ((x2 = (1 : Int32) → post (zI M6 b7 2) M6) ∧ (¬ (x2 = (1 : Int32)) → ((x2 = (2 : Int32) → post (zI M6 b7 5) M6) ∧ (¬ (x2 = (2 : Int32)) → ((x2 = (3 : Int32) → zT M6 a0 = some (8, 6) ∧ w_K_freshFor M6 b7 (zI M6 a0 5) (fun r15 M16 => post r15 M16)) ∧ (¬ (x2 = (3 : Int32)) → post (-1 : Int32) M6)))))))))))))
def w_X_entry (M : zM) (a0 : Nat) (x1 : Int32) (x2 : Int32) (post : Int32 → zM → Prop) : Prop := zT M a0 = some (8, 6) ∧ ∃ b2, zR M a0 0 = some b2 ∧ zT M b2 = some (5, 6) ∧ ∀ r5, r5 = zR M b2 1 → ((x1 < 0 → post (-1 : Int32) M) ∧ (¬ (x1 < 0) → ∃ b8, r5 = some b8 ∧ zT M b8 = some (7, 8) ∧ w_T_liveCount M b8 (fun r11 M12 => ((x1 < r11 → zT M12 b8 = some (7, 8) ∧ ((x2 = (0 : Int32) → w_T_nameOf M12 b8 (((zI M12 b8 4) - (1 : Int32)) - x1) (fun r16 M17 => post r16 M17)) ∧ (¬ (x2 = (0 : Int32)) → ((x2 = (1 : Int32) → w_T_valueOf M12 b8 (((zI M12 b8 4) - (1 : Int32)) - x1) (fun r19 M20 => post r19 M20)) ∧ (¬ (x2 = (1 : Int32)) → ((x2 = (2 : Int32) → w_T_referencesTo M12 b8 (((zI M12 b8 4) - (1 : Int32)) - x1) (fun r22 M23 => post r22 M23)) ∧ (¬ (x2 = (2 : Int32)) → post (-1 : Int32) M12))))))) ∧ (¬ (x1 < r11) → post (-1 : Int32) M12)))))
def w_X_blockedAnswers_4 (post : Int32 → zM → Prop) : Nat → zM → Nat → Int32 → Int32 → Prop
  | 0, _, _, _, _ => False
  | n + 1, M, a0, x1, x2 => zT M a0 = some (8, 6) ∧ ((zI M a0 4 ≤ x2 → post x1 M) ∧ (¬ (zI M a0 4 ≤ x2) → w_X_requestAt M a0 x2 (fun r3 M4 => ∃ b5, r3 = some b5 ∧ w_X_isBlocked M4 b5 (fun r7 M8 => ((r7 = 0 → w_X_blockedAnswers_4 post n M8 a0 x1 (x2 + (1 : Int32))) ∧ (¬ (r7 = 0) → w_X_blockedAnswers_4 post n M8 a0 (x1 + (1 : Int32)) (x2 + (1 : Int32))))))))
def w_X_blockedAnswers (M : zM) (a0 : Nat) (post : Int32 → zM → Prop) : Prop := ∃ n10, w_X_blockedAnswers_4 post n10 M a0 (0 : Int32) (0 : Int32)
def w_X_count (M : zM) (a0 : Nat) (x1 : Int32) (post : Int32 → zM → Prop) : Prop := zT M a0 = some (8, 6) ∧ ∃ b2, zR M a0 0 = some b2 ∧ zT M b2 = some (5, 6) ∧ ∀ r5, r5 = zR M b2 1 → ((x1 = (0 : Int32) → ∃ b8, r5 = some b8 ∧ zT M b8 = some (7, 8) ∧ post (zI M b8 4) M) ∧ (¬ (x1 = (0 : Int32)) → ((x1 = (1 : Int32) → ∃ b12, r5 = some b12 ∧ zT M b12 = some (7, 8) ∧ post (zI M b12 5) M) ∧ (¬ (x1 = (1 : Int32)) → ((x1 = (2 : Int32) → ∃ b16, zR M a0 1 = some b16 ∧ zT M b16 = some (1, 4) ∧ post (zI M b16 1) M) ∧ (¬ (x1 = (2 : Int32)) → ((x1 = (3 : Int32) → ∃ b20, zR M a0 1 = some b20 ∧ zT M b20 = some (1, 4) ∧ post (zI M b20 2) M) ∧ (¬ (x1 = (3 : Int32)) → ((x1 = (4 : Int32) → ∃ b24, r5 = some b24 ∧ zT M b24 = some (7, 8) ∧ post (zI M b24 6) M) ∧ (¬ (x1 = (4 : Int32)) → ((x1 = (5 : Int32) → ∃ b28, r5 = some b28 ∧ zT M b28 = some (7, 8) ∧ post (zI M b28 7) M) ∧ (¬ (x1 = (5 : Int32)) → ((x1 = (6 : Int32) → ∃ b32, r5 = some b32 ∧ zT M b32 = some (7, 8) ∧ w_T_outstandingNeeding M b32 (0 : Int32) (fun r35 M36 => post r35 M36)) ∧ (¬ (x1 = (6 : Int32)) → ((x1 = (7 : Int32) → ∃ b38, r5 = some b38 ∧ zT M b38 = some (7, 8) ∧ w_T_atRisk M b38 (fun r41 M42 => post r41 M42)) ∧ (¬ (x1 = (7 : Int32)) → ((x1 = (8 : Int32) → w_X_blockedAnswers M a0 (fun r44 M45 => post r44 M45)) ∧ (¬ (x1 = (8 : Int32)) → post (-1 : Int32) M))))))))))))))))))
def w_Y_init_249 (post : zM → Prop) : Nat → zM → Nat → Int32 → Prop
  | 0, _, _, _ => False
  | n + 1, M, a0, x1 => (((6 : Int32) ≤ x1 → post M) ∧ (¬ ((6 : Int32) ≤ x1) → zT M a0 = some (9, 40) ∧ ∃ b220, zR M a0 21 = some b220 ∧ ∃ n223, zT M b220 = some (20, n223) ∧ vp_in x1 n223 ∧ ∀ M225, M225 = zwI M b220 x1.toNatClampNeg (-1 : Int32) → w_Y_init_249 post n M225 a0 (x1 + (1 : Int32))))
def w_Y_init_227 (post : zM → Prop) : Nat → zM → Nat → Int32 → Prop
  | 0, _, _, _ => False
  | n + 1, M, a0, x1 => (((180 : Int32) ≤ x1 → ∃ n227, w_Y_init_249 post n227 M a0 (0 : Int32)) ∧ (¬ ((180 : Int32) ≤ x1) → zT M a0 = some (9, 40) ∧ ∃ b229, zR M a0 20 = some b229 ∧ ∃ n232, zT M b229 = some (20, n232) ∧ vp_in x1 n232 ∧ ∀ M234, M234 = zwI M b229 x1.toNatClampNeg (-1 : Int32) → w_Y_init_227 post n M234 a0 (x1 + (1 : Int32))))
def w_Y_init (M : zM) (a0 : Nat) (post : zM → Prop) : Prop := ∀ q1, zT M q1 = none → ∀ M3, M3 = znw M q1 (21, 6) → zT M3 a0 = some (9, 40) ∧ ∀ M7, M7 = zwR M3 a0 0 (some q1) → ∀ q9, zT M7 q9 = none → ∀ M11, M11 = znw M7 q9 (20, 6) → zT M11 a0 = some (9, 40) ∧ ∀ M15, M15 = zwR M11 a0 1 (some q9) → ∀ q17, zT M15 q17 = none → ∀ M19, M19 = znw M15 q17 (20, 6) → zT M19 a0 = some (9, 40) ∧ ∀ M23, M23 = zwR M19 a0 2 (some q17) → ∀ q25, zT M23 q25 = none → ∀ M27, M27 = znw M23 q25 (20, 6) → zT M27 a0 = some (9, 40) ∧ ∀ M31, M31 = zwR M27 a0 3 (some q25) → ∀ q33, zT M31 q33 = none → ∀ M35, M35 = znw M31 q33 (21, 60) → zT M35 a0 = some (9, 40) ∧ ∀ M39, M39 = zwR M35 a0 7 (some q33) → ∀ q41, zT M39 q41 = none → ∀ M43, M43 = znw M39 q41 (20, 60) → zT M43 a0 = some (9, 40) ∧ ∀ M47, M47 = zwR M43 a0 8 (some q41) → ∀ q49, zT M47 q49 = none → ∀ M51, M51 = znw M47 q49 (20, 60) → zT M51 a0 = some (9, 40) ∧ ∀ M55, M55 = zwR M51 a0 9 (some q49) → ∀ q57, zT M55 q57 = none → ∀ M59, M59 = znw M55 q57 (20, 60) → zT M59 a0 = some (9, 40) ∧ ∀ M63, M63 = zwR M59 a0 10 (some q57) → ∀ q65, zT M63 q65 = none → ∀ M67, M67 = znw M63 q65 (20, 60) → zT M67 a0 = some (9, 40) ∧ ∀ M71, M71 = zwR M67 a0 11 (some q65) → ∀ q73, zT M71 q73 = none → ∀ M75, M75 = znw M71 q73 (20, 60) → zT M75 a0 = some (9, 40) ∧ ∀ M79, M79 = zwR M75 a0 12 (some q73) → ∀ q81, zT M79 q81 = none → ∀ M83, M83 = znw M79 q81 (20, 60) → zT M83 a0 = some (9, 40) ∧ ∀ M87, M87 = zwR M83 a0 13 (some q81) → ∀ q89, zT M87 q89 = none → ∀ M91, M91 = znw M87 q89 (20, 60) → zT M91 a0 = some (9, 40) ∧ ∀ M95, M95 = zwR M91 a0 14 (some q89) → ∀ q97, zT M95 q97 = none → ∀ M99, M99 = znw M95 q97 (20, 60) → zT M99 a0 = some (9, 40) ∧ ∀ M103, M103 = zwR M99 a0 15 (some q97) → ∀ q105, zT M103 q105 = none → ∀ M107, M107 = znw M103 q105 (20, 60) → zT M107 a0 = some (9, 40) ∧ ∀ M111, M111 = zwR M107 a0 16 (some q105) → ∀ q113, zT M111 q113 = none → ∀ M115, M115 = znw M111 q113 (20, 60) → zT M115 a0 = some (9, 40) ∧ ∀ M119, M119 = zwR M115 a0 17 (some q113) → ∀ q121, zT M119 q121 = none → ∀ M123, M123 = znw M119 q121 (20, 60) → zT M123 a0 = some (9, 40) ∧ ∀ M127, M127 = zwR M123 a0 18 (some q121) → ∀ q129, zT M127 q129 = none → ∀ M131, M131 = znw M127 q129 (20, 60) → zT M131 a0 = some (9, 40) ∧ ∀ M135, M135 = zwR M131 a0 19 (some q129) → ∀ q137, zT M135 q137 = none → ∀ M139, M139 = znw M135 q137 (20, 180) → zT M139 a0 = some (9, 40) ∧ ∀ M143, M143 = zwR M139 a0 20 (some q137) → ∀ q145, zT M143 q145 = none → ∀ M147, M147 = znw M143 q145 (20, 6) → zT M147 a0 = some (9, 40) ∧ ∀ M151, M151 = zwR M147 a0 21 (some q145) → ∀ q153, zT M151 q153 = none → ∀ M155, M155 = znw M151 q153 (20, 6) → zT M155 a0 = some (9, 40) ∧ ∀ M159, M159 = zwR M155 a0 22 (some q153) → ∀ q161, zT M159 q161 = none → ∀ M163, M163 = znw M159 q161 (20, 6) → zT M163 a0 = some (9, 40) ∧ ∀ M167, M167 = zwR M163 a0 23 (some q161) → ∀ q169, zT M167 q169 = none → ∀ M171, M171 = znw M167 q169 (20, 6) → zT M171 a0 = some (9, 40) ∧ ∀ M175, M175 = zwR M171 a0 24 (some q169) → ∀ q177, zT M175 q177 = none → ∀ M179, M179 = znw M175 q177 (20, 6) → zT M179 a0 = some (9, 40) ∧ ∀ M183, M183 = zwR M179 a0 25 (some q177) → ∀ q185, zT M183 q185 = none → ∀ M187, M187 = znw M183 q185 (20, 180) → zT M187 a0 = some (9, 40) ∧ ∀ M191, M191 = zwR M187 a0 26 (some q185) → ∀ q193, zT M191 q193 = none → ∀ M195, M195 = znw M191 q193 (20, 180) → zT M195 a0 = some (9, 40) ∧ ∀ M199, M199 = zwR M195 a0 27 (some q193) → ∀ q201, zT M199 q201 = none → ∀ M203, M203 = znw M199 q201 (20, 572) → zT M203 a0 = some (9, 40) ∧ ∀ M207, M207 = zwR M203 a0 32 (some q201) → ∀ q209, zT M207 q209 = none → ∀ M211, M211 = znw M207 q209 (20, 572) → zT M211 a0 = some (9, 40) ∧ ∀ M215, M215 = zwR M211 a0 33 (some q209) → ∃ n236, w_Y_init_227 post n236 M215 a0 (0 : Int32)
def w_Y_within (M : zM) (x0 : Int32) (x1 : Int32) (post : Int32 → zM → Prop) : Prop := ((x0 < 0 → post (0 : Int32) M) ∧ (¬ (x0 < 0) → ((x1 < x0 → post (0 : Int32) M) ∧ (¬ (x1 < x0) → post (1 : Int32) M))))
def w_Y_need_6 (post : Int32 → zM → Prop) : Nat → zM → Nat → Int32 → Int32 → Int32 → Prop
  | 0, _, _, _, _, _ => False
  | n + 1, M, a0, x1, x2, x3 => ((((3 : Int32) * x1) + (3 : Int32) ≤ x3 → post x2 M) ∧ (¬ (((3 : Int32) * x1) + (3 : Int32) ≤ x3) → zT M a0 = some (9, 40) ∧ ∃ b3, zR M a0 20 = some b3 ∧ ∃ n6, zT M b3 = some (20, n6) ∧ vp_in x3 n6 ∧ (((zI M b3 x3.toNatClampNeg) + (1 : Int32) ≤ x2 → w_Y_need_6 post n M a0 x1 x2 (x3 + (1 : Int32))) ∧ (¬ ((zI M b3 x3.toNatClampNeg) + (1 : Int32) ≤ x2) → ∃ b9, zR M a0 20 = some b9 ∧ ∃ n12, zT M b9 = some (20, n12) ∧ vp_in x3 n12 ∧ w_Y_need_6 post n M a0 x1 ((zI M b9 x3.toNatClampNeg) + (1 : Int32)) (x3 + (1 : Int32))))))
def w_Y_need (M : zM) (a0 : Nat) (x1 : Int32) (post : Int32 → zM → Prop) : Prop := ∃ n14, w_Y_need_6 post n14 M a0 x1 (0 : Int32) ((3 : Int32) * x1)
def w_Y_after_4 (post : Int32 → zM → Prop) : Nat → zM → Nat → Int32 → Int32 → Int32 → Prop
  | 0, _, _, _, _, _ => False
  | n + 1, M, a0, x1, x2, x3 => ((x1 ≤ x3 → post x2 M) ∧ (¬ (x1 ≤ x3) → zT M a0 = some (9, 40) ∧ ∃ b3, zR M a0 32 = some b3 ∧ ∃ n6, zT M b3 = some (20, n6) ∧ vp_in x3 n6 ∧ ((zI M b3 x3.toNatClampNeg = (2 : Int32) → ∃ b23, zR M a0 33 = some b23 ∧ ∃ n26, zT M b23 = some (20, n26) ∧ vp_in x3 n26 ∧ w_Y_after_4 post n M a0 x1 (x2 + (zI M b23 x3.toNatClampNeg)) (x3 + (1 : Int32))) ∧ (¬ (zI M b3 x3.toNatClampNeg = (2 : Int32)) → ∃ b9, zR M a0 32 = some b9 ∧ ∃ n12, zT M b9 = some (20, n12) ∧ vp_in x3 n12 ∧ ((zI M b9 x3.toNatClampNeg = 0 → ∃ b15, zR M a0 33 = some b15 ∧ ∃ n18, zT M b15 = some (20, n18) ∧ vp_in x3 n18 ∧ w_Y_need M a0 (zI M b15 x3.toNatClampNeg) (fun r20 M21 => ((r20 ≤ x2 → w_Y_after_4 post n M21 a0 x1 x2 (x3 + (1 : Int32))) ∧ (¬ (r20 ≤ x2) → w_Y_after_4 post n M21 a0 x1 r20 (x3 + (1 : Int32)))))) ∧ (¬ (zI M b9 x3.toNatClampNeg = 0) → w_Y_after_4 post n M a0 x1 x2 (x3 + (1 : Int32))))))))
def w_Y_after (M : zM) (a0 : Nat) (x1 : Int32) (post : Int32 → zM → Prop) : Prop := ∃ n28, w_Y_after_4 post n28 M a0 x1 (0 : Int32) (0 : Int32)
def w_Y_outstanding_25 (post : Int32 → zM → Prop) : Nat → zM → Nat → Int32 → Int32 → Int32 → Prop
  | 0, _, _, _, _, _ => False
  | n + 1, M, a0, x1, x2, x3 => zT M a0 = some (9, 40) ∧ ((zI M a0 35 ≤ x3 → (x2 = 0 ∨ x2 = 1) ∧ post x2 M) ∧ (¬ (zI M a0 35 ≤ x3) → ((x2 = 0 → (x2 = 0 ∨ x2 = 1) ∧ post x2 M) ∧ (¬ (x2 = 0) → ∃ b13, zR M a0 32 = some b13 ∧ ∃ n16, zT M b13 = some (20, n16) ∧ vp_in x3 n16 ∧ ((zI M b13 x3.toNatClampNeg = (2 : Int32) → w_Y_outstanding_25 post n M a0 x1 (1 : Int32) (x3 + (1 : Int32))) ∧ (¬ (zI M b13 x3.toNatClampNeg = (2 : Int32)) → ∃ b19, zR M a0 33 = some b19 ∧ ∃ n22, zT M b19 = some (20, n22) ∧ vp_in x3 n22 ∧ ((zI M b19 x3.toNatClampNeg = x1 → w_Y_outstanding_25 post n M a0 x1 (0 : Int32) (x3 + (1 : Int32))) ∧ (¬ (zI M b19 x3.toNatClampNeg = x1) → w_Y_outstanding_25 post n M a0 x1 (1 : Int32) (x3 + (1 : Int32))))))))))
def w_Y_outstanding (M : zM) (a0 : Nat) (x1 : Int32) (post : Int32 → zM → Prop) : Prop := zT M a0 = some (9, 40) ∧ ∃ b2, zR M a0 16 = some b2 ∧ ∃ n5, zT M b2 = some (20, n5) ∧ vp_in x1 n5 ∧ ((zI M b2 x1.toNatClampNeg ≤ 0 → ∃ n25, w_Y_outstanding_25 post n25 M a0 x1 (0 : Int32) (0 : Int32)) ∧ (¬ (zI M b2 x1.toNatClampNeg ≤ 0) → w_Y_need M a0 x1 (fun r26 M27 => ((r26 ≤ 0 → ∃ n29, w_Y_outstanding_25 post n29 M27 a0 x1 (0 : Int32) (0 : Int32)) ∧ (¬ (r26 ≤ 0) → ∃ n30, w_Y_outstanding_25 post n30 M27 a0 x1 (1 : Int32) (0 : Int32))))))
def w_Y_risky_5 (post : Int32 → zM → Prop) : Nat → zM → Nat → Int32 → Int32 → Int32 → Int32 → Prop
  | 0, _, _, _, _, _, _ => False
  | n + 1, M, a0, x1, x2, x3, x4 => zT M a0 = some (9, 40) ∧ ((zI M a0 6 ≤ x4 → post x3 M) ∧ (¬ (zI M a0 6 ≤ x4) → ((x4 = x2 → w_Y_risky_5 post n M a0 x1 x2 x3 (x4 + (1 : Int32))) ∧ (¬ (x4 = x2) → w_Y_need M a0 x4 (fun r4 M5 => ((r4 ≤ x1 → w_Y_risky_5 post n M5 a0 x1 x2 x3 (x4 + (1 : Int32))) ∧ (¬ (r4 ≤ x1) → zT M5 a0 = some (9, 40) ∧ w_Y_outstanding M5 a0 x4 (fun r8 M9 => ((r8 = 0 → w_Y_risky_5 post n M9 a0 x1 x2 x3 (x4 + (1 : Int32))) ∧ (¬ (r8 = 0) → w_Y_risky_5 post n M9 a0 x1 x2 (x3 + (1 : Int32)) (x4 + (1 : Int32))))))))))))
def w_Y_risky (M : zM) (a0 : Nat) (x1 : Int32) (x2 : Int32) (post : Int32 → zM → Prop) : Prop := ∃ n11, w_Y_risky_5 post n11 M a0 x1 x2 (0 : Int32) (0 : Int32)
def w_Y_uses_42 (post : Int32 → zM → Prop) (K : zM → Nat → Int32 → Int32 → Int32 → Int32 → Int32 → Int32 → Prop) : Nat → zM → Nat → Int32 → Int32 → Int32 → Int32 → Int32 → Int32 → Prop
  | 0, _, _, _, _, _, _, _, _ => False
  | n + 1, M, a0, x1, x2, x3, x4, x5, x6 => ((((3 : Int32) * x4) + (3 : Int32) ≤ x6 → K M a0 x1 x2 x3 x4 x5 x6) ∧ (¬ (((3 : Int32) * x4) + (3 : Int32) ≤ x6) → ((x5 = 0 → K M a0 x1 x2 x3 x4 x5 x6) ∧ (¬ (x5 = 0) → zT M a0 = some (9, 40) ∧ ∃ b7, zR M a0 20 = some b7 ∧ ∃ n10, zT M b7 = some (20, n10) ∧ vp_in x6 n10 ∧ ((zI M b7 x6.toNatClampNeg = x1 → w_Y_uses_42 post K n M a0 x1 x2 (x3 + (1 : Int32)) x4 x5 (x6 + (1 : Int32))) ∧ (¬ (zI M b7 x6.toNatClampNeg = x1) → w_Y_uses_42 post K n M a0 x1 x2 x3 x4 x5 (x6 + (1 : Int32))))))))
def w_Y_uses_5 (post : Int32 → zM → Prop) : Nat → zM → Nat → Int32 → Int32 → Int32 → Int32 → Prop
  | 0, _, _, _, _, _, _ => False
  | n + 1, M, a0, x1, x2, x3, x4 => zT M a0 = some (9, 40) ∧ ((zI M a0 6 ≤ x4 → post x3 M) ∧ (¬ (zI M a0 6 ≤ x4) → ((x4 = x2 → ∃ n13, w_Y_uses_42 post (fun M14 y15 y16 y17 y18 y19 y20 y21 => w_Y_uses_5 post n M14 y15 y16 y17 y18 (y19 + (1 : Int32))) n13 M a0 x1 x2 x3 x4 (1 : Int32) ((3 : Int32) * x4)) ∧ (¬ (x4 = x2) → w_Y_outstanding M a0 x4 (fun r22 M23 => ((r22 = 0 → ∃ n25, w_Y_uses_42 post (fun M26 y27 y28 y29 y30 y31 y32 y33 => w_Y_uses_5 post n M26 y27 y28 y29 y30 (y31 + (1 : Int32))) n25 M23 a0 x1 x2 x3 x4 (0 : Int32) ((3 : Int32) * x4)) ∧ (¬ (r22 = 0) → ∃ n34, w_Y_uses_42 post (fun M35 y36 y37 y38 y39 y40 y41 y42 => w_Y_uses_5 post n M35 y36 y37 y38 y39 (y40 + (1 : Int32))) n34 M23 a0 x1 x2 x3 x4 (1 : Int32) ((3 : Int32) * x4))))))))
def w_Y_uses (M : zM) (a0 : Nat) (x1 : Int32) (x2 : Int32) (post : Int32 → zM → Prop) : Prop := ∃ n43, w_Y_uses_5 post n43 M a0 x1 x2 (0 : Int32) (0 : Int32)
def w_Y_oldest (M : zM) (a0 : Nat) (post : Int32 → zM → Prop) : Prop := zT M a0 = some (9, 40) ∧ ((zI M a0 28 ≤ (5 : Int32) → post (0 : Int32) M) ∧ (¬ (zI M a0 28 ≤ (5 : Int32)) → post ((zI M a0 28) - (5 : Int32)) M))
def w_Y_tell (M : zM) (a0 : Nat) (x1 : Int32) (x2 : Int32) (post : zM → Prop) : Prop := zT M a0 = some (9, 40) ∧ ∃ b2, zR M a0 32 = some b2 ∧ ∃ n5, zT M b2 = some (20, n5) ∧ vp_in (zI M a0 34) n5 ∧ ∀ M7, M7 = zwI M b2 (zI M a0 34).toNatClampNeg x1 → ∃ b10, zR M7 a0 33 = some b10 ∧ ∃ n13, zT M7 b10 = some (20, n13) ∧ vp_in (zI M7 a0 34) n13 ∧ ∀ M15, M15 = zwI M7 b10 (zI M7 a0 34).toNatClampNeg x2 → ∀ M18, M18 = zwI M15 a0 34 ((zI M15 a0 34) + (1 : Int32)) → post M18
def w_Y_write (M : zM) (a0 : Nat) (x1 : Int32) (x2 : Int32) (x3 : Int32) (post : Int32 → zM → Prop) : Prop := zT M a0 = some (9, 40) ∧ ∀ M2, M2 = zwI M a0 4 ((zI M a0 4) + (1 : Int32)) → ∃ b5, zR M2 a0 0 = some b5 ∧ ∃ n8, zT M2 b5 = some (21, n8) ∧ vp_in x1 n8 ∧ ∀ M10, M10 = zwI M2 b5 x1.toNatClampNeg (vp_nar .boolean (1 : Int32)) → ∃ b13, zR M10 a0 1 = some b13 ∧ ∃ n16, zT M10 b13 = some (20, n16) ∧ vp_in x1 n16 ∧ ∀ M18, M18 = zwI M10 b13 x1.toNatClampNeg x2 → ∃ b21, zR M18 a0 2 = some b21 ∧ ∃ n24, zT M18 b21 = some (20, n24) ∧ vp_in x1 n24 ∧ ∀ M26, M26 = zwI M18 b21 x1.toNatClampNeg x3 → ∃ b29, zR M26 a0 3 = some b29 ∧ ∃ n32, zT M26 b29 = some (20, n32) ∧ vp_in x1 n32 ∧ ∀ M34, M34 = zwI M26 b29 x1.toNatClampNeg (zI M26 a0 4) → post (zI M34 a0 4) M34
def w_Y_put (M : zM) (a0 : Nat) (x1 : Int32) (x2 : Int32) (x3 : Int32) (post : Int32 → zM → Prop) : Prop := w_Y_within M x1 (5 : Int32) (fun r1 M2 => ((r1 = 0 → post (-1 : Int32) M2) ∧ (¬ (r1 = 0) → w_Y_within M2 x3 (1000 : Int32) (fun r4 M5 => ((r4 = 0 → post (-1 : Int32) M5) ∧ (¬ (r4 = 0) → zT M5 a0 = some (9, 40) ∧ w_Y_write M5 a0 x1 x2 x3 (fun r8 M9 => post r8 M9)))))))
def w_Y_drop (M : zM) (a0 : Nat) (x1 : Int32) (post : Int32 → zM → Prop) : Prop := w_Y_within M x1 (5 : Int32) (fun r1 M2 => ((r1 = 0 → post (0 : Int32) M2) ∧ (¬ (r1 = 0) → zT M2 a0 = some (9, 40) ∧ ∃ b5, zR M2 a0 0 = some b5 ∧ ∃ n8, zT M2 b5 = some (21, n8) ∧ vp_in x1 n8 ∧ ((zI M2 b5 x1.toNatClampNeg = 0 → post (0 : Int32) M2) ∧ (¬ (zI M2 b5 x1.toNatClampNeg = 0) → ∃ b11, zR M2 a0 0 = some b11 ∧ ∃ n14, zT M2 b11 = some (21, n14) ∧ vp_in x1 n14 ∧ ∀ M16, M16 = zwI M2 b11 x1.toNatClampNeg (vp_nar .boolean (0 : Int32)) → post (1 : Int32) M16)))))
def w_Y_field_245 (post : zM → Prop) (M : zM) (a0 : Nat) (x1 : Int32) (x2 : Int32) (x3 : Int32) (x4 : Int32) (x5 : Int32) (x6 : Int32) (x7 : Int32) (x8 : Int32) : Prop := zT M a0 = some (9, 40) ∧ ∀ M20, M20 = zwI M a0 30 ((zI M a0 30) + (1 : Int32)) → post M20
def w_Y_field_148 (post : zM → Prop) (M : zM) (a0 : Nat) (x1 : Int32) (x2 : Int32) (x3 : Int32) (x4 : Int32) (x5 : Int32) (x6 : Int32) (x7 : Int32) (x8 : Int32) : Prop := zT M a0 = some (9, 40) ∧ ∃ b55, zR M a0 20 = some b55 ∧ ∃ n58, zT M b55 = some (20, n58) ∧ vp_in (((3 : Int32) * x1) + x2) n58 ∧ ∀ M60, M60 = zwI M b55 (((3 : Int32) * x1) + x2).toNatClampNeg x6 → ∀ M63, M63 = zwI M60 a0 31 ((zI M60 a0 31) + (1 : Int32)) → post M63
def w_Y_field_47 (post : zM → Prop) : Nat → zM → Nat → Int32 → Int32 → Int32 → Int32 → Int32 → Int32 → Int32 → Prop
  | 0, _, _, _, _, _, _, _, _, _ => False
  | n + 1, M, a0, x1, x2, x3, x4, x5, x6, x7 => zT M a0 = some (9, 40) ∧ ((zI M a0 28 ≤ x7 → w_Y_oldest M a0 (fun r13 M14 => zT M14 a0 = some (9, 40) ∧ ((zI M14 a0 28 < (5 : Int32) → ((x6 < 0 → ((0 ≤ x6 → w_Y_field_245 post M14 a0 x1 x2 x3 x4 x5 x6 r13 (1 : Int32)) ∧ (¬ (0 ≤ x6) → ((x5 = 0 → w_Y_field_245 post M14 a0 x1 x2 x3 x4 x5 x6 r13 (1 : Int32)) ∧ (¬ (x5 = 0) → (((1 : Int32) = 0 → w_Y_field_245 post M14 a0 x1 x2 x3 x4 x5 x6 r13 (1 : Int32)) ∧ (¬ ((1 : Int32) = 0) → ∃ b24, zR M14 a0 26 = some b24 ∧ ∃ n27, zT M14 b24 = some (20, n27) ∧ vp_in (zI M14 a0 28) n27 ∧ ∀ M29, M29 = zwI M14 b24 (zI M14 a0 28).toNatClampNeg x2 → ∃ b32, zR M29 a0 27 = some b32 ∧ ∃ n35, zT M29 b32 = some (20, n35) ∧ vp_in (zI M29 a0 28) n35 ∧ ∀ M37, M37 = zwI M29 b32 (zI M29 a0 28).toNatClampNeg x3 → ∃ b40, zR M37 a0 20 = some b40 ∧ ∃ n43, zT M37 b40 = some (20, n43) ∧ vp_in (((3 : Int32) * x1) + x2) n43 ∧ ∀ M45, M45 = zwI M37 b40 (((3 : Int32) * x1) + x2).toNatClampNeg (zI M37 a0 28) → ∀ M48, M48 = zwI M45 a0 28 ((zI M45 a0 28) + (1 : Int32)) → ∀ M51, M51 = zwI M48 a0 31 ((zI M48 a0 31) + (1 : Int32)) → post M51))))))) ∧ (¬ (x6 < 0) → ((x6 < x4 → w_Y_field_148 post M14 a0 x1 x2 x3 x4 x5 x6 r13 (1 : Int32)) ∧ (¬ (x6 < x4) → ((x5 = 0 → ((0 ≤ x6 → w_Y_field_245 post M14 a0 x1 x2 x3 x4 x5 x6 r13 (1 : Int32)) ∧ (¬ (0 ≤ x6) → ((x5 = 0 → w_Y_field_245 post M14 a0 x1 x2 x3 x4 x5 x6 r13 (1 : Int32)) ∧ (¬ (x5 = 0) → (((1 : Int32) = 0 → w_Y_field_245 post M14 a0 x1 x2 x3 x4 x5 x6 r13 (1 : Int32)) ∧ (¬ ((1 : Int32) = 0) → ∃ b69, zR M14 a0 26 = some b69 ∧ ∃ n72, zT M14 b69 = some (20, n72) ∧ vp_in (zI M14 a0 28) n72 ∧ ∀ M74, M74 = zwI M14 b69 (zI M14 a0 28).toNatClampNeg x2 → ∃ b77, zR M74 a0 27 = some b77 ∧ ∃ n80, zT M74 b77 = some (20, n80) ∧ vp_in (zI M74 a0 28) n80 ∧ ∀ M82, M82 = zwI M74 b77 (zI M74 a0 28).toNatClampNeg x3 → ∃ b85, zR M82 a0 20 = some b85 ∧ ∃ n88, zT M82 b85 = some (20, n88) ∧ vp_in (((3 : Int32) * x1) + x2) n88 ∧ ∀ M90, M90 = zwI M82 b85 (((3 : Int32) * x1) + x2).toNatClampNeg (zI M82 a0 28) → ∀ M93, M93 = zwI M90 a0 28 ((zI M90 a0 28) + (1 : Int32)) → ∀ M96, M96 = zwI M93 a0 31 ((zI M93 a0 31) + (1 : Int32)) → post M96))))))) ∧ (¬ (x5 = 0) → w_Y_field_148 post M14 a0 x1 x2 x3 x4 x5 x6 r13 (1 : Int32)))))))) ∧ (¬ (zI M14 a0 28 < (5 : Int32)) → ((x4 ≤ r13 → ((x6 < 0 → ((0 ≤ x6 → w_Y_field_245 post M14 a0 x1 x2 x3 x4 x5 x6 r13 (0 : Int32)) ∧ (¬ (0 ≤ x6) → ((x5 = 0 → w_Y_field_245 post M14 a0 x1 x2 x3 x4 x5 x6 r13 (0 : Int32)) ∧ (¬ (x5 = 0) → (((0 : Int32) = 0 → w_Y_field_245 post M14 a0 x1 x2 x3 x4 x5 x6 r13 (0 : Int32)) ∧ (¬ ((0 : Int32) = 0) → ∃ b103, zR M14 a0 26 = some b103 ∧ ∃ n106, zT M14 b103 = some (20, n106) ∧ vp_in (zI M14 a0 28) n106 ∧ ∀ M108, M108 = zwI M14 b103 (zI M14 a0 28).toNatClampNeg x2 → ∃ b111, zR M108 a0 27 = some b111 ∧ ∃ n114, zT M108 b111 = some (20, n114) ∧ vp_in (zI M108 a0 28) n114 ∧ ∀ M116, M116 = zwI M108 b111 (zI M108 a0 28).toNatClampNeg x3 → ∃ b119, zR M116 a0 20 = some b119 ∧ ∃ n122, zT M116 b119 = some (20, n122) ∧ vp_in (((3 : Int32) * x1) + x2) n122 ∧ ∀ M124, M124 = zwI M116 b119 (((3 : Int32) * x1) + x2).toNatClampNeg (zI M116 a0 28) → ∀ M127, M127 = zwI M124 a0 28 ((zI M124 a0 28) + (1 : Int32)) → ∀ M130, M130 = zwI M127 a0 31 ((zI M127 a0 31) + (1 : Int32)) → post M130))))))) ∧ (¬ (x6 < 0) → ((x6 < x4 → w_Y_field_148 post M14 a0 x1 x2 x3 x4 x5 x6 r13 (0 : Int32)) ∧ (¬ (x6 < x4) → ((x5 = 0 → ((0 ≤ x6 → w_Y_field_245 post M14 a0 x1 x2 x3 x4 x5 x6 r13 (0 : Int32)) ∧ (¬ (0 ≤ x6) → ((x5 = 0 → w_Y_field_245 post M14 a0 x1 x2 x3 x4 x5 x6 r13 (0 : Int32)) ∧ (¬ (x5 = 0) → (((0 : Int32) = 0 → w_Y_field_245 post M14 a0 x1 x2 x3 x4 x5 x6 r13 (0 : Int32)) ∧ (¬ ((0 : Int32) = 0) → ∃ b137, zR M14 a0 26 = some b137 ∧ ∃ n140, zT M14 b137 = some (20, n140) ∧ vp_in (zI M14 a0 28) n140 ∧ ∀ M142, M142 = zwI M14 b137 (zI M14 a0 28).toNatClampNeg x2 → ∃ b145, zR M142 a0 27 = some b145 ∧ ∃ n148, zT M142 b145 = some (20, n148) ∧ vp_in (zI M142 a0 28) n148 ∧ ∀ M150, M150 = zwI M142 b145 (zI M142 a0 28).toNatClampNeg x3 → ∃ b153, zR M150 a0 20 = some b153 ∧ ∃ n156, zT M150 b153 = some (20, n156) ∧ vp_in (((3 : Int32) * x1) + x2) n156 ∧ ∀ M158, M158 = zwI M150 b153 (((3 : Int32) * x1) + x2).toNatClampNeg (zI M150 a0 28) → ∀ M161, M161 = zwI M158 a0 28 ((zI M158 a0 28) + (1 : Int32)) → ∀ M164, M164 = zwI M161 a0 31 ((zI M161 a0 31) + (1 : Int32)) → post M164))))))) ∧ (¬ (x5 = 0) → w_Y_field_148 post M14 a0 x1 x2 x3 x4 x5 x6 r13 (0 : Int32)))))))) ∧ (¬ (x4 ≤ r13) → w_Y_uses M14 a0 r13 x1 (fun r166 M167 => ((r166 = 0 → ((x6 < 0 → ((0 ≤ x6 → w_Y_field_245 post M167 a0 x1 x2 x3 x4 x5 x6 r13 (1 : Int32)) ∧ (¬ (0 ≤ x6) → ((x5 = 0 → w_Y_field_245 post M167 a0 x1 x2 x3 x4 x5 x6 r13 (1 : Int32)) ∧ (¬ (x5 = 0) → (((1 : Int32) = 0 → w_Y_field_245 post M167 a0 x1 x2 x3 x4 x5 x6 r13 (1 : Int32)) ∧ (¬ ((1 : Int32) = 0) → zT M167 a0 = some (9, 40) ∧ ∃ b243, zR M167 a0 26 = some b243 ∧ ∃ n246, zT M167 b243 = some (20, n246) ∧ vp_in (zI M167 a0 28) n246 ∧ ∀ M248, M248 = zwI M167 b243 (zI M167 a0 28).toNatClampNeg x2 → ∃ b251, zR M248 a0 27 = some b251 ∧ ∃ n254, zT M248 b251 = some (20, n254) ∧ vp_in (zI M248 a0 28) n254 ∧ ∀ M256, M256 = zwI M248 b251 (zI M248 a0 28).toNatClampNeg x3 → ∃ b259, zR M256 a0 20 = some b259 ∧ ∃ n262, zT M256 b259 = some (20, n262) ∧ vp_in (((3 : Int32) * x1) + x2) n262 ∧ ∀ M264, M264 = zwI M256 b259 (((3 : Int32) * x1) + x2).toNatClampNeg (zI M256 a0 28) → ∀ M267, M267 = zwI M264 a0 28 ((zI M264 a0 28) + (1 : Int32)) → ∀ M270, M270 = zwI M267 a0 31 ((zI M267 a0 31) + (1 : Int32)) → post M270))))))) ∧ (¬ (x6 < 0) → ((x6 < x4 → w_Y_field_148 post M167 a0 x1 x2 x3 x4 x5 x6 r13 (1 : Int32)) ∧ (¬ (x6 < x4) → ((x5 = 0 → ((0 ≤ x6 → w_Y_field_245 post M167 a0 x1 x2 x3 x4 x5 x6 r13 (1 : Int32)) ∧ (¬ (0 ≤ x6) → ((x5 = 0 → w_Y_field_245 post M167 a0 x1 x2 x3 x4 x5 x6 r13 (1 : Int32)) ∧ (¬ (x5 = 0) → (((1 : Int32) = 0 → w_Y_field_245 post M167 a0 x1 x2 x3 x4 x5 x6 r13 (1 : Int32)) ∧ (¬ ((1 : Int32) = 0) → zT M167 a0 = some (9, 40) ∧ ∃ b278, zR M167 a0 26 = some b278 ∧ ∃ n281, zT M167 b278 = some (20, n281) ∧ vp_in (zI M167 a0 28) n281 ∧ ∀ M283, M283 = zwI M167 b278 (zI M167 a0 28).toNatClampNeg x2 → ∃ b286, zR M283 a0 27 = some b286 ∧ ∃ n289, zT M283 b286 = some (20, n289) ∧ vp_in (zI M283 a0 28) n289 ∧ ∀ M291, M291 = zwI M283 b286 (zI M283 a0 28).toNatClampNeg x3 → ∃ b294, zR M291 a0 20 = some b294 ∧ ∃ n297, zT M291 b294 = some (20, n297) ∧ vp_in (((3 : Int32) * x1) + x2) n297 ∧ ∀ M299, M299 = zwI M291 b294 (((3 : Int32) * x1) + x2).toNatClampNeg (zI M291 a0 28) → ∀ M302, M302 = zwI M299 a0 28 ((zI M299 a0 28) + (1 : Int32)) → ∀ M305, M305 = zwI M302 a0 31 ((zI M302 a0 31) + (1 : Int32)) → post M305))))))) ∧ (¬ (x5 = 0) → w_Y_field_148 post M167 a0 x1 x2 x3 x4 x5 x6 r13 (1 : Int32)))))))) ∧ (¬ (r166 = 0) → ((x6 < 0 → ((0 ≤ x6 → w_Y_field_245 post M167 a0 x1 x2 x3 x4 x5 x6 r13 (0 : Int32)) ∧ (¬ (0 ≤ x6) → ((x5 = 0 → w_Y_field_245 post M167 a0 x1 x2 x3 x4 x5 x6 r13 (0 : Int32)) ∧ (¬ (x5 = 0) → (((0 : Int32) = 0 → w_Y_field_245 post M167 a0 x1 x2 x3 x4 x5 x6 r13 (0 : Int32)) ∧ (¬ ((0 : Int32) = 0) → zT M167 a0 = some (9, 40) ∧ ∃ b174, zR M167 a0 26 = some b174 ∧ ∃ n177, zT M167 b174 = some (20, n177) ∧ vp_in (zI M167 a0 28) n177 ∧ ∀ M179, M179 = zwI M167 b174 (zI M167 a0 28).toNatClampNeg x2 → ∃ b182, zR M179 a0 27 = some b182 ∧ ∃ n185, zT M179 b182 = some (20, n185) ∧ vp_in (zI M179 a0 28) n185 ∧ ∀ M187, M187 = zwI M179 b182 (zI M179 a0 28).toNatClampNeg x3 → ∃ b190, zR M187 a0 20 = some b190 ∧ ∃ n193, zT M187 b190 = some (20, n193) ∧ vp_in (((3 : Int32) * x1) + x2) n193 ∧ ∀ M195, M195 = zwI M187 b190 (((3 : Int32) * x1) + x2).toNatClampNeg (zI M187 a0 28) → ∀ M198, M198 = zwI M195 a0 28 ((zI M195 a0 28) + (1 : Int32)) → ∀ M201, M201 = zwI M198 a0 31 ((zI M198 a0 31) + (1 : Int32)) → post M201))))))) ∧ (¬ (x6 < 0) → ((x6 < x4 → w_Y_field_148 post M167 a0 x1 x2 x3 x4 x5 x6 r13 (0 : Int32)) ∧ (¬ (x6 < x4) → ((x5 = 0 → ((0 ≤ x6 → w_Y_field_245 post M167 a0 x1 x2 x3 x4 x5 x6 r13 (0 : Int32)) ∧ (¬ (0 ≤ x6) → ((x5 = 0 → w_Y_field_245 post M167 a0 x1 x2 x3 x4 x5 x6 r13 (0 : Int32)) ∧ (¬ (x5 = 0) → (((0 : Int32) = 0 → w_Y_field_245 post M167 a0 x1 x2 x3 x4 x5 x6 r13 (0 : Int32)) ∧ (¬ ((0 : Int32) = 0) → zT M167 a0 = some (9, 40) ∧ ∃ b209, zR M167 a0 26 = some b209 ∧ ∃ n212, zT M167 b209 = some (20, n212) ∧ vp_in (zI M167 a0 28) n212 ∧ ∀ M214, M214 = zwI M167 b209 (zI M167 a0 28).toNatClampNeg x2 → ∃ b217, zR M214 a0 27 = some b217 ∧ ∃ n220, zT M214 b217 = some (20, n220) ∧ vp_in (zI M214 a0 28) n220 ∧ ∀ M222, M222 = zwI M214 b217 (zI M214 a0 28).toNatClampNeg x3 → ∃ b225, zR M222 a0 20 = some b225 ∧ ∃ n228, zT M222 b225 = some (20, n228) ∧ vp_in (((3 : Int32) * x1) + x2) n228 ∧ ∀ M230, M230 = zwI M222 b225 (((3 : Int32) * x1) + x2).toNatClampNeg (zI M222 a0 28) → ∀ M233, M233 = zwI M230 a0 28 ((zI M230 a0 28) + (1 : Int32)) → ∀ M236, M236 = zwI M233 a0 31 ((zI M233 a0 31) + (1 : Int32)) → post M236))))))) ∧ (¬ (x5 = 0) → w_Y_field_148 post M167 a0 x1 x2 x3 x4 x5 x6 r13 (0 : Int32)))))))))))))))) ∧ (¬ (zI M a0 28 ≤ x7) → ∃ b307, zR M a0 26 = some b307 ∧ ∃ n310, zT M b307 = some (20, n310) ∧ vp_in x7 n310 ∧ ((zI M b307 x7.toNatClampNeg = x2 → ∃ b313, zR M a0 27 = some b313 ∧ ∃ n316, zT M b313 = some (20, n316) ∧ vp_in x7 n316 ∧ ((zI M b313 x7.toNatClampNeg = x3 → w_Y_field_47 post n M a0 x1 x2 x3 x4 x5 x7 (x7 + (1 : Int32))) ∧ (¬ (zI M b313 x7.toNatClampNeg = x3) → w_Y_field_47 post n M a0 x1 x2 x3 x4 x5 x6 (x7 + (1 : Int32))))) ∧ (¬ (zI M b307 x7.toNatClampNeg = x2) → w_Y_field_47 post n M a0 x1 x2 x3 x4 x5 x6 (x7 + (1 : Int32))))))
def w_Y_field_36 (post : zM → Prop) (M : zM) (a0 : Nat) (x1 : Int32) (x2 : Int32) (x3 : Int32) (x4 : Int32) (u0 : Int32) : Prop := zT M a0 = some (9, 40) ∧ w_Y_oldest M a0 (fun r9 M10 => ∃ n319, w_Y_field_47 post n319 M10 a0 x1 x2 x3 x4 u0 (-1 : Int32) r9)
def w_Y_field (M : zM) (a0 : Nat) (x1 : Int32) (x2 : Int32) (x3 : Int32) (post : zM → Prop) : Prop := zT M a0 = some (9, 40) ∧ w_Y_after M a0 (zI M a0 35) (fun r2 M3 => zT M3 a0 = some (9, 40) ∧ w_Y_need M3 a0 x1 (fun r5 M6 => ((r2 < r5 → w_Y_field_36 post M6 a0 x1 x2 x3 r2 (1 : Int32)) ∧ (¬ (r2 < r5) → zT M6 a0 = some (9, 40) ∧ w_Y_risky M6 a0 r2 x1 (fun r321 M322 => (((2 : Int32) ≤ r321 → w_Y_field_36 post M322 a0 x1 x2 x3 r2 (0 : Int32)) ∧ (¬ ((2 : Int32) ≤ r321) → w_Y_field_36 post M322 a0 x1 x2 x3 r2 (1 : Int32))))))))
def w_Y_decide_93 (post : Int32 → zM → Prop) (M : zM) (a0 : Nat) (x1 : Int32) (x2 : Int32) : Prop := zT M a0 = some (9, 40) ∧ ∃ b20, zR M a0 10 = some b20 ∧ ∃ n23, zT M b20 = some (20, n23) ∧ vp_in x1 n23 ∧ ∃ b25, zR M a0 11 = some b25 ∧ ∃ n28, zT M b25 = some (20, n28) ∧ vp_in x1 n28 ∧ w_Y_write M a0 x2 (zI M b20 x1.toNatClampNeg) (zI M b25 x1.toNatClampNeg) (fun r30 M31 => post (200 : Int32) M31)
def w_Y_decide (M : zM) (a0 : Nat) (x1 : Int32) (post : Int32 → zM → Prop) : Prop := zT M a0 = some (9, 40) ∧ ∃ b2, zR M a0 8 = some b2 ∧ ∃ n5, zT M b2 = some (20, n5) ∧ vp_in x1 n5 ∧ ∃ b7, zR M a0 7 = some b7 ∧ ∃ n10, zT M b7 = some (21, n10) ∧ vp_in x1 n10 ∧ ((zI M b7 x1.toNatClampNeg = 0 → ∃ b49, zR M a0 0 = some b49 ∧ ∃ n52, zT M b49 = some (21, n52) ∧ vp_in (zI M b2 x1.toNatClampNeg) n52 ∧ ((zI M b49 (zI M b2 x1.toNatClampNeg).toNatClampNeg = 0 → post (404 : Int32) M) ∧ (¬ (zI M b49 (zI M b2 x1.toNatClampNeg).toNatClampNeg = 0) → ∃ b55, zR M a0 12 = some b55 ∧ ∃ n58, zT M b55 = some (20, n58) ∧ vp_in x1 n58 ∧ ∃ b60, zR M a0 3 = some b60 ∧ ∃ n63, zT M b60 = some (20, n63) ∧ vp_in (zI M b2 x1.toNatClampNeg) n63 ∧ ((zI M b55 x1.toNatClampNeg = zI M b60 (zI M b2 x1.toNatClampNeg).toNatClampNeg → post (304 : Int32) M) ∧ (¬ (zI M b55 x1.toNatClampNeg = zI M b60 (zI M b2 x1.toNatClampNeg).toNatClampNeg) → post (200 : Int32) M))))) ∧ (¬ (zI M b7 x1.toNatClampNeg = 0) → ∃ b13, zR M a0 12 = some b13 ∧ ∃ n16, zT M b13 = some (20, n16) ∧ vp_in x1 n16 ∧ ((zI M b13 x1.toNatClampNeg ≤ 0 → w_Y_decide_93 post M a0 x1 (zI M b2 x1.toNatClampNeg)) ∧ (¬ (zI M b13 x1.toNatClampNeg ≤ 0) → ∃ b32, zR M a0 0 = some b32 ∧ ∃ n35, zT M b32 = some (21, n35) ∧ vp_in (zI M b2 x1.toNatClampNeg) n35 ∧ ((zI M b32 (zI M b2 x1.toNatClampNeg).toNatClampNeg = 0 → post (412 : Int32) M) ∧ (¬ (zI M b32 (zI M b2 x1.toNatClampNeg).toNatClampNeg = 0) → ∃ b38, zR M a0 3 = some b38 ∧ ∃ n41, zT M b38 = some (20, n41) ∧ vp_in (zI M b2 x1.toNatClampNeg) n41 ∧ ∃ b43, zR M a0 12 = some b43 ∧ ∃ n46, zT M b43 = some (20, n46) ∧ vp_in x1 n46 ∧ ((zI M b38 (zI M b2 x1.toNatClampNeg).toNatClampNeg = zI M b43 x1.toNatClampNeg → w_Y_decide_93 post M a0 x1 (zI M b2 x1.toNatClampNeg)) ∧ (¬ (zI M b38 (zI M b2 x1.toNatClampNeg).toNatClampNeg = zI M b43 x1.toNatClampNeg) → post (412 : Int32) M))))))))
def w_Y_arrive_173 (post : Int32 → zM → Prop) (M : zM) (a0 : Nat) (x1 : Int32) (x2 : Int32) (x3 : Int32) : Prop := zT M a0 = some (9, 40) ∧ ∃ b72, zR M a0 16 = some b72 ∧ ∃ n75, zT M b72 = some (20, n75) ∧ vp_in x1 n75 ∧ ∀ M77, M77 = zwI M b72 x1.toNatClampNeg x3 → ∃ b80, zR M77 a0 15 = some b80 ∧ ∃ n83, zT M77 b80 = some (20, n83) ∧ vp_in x1 n83 ∧ ∀ M85, M85 = zwI M77 b80 x1.toNatClampNeg (2 : Int32) → ((x1 + (1 : Int32) ≤ zI M85 a0 39 → ∀ M89, M89 = zwI M85 a0 39 (zI M85 a0 39) → post x3 M89) ∧ (¬ (x1 + (1 : Int32) ≤ zI M85 a0 39) → ∀ M91, M91 = zwI M85 a0 39 (x1 + (1 : Int32)) → post x3 M91))
def w_Y_arrive_49 (post : Int32 → zM → Prop) (M : zM) (a0 : Nat) (x1 : Int32) : Prop := zT M a0 = some (9, 40) ∧ ∃ b22, zR M a0 8 = some b22 ∧ ∃ n25, zT M b22 = some (20, n25) ∧ vp_in x1 n25 ∧ w_Y_decide M a0 x1 (fun r27 M28 => zT M28 a0 = some (9, 40) ∧ ∃ b30, zR M28 a0 3 = some b30 ∧ ∃ n33, zT M28 b30 = some (20, n33) ∧ vp_in (zI M b22 x1.toNatClampNeg) n33 ∧ ∃ b35, zR M28 a0 17 = some b35 ∧ ∃ n38, zT M28 b35 = some (20, n38) ∧ vp_in x1 n38 ∧ ∀ M40, M40 = zwI M28 b35 x1.toNatClampNeg (zI M28 b30 (zI M b22 x1.toNatClampNeg).toNatClampNeg) → ∃ b43, zR M40 a0 2 = some b43 ∧ ∃ n46, zT M40 b43 = some (20, n46) ∧ vp_in (zI M b22 x1.toNatClampNeg) n46 ∧ ∃ b48, zR M40 a0 18 = some b48 ∧ ∃ n51, zT M40 b48 = some (20, n51) ∧ vp_in x1 n51 ∧ ∀ M53, M53 = zwI M40 b48 x1.toNatClampNeg (zI M40 b43 (zI M b22 x1.toNatClampNeg).toNatClampNeg) → ∃ b56, zR M53 a0 1 = some b56 ∧ ∃ n59, zT M53 b56 = some (20, n59) ∧ vp_in (zI M b22 x1.toNatClampNeg) n59 ∧ ∃ b61, zR M53 a0 19 = some b61 ∧ ∃ n64, zT M53 b61 = some (20, n64) ∧ vp_in x1 n64 ∧ ∀ M66, M66 = zwI M53 b61 x1.toNatClampNeg (zI M53 b56 (zI M b22 x1.toNatClampNeg).toNatClampNeg) → (((400 : Int32) ≤ r27 → (((400 : Int32) ≤ r27 → ((r27 = (200 : Int32) → ∃ b94, zR M66 a0 7 = some b94 ∧ ∃ n97, zT M66 b94 = some (21, n97) ∧ vp_in x1 n97 ∧ ((zI M66 b94 x1.toNatClampNeg = 0 → ∃ b100, zR M66 a0 1 = some b100 ∧ ∃ n103, zT M66 b100 = some (20, n103) ∧ vp_in (zI M b22 x1.toNatClampNeg) n103 ∧ w_Y_field M66 a0 x1 (2 : Int32) (zI M66 b100 (zI M b22 x1.toNatClampNeg).toNatClampNeg) (fun M105 => w_Y_arrive_173 post M105 a0 x1 (zI M b22 x1.toNatClampNeg) r27)) ∧ (¬ (zI M66 b94 x1.toNatClampNeg = 0) → w_Y_arrive_173 post M66 a0 x1 (zI M b22 x1.toNatClampNeg) r27))) ∧ (¬ (r27 = (200 : Int32)) → w_Y_arrive_173 post M66 a0 x1 (zI M b22 x1.toNatClampNeg) r27))) ∧ (¬ ((400 : Int32) ≤ r27) → ∃ b107, zR M66 a0 7 = some b107 ∧ ∃ n110, zT M66 b107 = some (21, n110) ∧ vp_in x1 n110 ∧ ((zI M66 b107 x1.toNatClampNeg = 0 → ∃ b126, zR M66 a0 2 = some b126 ∧ ∃ n129, zT M66 b126 = some (20, n129) ∧ vp_in (zI M b22 x1.toNatClampNeg) n129 ∧ w_Y_field M66 a0 x1 (1 : Int32) (zI M66 b126 (zI M b22 x1.toNatClampNeg).toNatClampNeg) (fun M131 => ((r27 = (200 : Int32) → zT M131 a0 = some (9, 40) ∧ ∃ b134, zR M131 a0 7 = some b134 ∧ ∃ n137, zT M131 b134 = some (21, n137) ∧ vp_in x1 n137 ∧ ((zI M131 b134 x1.toNatClampNeg = 0 → ∃ b140, zR M131 a0 1 = some b140 ∧ ∃ n143, zT M131 b140 = some (20, n143) ∧ vp_in (zI M b22 x1.toNatClampNeg) n143 ∧ w_Y_field M131 a0 x1 (2 : Int32) (zI M131 b140 (zI M b22 x1.toNatClampNeg).toNatClampNeg) (fun M145 => w_Y_arrive_173 post M145 a0 x1 (zI M b22 x1.toNatClampNeg) r27)) ∧ (¬ (zI M131 b134 x1.toNatClampNeg = 0) → w_Y_arrive_173 post M131 a0 x1 (zI M b22 x1.toNatClampNeg) r27))) ∧ (¬ (r27 = (200 : Int32)) → w_Y_arrive_173 post M131 a0 x1 (zI M b22 x1.toNatClampNeg) r27)))) ∧ (¬ (zI M66 b107 x1.toNatClampNeg = 0) → ((r27 = (200 : Int32) → ∃ b114, zR M66 a0 7 = some b114 ∧ ∃ n117, zT M66 b114 = some (21, n117) ∧ vp_in x1 n117 ∧ ((zI M66 b114 x1.toNatClampNeg = 0 → ∃ b120, zR M66 a0 1 = some b120 ∧ ∃ n123, zT M66 b120 = some (20, n123) ∧ vp_in (zI M b22 x1.toNatClampNeg) n123 ∧ w_Y_field M66 a0 x1 (2 : Int32) (zI M66 b120 (zI M b22 x1.toNatClampNeg).toNatClampNeg) (fun M125 => w_Y_arrive_173 post M125 a0 x1 (zI M b22 x1.toNatClampNeg) r27)) ∧ (¬ (zI M66 b114 x1.toNatClampNeg = 0) → w_Y_arrive_173 post M66 a0 x1 (zI M b22 x1.toNatClampNeg) r27))) ∧ (¬ (r27 = (200 : Int32)) → w_Y_arrive_173 post M66 a0 x1 (zI M b22 x1.toNatClampNeg) r27))))))) ∧ (¬ ((400 : Int32) ≤ r27) → ∃ b147, zR M66 a0 3 = some b147 ∧ ∃ n150, zT M66 b147 = some (20, n150) ∧ vp_in (zI M b22 x1.toNatClampNeg) n150 ∧ w_Y_field M66 a0 x1 (0 : Int32) (zI M66 b147 (zI M b22 x1.toNatClampNeg).toNatClampNeg) (fun M152 => (((400 : Int32) ≤ r27 → ((r27 = (200 : Int32) → zT M152 a0 = some (9, 40) ∧ ∃ b156, zR M152 a0 7 = some b156 ∧ ∃ n159, zT M152 b156 = some (21, n159) ∧ vp_in x1 n159 ∧ ((zI M152 b156 x1.toNatClampNeg = 0 → ∃ b162, zR M152 a0 1 = some b162 ∧ ∃ n165, zT M152 b162 = some (20, n165) ∧ vp_in (zI M b22 x1.toNatClampNeg) n165 ∧ w_Y_field M152 a0 x1 (2 : Int32) (zI M152 b162 (zI M b22 x1.toNatClampNeg).toNatClampNeg) (fun M167 => w_Y_arrive_173 post M167 a0 x1 (zI M b22 x1.toNatClampNeg) r27)) ∧ (¬ (zI M152 b156 x1.toNatClampNeg = 0) → w_Y_arrive_173 post M152 a0 x1 (zI M b22 x1.toNatClampNeg) r27))) ∧ (¬ (r27 = (200 : Int32)) → w_Y_arrive_173 post M152 a0 x1 (zI M b22 x1.toNatClampNeg) r27))) ∧ (¬ ((400 : Int32) ≤ r27) → zT M152 a0 = some (9, 40) ∧ ∃ b169, zR M152 a0 7 = some b169 ∧ ∃ n172, zT M152 b169 = some (21, n172) ∧ vp_in x1 n172 ∧ ((zI M152 b169 x1.toNatClampNeg = 0 → ∃ b188, zR M152 a0 2 = some b188 ∧ ∃ n191, zT M152 b188 = some (20, n191) ∧ vp_in (zI M b22 x1.toNatClampNeg) n191 ∧ w_Y_field M152 a0 x1 (1 : Int32) (zI M152 b188 (zI M b22 x1.toNatClampNeg).toNatClampNeg) (fun M193 => ((r27 = (200 : Int32) → zT M193 a0 = some (9, 40) ∧ ∃ b196, zR M193 a0 7 = some b196 ∧ ∃ n199, zT M193 b196 = some (21, n199) ∧ vp_in x1 n199 ∧ ((zI M193 b196 x1.toNatClampNeg = 0 → ∃ b202, zR M193 a0 1 = some b202 ∧ ∃ n205, zT M193 b202 = some (20, n205) ∧ vp_in (zI M b22 x1.toNatClampNeg) n205 ∧ w_Y_field M193 a0 x1 (2 : Int32) (zI M193 b202 (zI M b22 x1.toNatClampNeg).toNatClampNeg) (fun M207 => w_Y_arrive_173 post M207 a0 x1 (zI M b22 x1.toNatClampNeg) r27)) ∧ (¬ (zI M193 b196 x1.toNatClampNeg = 0) → w_Y_arrive_173 post M193 a0 x1 (zI M b22 x1.toNatClampNeg) r27))) ∧ (¬ (r27 = (200 : Int32)) → w_Y_arrive_173 post M193 a0 x1 (zI M b22 x1.toNatClampNeg) r27)))) ∧ (¬ (zI M152 b169 x1.toNatClampNeg = 0) → ((r27 = (200 : Int32) → ∃ b176, zR M152 a0 7 = some b176 ∧ ∃ n179, zT M152 b176 = some (21, n179) ∧ vp_in x1 n179 ∧ ((zI M152 b176 x1.toNatClampNeg = 0 → ∃ b182, zR M152 a0 1 = some b182 ∧ ∃ n185, zT M152 b182 = some (20, n185) ∧ vp_in (zI M b22 x1.toNatClampNeg) n185 ∧ w_Y_field M152 a0 x1 (2 : Int32) (zI M152 b182 (zI M b22 x1.toNatClampNeg).toNatClampNeg) (fun M187 => w_Y_arrive_173 post M187 a0 x1 (zI M b22 x1.toNatClampNeg) r27)) ∧ (¬ (zI M152 b176 x1.toNatClampNeg = 0) → w_Y_arrive_173 post M152 a0 x1 (zI M b22 x1.toNatClampNeg) r27))) ∧ (¬ (r27 = (200 : Int32)) → w_Y_arrive_173 post M152 a0 x1 (zI M b22 x1.toNatClampNeg) r27))))))))))
def w_Y_arrive (M : zM) (a0 : Nat) (x1 : Int32) (post : Int32 → zM → Prop) : Prop := zT M a0 = some (9, 40) ∧ w_Y_within M x1 ((zI M a0 6) - (1 : Int32)) (fun r2 M3 => ((r2 = 0 → post (-1 : Int32) M3) ∧ (¬ (r2 = 0) → zT M3 a0 = some (9, 40) ∧ ∃ b6, zR M3 a0 15 = some b6 ∧ ∃ n9, zT M3 b6 = some (20, n9) ∧ vp_in x1 n9 ∧ ((zI M3 b6 x1.toNatClampNeg = (1 : Int32) → ∃ b12, zR M3 a0 15 = some b12 ∧ ∃ n15, zT M3 b12 = some (20, n15) ∧ vp_in x1 n15 ∧ ∀ M17, M17 = zwI M3 b12 x1.toNatClampNeg (0 : Int32) → ((zI M17 a0 36 = 0 → w_Y_arrive_49 post M17 a0 x1) ∧ (¬ (zI M17 a0 36 = 0) → ((x1 < zI M17 a0 38 → w_Y_arrive_49 post M17 a0 x1) ∧ (¬ (x1 < zI M17 a0 38) → post (0 : Int32) M17))))) ∧ (¬ (zI M3 b6 x1.toNatClampNeg = (1 : Int32)) → post (-1 : Int32) M3)))))
def w_Y_feedback (M : zM) (a0 : Nat) (post : Int32 → zM → Prop) : Prop := zT M a0 = some (9, 40) ∧ ((zI M a0 35 = zI M a0 34 → post (-1 : Int32) M) ∧ (¬ (zI M a0 35 = zI M a0 34) → ∀ M3, M3 = zwI M a0 35 ((zI M a0 35) + (1 : Int32)) → ∃ b6, zR M3 a0 32 = some b6 ∧ ∃ n9, zT M3 b6 = some (20, n9) ∧ vp_in ((zI M3 a0 35) - (1 : Int32)) n9 ∧ post (zI M3 b6 ((zI M3 a0 35) - (1 : Int32)).toNatClampNeg) M3))
def w_Y_goaway (M : zM) (a0 : Nat) (post : Int32 → zM → Prop) : Prop := zT M a0 = some (9, 40) ∧ ((zI M a0 36 = 0 → ∀ M3, M3 = zwI M a0 36 (1 : Int32) → ∀ M6, M6 = zwI M3 a0 38 (zI M3 a0 39) → post (zI M6 a0 38) M6) ∧ (¬ (zI M a0 36 = 0) → post (zI M a0 38) M))
def w_Y_ask_178 (post : Int32 → zM → Prop) (M : zM) (a0 : Nat) (x1 : Int32) (x2 : Int32) (x3 : Int32) (x4 : Int32) (x5 : Int32) (x6 : Int32) (w0 : Option Nat) (u1 : Int32) (u2 : Int32) : Prop := ∃ b62, w0 = some b62 ∧ ∃ n65, zT M b62 = some (20, n65) ∧ vp_in u1 n65 ∧ ∀ M67, M67 = zwI M b62 u1.toNatClampNeg u2 → zT M67 a0 = some (9, 40) ∧ ((x6 = 0 → ∃ b71, zR M67 a0 14 = some b71 ∧ ∃ n74, zT M67 b71 = some (20, n74) ∧ vp_in x5 n74 ∧ ∀ M76, M76 = zwI M67 b71 x5.toNatClampNeg (0 : Int32) → post x5 M76) ∧ (¬ (x6 = 0) → ∃ b78, zR M67 a0 23 = some b78 ∧ ∃ n81, zT M67 b78 = some (20, n81) ∧ vp_in x1 n81 ∧ ∃ b83, zR M67 a0 14 = some b83 ∧ ∃ n86, zT M67 b83 = some (20, n86) ∧ vp_in x5 n86 ∧ ∀ M88, M88 = zwI M67 b83 x5.toNatClampNeg (zI M67 b78 x1.toNatClampNeg) → post x5 M88))
def w_Y_ask (M : zM) (a0 : Nat) (x1 : Int32) (x2 : Int32) (x3 : Int32) (x4 : Int32) (post : Int32 → zM → Prop) : Prop := zT M a0 = some (9, 40) ∧ ∀ M2, M2 = zwI M a0 6 ((zI M a0 6) + (1 : Int32)) → ∃ b5, zR M2 a0 7 = some b5 ∧ ∃ n8, zT M2 b5 = some (21, n8) ∧ vp_in (zI M a0 6) n8 ∧ ∀ M10, M10 = zwI M2 b5 (zI M a0 6).toNatClampNeg (vp_nar .boolean x2) → ∃ b13, zR M10 a0 8 = some b13 ∧ ∃ n16, zT M10 b13 = some (20, n16) ∧ vp_in (zI M a0 6) n16 ∧ ∀ M18, M18 = zwI M10 b13 (zI M a0 6).toNatClampNeg x1 → ∃ b21, zR M18 a0 10 = some b21 ∧ ∃ n24, zT M18 b21 = some (20, n24) ∧ vp_in (zI M a0 6) n24 ∧ ∀ M26, M26 = zwI M18 b21 (zI M a0 6).toNatClampNeg x3 → ∃ b29, zR M26 a0 11 = some b29 ∧ ∃ n32, zT M26 b29 = some (20, n32) ∧ vp_in (zI M a0 6) n32 ∧ ∀ M34, M34 = zwI M26 b29 (zI M a0 6).toNatClampNeg x4 → ∃ b37, zR M34 a0 21 = some b37 ∧ ∃ n40, zT M34 b37 = some (20, n40) ∧ vp_in x1 n40 ∧ ((zI M34 b37 x1.toNatClampNeg < 0 → ((x2 = 0 → (((0 : Int32) = 0 → ((zI M34 a0 37 = 0 → ∃ b104, zR M34 a0 15 = some b104 ∧ ∃ n107, zT M34 b104 = some (20, n107) ∧ vp_in (zI M a0 6) n107 ∧ ∀ M109, M109 = zwI M34 b104 (zI M a0 6).toNatClampNeg (1 : Int32) → ∃ b112, zR M109 a0 13 = some b112 ∧ ∃ n115, zT M109 b112 = some (20, n115) ∧ vp_in (zI M a0 6) n115 ∧ ∀ M117, M117 = zwI M109 b112 (zI M a0 6).toNatClampNeg (zI M109 a0 5) → (((0 : Int32) = 0 → w_Y_ask_178 post M117 a0 x1 x2 x3 x4 (zI M a0 6) (0 : Int32) (zR M117 a0 12) (zI M a0 6) (0 : Int32)) ∧ (¬ ((0 : Int32) = 0) → ∃ b121, zR M117 a0 22 = some b121 ∧ ∃ n124, zT M117 b121 = some (20, n124) ∧ vp_in x1 n124 ∧ w_Y_ask_178 post M117 a0 x1 x2 x3 x4 (zI M a0 6) (0 : Int32) (zR M117 a0 12) (zI M a0 6) (zI M117 b121 x1.toNatClampNeg)))) ∧ (¬ (zI M34 a0 37 = 0) → ∃ b126, zR M34 a0 9 = some b126 ∧ ∃ n129, zT M34 b126 = some (20, n129) ∧ vp_in (zI M a0 6) n129 ∧ ∀ M131, M131 = zwI M34 b126 (zI M a0 6).toNatClampNeg (7 : Int32) → post (zI M a0 6) M131))) ∧ (¬ ((0 : Int32) = 0) → ∃ b133, zR M34 a0 25 = some b133 ∧ ∃ n136, zT M34 b133 = some (20, n136) ∧ vp_in x1 n136 ∧ ∃ b138, zR M34 a0 24 = some b138 ∧ ∃ n141, zT M34 b138 = some (20, n141) ∧ vp_in x1 n141 ∧ ((zI M34 b138 x1.toNatClampNeg ≤ (zI M34 a0 5) - (zI M34 b133 x1.toNatClampNeg) → ((zI M34 a0 37 = 0 → ∃ b145, zR M34 a0 15 = some b145 ∧ ∃ n148, zT M34 b145 = some (20, n148) ∧ vp_in (zI M a0 6) n148 ∧ ∀ M150, M150 = zwI M34 b145 (zI M a0 6).toNatClampNeg (1 : Int32) → ∃ b153, zR M150 a0 13 = some b153 ∧ ∃ n156, zT M150 b153 = some (20, n156) ∧ vp_in (zI M a0 6) n156 ∧ ∀ M158, M158 = zwI M150 b153 (zI M a0 6).toNatClampNeg (zI M150 a0 5) → (((0 : Int32) = 0 → w_Y_ask_178 post M158 a0 x1 x2 x3 x4 (zI M a0 6) (0 : Int32) (zR M158 a0 12) (zI M a0 6) (0 : Int32)) ∧ (¬ ((0 : Int32) = 0) → ∃ b162, zR M158 a0 22 = some b162 ∧ ∃ n165, zT M158 b162 = some (20, n165) ∧ vp_in x1 n165 ∧ w_Y_ask_178 post M158 a0 x1 x2 x3 x4 (zI M a0 6) (0 : Int32) (zR M158 a0 12) (zI M a0 6) (zI M158 b162 x1.toNatClampNeg)))) ∧ (¬ (zI M34 a0 37 = 0) → ∃ b167, zR M34 a0 9 = some b167 ∧ ∃ n170, zT M34 b167 = some (20, n170) ∧ vp_in (zI M a0 6) n170 ∧ ∀ M172, M172 = zwI M34 b167 (zI M a0 6).toNatClampNeg (7 : Int32) → post (zI M a0 6) M172))) ∧ (¬ (zI M34 b138 x1.toNatClampNeg ≤ (zI M34 a0 5) - (zI M34 b133 x1.toNatClampNeg)) → ∃ b174, zR M34 a0 9 = some b174 ∧ ∃ n177, zT M34 b174 = some (20, n177) ∧ vp_in (zI M a0 6) n177 ∧ ∀ M179, M179 = zwI M34 b174 (zI M a0 6).toNatClampNeg (8 : Int32) → ∃ b182, zR M179 a0 23 = some b182 ∧ ∃ n185, zT M179 b182 = some (20, n185) ∧ vp_in x1 n185 ∧ ∃ b187, zR M179 a0 14 = some b187 ∧ ∃ n190, zT M179 b187 = some (20, n190) ∧ vp_in (zI M a0 6) n190 ∧ ∀ M192, M192 = zwI M179 b187 (zI M a0 6).toNatClampNeg (zI M179 b182 x1.toNatClampNeg) → post (zI M a0 6) M192))))) ∧ (¬ (x2 = 0) → ((zI M34 a0 37 = 0 → ∃ b45, zR M34 a0 15 = some b45 ∧ ∃ n48, zT M34 b45 = some (20, n48) ∧ vp_in (zI M a0 6) n48 ∧ ∀ M50, M50 = zwI M34 b45 (zI M a0 6).toNatClampNeg (1 : Int32) → ∃ b53, zR M50 a0 13 = some b53 ∧ ∃ n56, zT M50 b53 = some (20, n56) ∧ vp_in (zI M a0 6) n56 ∧ ∀ M58, M58 = zwI M50 b53 (zI M a0 6).toNatClampNeg (zI M50 a0 5) → (((0 : Int32) = 0 → w_Y_ask_178 post M58 a0 x1 x2 x3 x4 (zI M a0 6) (0 : Int32) (zR M58 a0 12) (zI M a0 6) (0 : Int32)) ∧ (¬ ((0 : Int32) = 0) → ∃ b90, zR M58 a0 22 = some b90 ∧ ∃ n93, zT M58 b90 = some (20, n93) ∧ vp_in x1 n93 ∧ w_Y_ask_178 post M58 a0 x1 x2 x3 x4 (zI M a0 6) (0 : Int32) (zR M58 a0 12) (zI M a0 6) (zI M58 b90 x1.toNatClampNeg)))) ∧ (¬ (zI M34 a0 37 = 0) → ∃ b95, zR M34 a0 9 = some b95 ∧ ∃ n98, zT M34 b95 = some (20, n98) ∧ vp_in (zI M a0 6) n98 ∧ ∀ M100, M100 = zwI M34 b95 (zI M a0 6).toNatClampNeg (7 : Int32) → post (zI M a0 6) M100))))) ∧ (¬ (zI M34 b37 x1.toNatClampNeg < 0) → ((x2 = 0 → (((1 : Int32) = 0 → ((zI M34 a0 37 = 0 → ∃ b227, zR M34 a0 15 = some b227 ∧ ∃ n230, zT M34 b227 = some (20, n230) ∧ vp_in (zI M a0 6) n230 ∧ ∀ M232, M232 = zwI M34 b227 (zI M a0 6).toNatClampNeg (1 : Int32) → ∃ b235, zR M232 a0 13 = some b235 ∧ ∃ n238, zT M232 b235 = some (20, n238) ∧ vp_in (zI M a0 6) n238 ∧ ∀ M240, M240 = zwI M232 b235 (zI M a0 6).toNatClampNeg (zI M232 a0 5) → (((1 : Int32) = 0 → w_Y_ask_178 post M240 a0 x1 x2 x3 x4 (zI M a0 6) (1 : Int32) (zR M240 a0 12) (zI M a0 6) (0 : Int32)) ∧ (¬ ((1 : Int32) = 0) → ∃ b244, zR M240 a0 22 = some b244 ∧ ∃ n247, zT M240 b244 = some (20, n247) ∧ vp_in x1 n247 ∧ w_Y_ask_178 post M240 a0 x1 x2 x3 x4 (zI M a0 6) (1 : Int32) (zR M240 a0 12) (zI M a0 6) (zI M240 b244 x1.toNatClampNeg)))) ∧ (¬ (zI M34 a0 37 = 0) → ∃ b249, zR M34 a0 9 = some b249 ∧ ∃ n252, zT M34 b249 = some (20, n252) ∧ vp_in (zI M a0 6) n252 ∧ ∀ M254, M254 = zwI M34 b249 (zI M a0 6).toNatClampNeg (7 : Int32) → post (zI M a0 6) M254))) ∧ (¬ ((1 : Int32) = 0) → ∃ b256, zR M34 a0 25 = some b256 ∧ ∃ n259, zT M34 b256 = some (20, n259) ∧ vp_in x1 n259 ∧ ∃ b261, zR M34 a0 24 = some b261 ∧ ∃ n264, zT M34 b261 = some (20, n264) ∧ vp_in x1 n264 ∧ ((zI M34 b261 x1.toNatClampNeg ≤ (zI M34 a0 5) - (zI M34 b256 x1.toNatClampNeg) → ((zI M34 a0 37 = 0 → ∃ b268, zR M34 a0 15 = some b268 ∧ ∃ n271, zT M34 b268 = some (20, n271) ∧ vp_in (zI M a0 6) n271 ∧ ∀ M273, M273 = zwI M34 b268 (zI M a0 6).toNatClampNeg (1 : Int32) → ∃ b276, zR M273 a0 13 = some b276 ∧ ∃ n279, zT M273 b276 = some (20, n279) ∧ vp_in (zI M a0 6) n279 ∧ ∀ M281, M281 = zwI M273 b276 (zI M a0 6).toNatClampNeg (zI M273 a0 5) → (((1 : Int32) = 0 → w_Y_ask_178 post M281 a0 x1 x2 x3 x4 (zI M a0 6) (1 : Int32) (zR M281 a0 12) (zI M a0 6) (0 : Int32)) ∧ (¬ ((1 : Int32) = 0) → ∃ b285, zR M281 a0 22 = some b285 ∧ ∃ n288, zT M281 b285 = some (20, n288) ∧ vp_in x1 n288 ∧ w_Y_ask_178 post M281 a0 x1 x2 x3 x4 (zI M a0 6) (1 : Int32) (zR M281 a0 12) (zI M a0 6) (zI M281 b285 x1.toNatClampNeg)))) ∧ (¬ (zI M34 a0 37 = 0) → ∃ b290, zR M34 a0 9 = some b290 ∧ ∃ n293, zT M34 b290 = some (20, n293) ∧ vp_in (zI M a0 6) n293 ∧ ∀ M295, M295 = zwI M34 b290 (zI M a0 6).toNatClampNeg (7 : Int32) → post (zI M a0 6) M295))) ∧ (¬ (zI M34 b261 x1.toNatClampNeg ≤ (zI M34 a0 5) - (zI M34 b256 x1.toNatClampNeg)) → ∃ b297, zR M34 a0 9 = some b297 ∧ ∃ n300, zT M34 b297 = some (20, n300) ∧ vp_in (zI M a0 6) n300 ∧ ∀ M302, M302 = zwI M34 b297 (zI M a0 6).toNatClampNeg (8 : Int32) → ∃ b305, zR M302 a0 23 = some b305 ∧ ∃ n308, zT M302 b305 = some (20, n308) ∧ vp_in x1 n308 ∧ ∃ b310, zR M302 a0 14 = some b310 ∧ ∃ n313, zT M302 b310 = some (20, n313) ∧ vp_in (zI M a0 6) n313 ∧ ∀ M315, M315 = zwI M302 b310 (zI M a0 6).toNatClampNeg (zI M302 b305 x1.toNatClampNeg) → post (zI M a0 6) M315))))) ∧ (¬ (x2 = 0) → ((zI M34 a0 37 = 0 → ∃ b196, zR M34 a0 15 = some b196 ∧ ∃ n199, zT M34 b196 = some (20, n199) ∧ vp_in (zI M a0 6) n199 ∧ ∀ M201, M201 = zwI M34 b196 (zI M a0 6).toNatClampNeg (1 : Int32) → ∃ b204, zR M201 a0 13 = some b204 ∧ ∃ n207, zT M201 b204 = some (20, n207) ∧ vp_in (zI M a0 6) n207 ∧ ∀ M209, M209 = zwI M201 b204 (zI M a0 6).toNatClampNeg (zI M201 a0 5) → (((1 : Int32) = 0 → w_Y_ask_178 post M209 a0 x1 x2 x3 x4 (zI M a0 6) (1 : Int32) (zR M209 a0 12) (zI M a0 6) (0 : Int32)) ∧ (¬ ((1 : Int32) = 0) → ∃ b213, zR M209 a0 22 = some b213 ∧ ∃ n216, zT M209 b213 = some (20, n216) ∧ vp_in x1 n216 ∧ w_Y_ask_178 post M209 a0 x1 x2 x3 x4 (zI M a0 6) (1 : Int32) (zR M209 a0 12) (zI M a0 6) (zI M209 b213 x1.toNatClampNeg)))) ∧ (¬ (zI M34 a0 37 = 0) → ∃ b218, zR M34 a0 9 = some b218 ∧ ∃ n221, zT M34 b218 = some (20, n221) ∧ vp_in (zI M a0 6) n221 ∧ ∀ M223, M223 = zwI M34 b218 (zI M a0 6).toNatClampNeg (7 : Int32) → post (zI M a0 6) M223))))))
def w_Y_get (M : zM) (a0 : Nat) (x1 : Int32) (post : Int32 → zM → Prop) : Prop := w_Y_within M x1 (5 : Int32) (fun r1 M2 => ((r1 = 0 → post (-1 : Int32) M2) ∧ (¬ (r1 = 0) → zT M2 a0 = some (9, 40) ∧ (((60 : Int32) ≤ zI M2 a0 6 → post (-1 : Int32) M2) ∧ (¬ ((60 : Int32) ≤ zI M2 a0 6) → w_Y_ask M2 a0 x1 (0 : Int32) (0 : Int32) (0 : Int32) (fun r6 M7 => post r6 M7))))))
def w_Y_replace (M : zM) (a0 : Nat) (x1 : Int32) (x2 : Int32) (x3 : Int32) (post : Int32 → zM → Prop) : Prop := w_Y_within M x1 (5 : Int32) (fun r1 M2 => ((r1 = 0 → post (-1 : Int32) M2) ∧ (¬ (r1 = 0) → w_Y_within M2 x3 (1000 : Int32) (fun r4 M5 => ((r4 = 0 → post (-1 : Int32) M5) ∧ (¬ (r4 = 0) → zT M5 a0 = some (9, 40) ∧ (((60 : Int32) ≤ zI M5 a0 6 → post (-1 : Int32) M5) ∧ (¬ ((60 : Int32) ≤ zI M5 a0 6) → w_Y_ask M5 a0 x1 (1 : Int32) x2 x3 (fun r9 M10 => post r9 M10)))))))))
def w_Y_read_247 (post : Int32 → zM → Prop) (M : zM) (a0 : Nat) (x1 : Int32) (x2 : Int32) (x3 : Int32) (x4 : Int32) (w0 : Option Nat) (u1 : Int32) (u2 : Int32) : Prop := ∃ b31, w0 = some b31 ∧ ∃ n34, zT M b31 = some (20, n34) ∧ vp_in u1 n34 ∧ ∀ M36, M36 = zwI M b31 u1.toNatClampNeg u2 → zT M36 a0 = some (9, 40) ∧ ((x4 = 0 → ∃ b40, zR M36 a0 21 = some b40 ∧ ∃ n43, zT M36 b40 = some (20, n43) ∧ vp_in x2 n43 ∧ vp_in x2 n43 ∧ ∀ M46, M46 = zwI M36 b40 x2.toNatClampNeg (zI M36 b40 x2.toNatClampNeg) → w_Y_need M46 a0 x1 (fun r49 M50 => ((r49 ≤ 0 → zT M50 a0 = some (9, 40) ∧ ∃ b53, zR M50 a0 9 = some b53 ∧ ∃ n56, zT M50 b53 = some (20, n56) ∧ vp_in x1 n56 ∧ post (zI M50 b53 x1.toNatClampNeg) M50) ∧ (¬ (r49 ≤ 0) → zT M50 a0 = some (9, 40) ∧ w_Y_tell M50 a0 (0 : Int32) x1 (fun M59 => zT M59 a0 = some (9, 40) ∧ ∃ b61, zR M59 a0 9 = some b61 ∧ ∃ n64, zT M59 b61 = some (20, n64) ∧ vp_in x1 n64 ∧ post (zI M59 b61 x1.toNatClampNeg) M59))))) ∧ (¬ (x4 = 0) → ∃ b66, zR M36 a0 21 = some b66 ∧ ∃ n69, zT M36 b66 = some (20, n69) ∧ vp_in x2 n69 ∧ ∀ M71, M71 = zwI M36 b66 x2.toNatClampNeg (-1 : Int32) → w_Y_need M71 a0 x1 (fun r74 M75 => ((r74 ≤ 0 → zT M75 a0 = some (9, 40) ∧ ∃ b78, zR M75 a0 9 = some b78 ∧ ∃ n81, zT M75 b78 = some (20, n81) ∧ vp_in x1 n81 ∧ post (zI M75 b78 x1.toNatClampNeg) M75) ∧ (¬ (r74 ≤ 0) → zT M75 a0 = some (9, 40) ∧ w_Y_tell M75 a0 (0 : Int32) x1 (fun M84 => zT M84 a0 = some (9, 40) ∧ ∃ b86, zR M84 a0 9 = some b86 ∧ ∃ n89, zT M84 b86 = some (20, n89) ∧ vp_in x1 n89 ∧ post (zI M84 b86 x1.toNatClampNeg) M84))))))
def w_Y_read_29 (post : Int32 → zM → Prop) (M : zM) (a0 : Nat) (x1 : Int32) (x2 : Int32) (x3 : Int32) (u0 : Int32) : Prop := zT M a0 = some (9, 40) ∧ ∃ b19, zR M a0 15 = some b19 ∧ ∃ n22, zT M b19 = some (20, n22) ∧ vp_in x1 n22 ∧ ∀ M24, M24 = zwI M b19 x1.toNatClampNeg (0 : Int32) → ((x3 = (304 : Int32) → ∃ b269, zR M24 a0 9 = some b269 ∧ ∃ n272, zT M24 b269 = some (20, n272) ∧ vp_in x1 n272 ∧ ∀ M274, M274 = zwI M24 b269 x1.toNatClampNeg (2 : Int32) → ∃ b277, zR M274 a0 21 = some b277 ∧ ∃ n280, zT M274 b277 = some (20, n280) ∧ vp_in x2 n280 ∧ ((zI M274 b277 x2.toNatClampNeg < 0 → w_Y_need M274 a0 x1 (fun r283 M284 => ((r283 ≤ 0 → zT M284 a0 = some (9, 40) ∧ ∃ b287, zR M284 a0 9 = some b287 ∧ ∃ n290, zT M284 b287 = some (20, n290) ∧ vp_in x1 n290 ∧ post (zI M284 b287 x1.toNatClampNeg) M284) ∧ (¬ (r283 ≤ 0) → zT M284 a0 = some (9, 40) ∧ w_Y_tell M284 a0 (0 : Int32) x1 (fun M293 => zT M293 a0 = some (9, 40) ∧ ∃ b295, zR M293 a0 9 = some b295 ∧ ∃ n298, zT M293 b295 = some (20, n298) ∧ vp_in x1 n298 ∧ post (zI M293 b295 x1.toNatClampNeg) M293))))) ∧ (¬ (zI M274 b277 x2.toNatClampNeg < 0) → ∃ b300, zR M274 a0 22 = some b300 ∧ ∃ n303, zT M274 b300 = some (20, n303) ∧ vp_in x2 n303 ∧ ∃ b305, zR M274 a0 17 = some b305 ∧ ∃ n308, zT M274 b305 = some (20, n308) ∧ vp_in x1 n308 ∧ ((zI M274 b300 x2.toNatClampNeg = zI M274 b305 x1.toNatClampNeg → ((u0 = 0 → w_Y_need M274 a0 x1 (fun r329 M330 => ((r329 ≤ 0 → zT M330 a0 = some (9, 40) ∧ ∃ b333, zR M330 a0 9 = some b333 ∧ ∃ n336, zT M330 b333 = some (20, n336) ∧ vp_in x1 n336 ∧ post (zI M330 b333 x1.toNatClampNeg) M330) ∧ (¬ (r329 ≤ 0) → zT M330 a0 = some (9, 40) ∧ w_Y_tell M330 a0 (0 : Int32) x1 (fun M339 => zT M339 a0 = some (9, 40) ∧ ∃ b341, zR M339 a0 9 = some b341 ∧ ∃ n344, zT M339 b341 = some (20, n344) ∧ vp_in x1 n344 ∧ post (zI M339 b341 x1.toNatClampNeg) M339))))) ∧ (¬ (u0 = 0) → ∃ b346, zR M274 a0 18 = some b346 ∧ ∃ n349, zT M274 b346 = some (20, n349) ∧ vp_in x1 n349 ∧ ∃ b351, zR M274 a0 24 = some b351 ∧ ∃ n354, zT M274 b351 = some (20, n354) ∧ vp_in x2 n354 ∧ ∀ M356, M356 = zwI M274 b351 x2.toNatClampNeg (zI M274 b346 x1.toNatClampNeg) → ∃ b359, zR M356 a0 13 = some b359 ∧ ∃ n362, zT M356 b359 = some (20, n362) ∧ vp_in x1 n362 ∧ ∃ b364, zR M356 a0 25 = some b364 ∧ ∃ n367, zT M356 b364 = some (20, n367) ∧ vp_in x2 n367 ∧ ∀ M369, M369 = zwI M356 b364 x2.toNatClampNeg (zI M356 b359 x1.toNatClampNeg) → ∃ b372, zR M369 a0 21 = some b372 ∧ ∃ n375, zT M369 b372 = some (20, n375) ∧ vp_in x2 n375 ∧ ∀ M377, M377 = zwI M369 b372 x2.toNatClampNeg x1 → w_Y_need M377 a0 x1 (fun r380 M381 => ((r380 ≤ 0 → zT M381 a0 = some (9, 40) ∧ ∃ b384, zR M381 a0 9 = some b384 ∧ ∃ n387, zT M381 b384 = some (20, n387) ∧ vp_in x1 n387 ∧ post (zI M381 b384 x1.toNatClampNeg) M381) ∧ (¬ (r380 ≤ 0) → zT M381 a0 = some (9, 40) ∧ w_Y_tell M381 a0 (0 : Int32) x1 (fun M390 => zT M390 a0 = some (9, 40) ∧ ∃ b392, zR M390 a0 9 = some b392 ∧ ∃ n395, zT M390 b392 = some (20, n395) ∧ vp_in x1 n395 ∧ post (zI M390 b392 x1.toNatClampNeg) M390))))))) ∧ (¬ (zI M274 b300 x2.toNatClampNeg = zI M274 b305 x1.toNatClampNeg) → w_Y_need M274 a0 x1 (fun r311 M312 => ((r311 ≤ 0 → zT M312 a0 = some (9, 40) ∧ ∃ b315, zR M312 a0 9 = some b315 ∧ ∃ n318, zT M312 b315 = some (20, n318) ∧ vp_in x1 n318 ∧ post (zI M312 b315 x1.toNatClampNeg) M312) ∧ (¬ (r311 ≤ 0) → zT M312 a0 = some (9, 40) ∧ w_Y_tell M312 a0 (0 : Int32) x1 (fun M321 => zT M321 a0 = some (9, 40) ∧ ∃ b323, zR M321 a0 9 = some b323 ∧ ∃ n326, zT M321 b323 = some (20, n326) ∧ vp_in x1 n326 ∧ post (zI M321 b323 x1.toNatClampNeg) M321))))))))) ∧ (¬ (x3 = (304 : Int32)) → ((x3 = (200 : Int32) → ∃ b118, zR M24 a0 7 = some b118 ∧ ∃ n121, zT M24 b118 = some (21, n121) ∧ vp_in x1 n121 ∧ ((zI M24 b118 x1.toNatClampNeg = 0 → ∃ b151, zR M24 a0 9 = some b151 ∧ ∃ n154, zT M24 b151 = some (20, n154) ∧ vp_in x1 n154 ∧ ∀ M156, M156 = zwI M24 b151 x1.toNatClampNeg (1 : Int32) → ∃ b159, zR M156 a0 19 = some b159 ∧ ∃ n162, zT M156 b159 = some (20, n162) ∧ vp_in x1 n162 ∧ ∃ b164, zR M156 a0 14 = some b164 ∧ ∃ n167, zT M156 b164 = some (20, n167) ∧ vp_in x1 n167 ∧ ∀ M169, M169 = zwI M156 b164 x1.toNatClampNeg (zI M156 b159 x1.toNatClampNeg) → ((u0 = 0 → w_Y_need M169 a0 x1 (fun r173 M174 => ((r173 ≤ 0 → zT M174 a0 = some (9, 40) ∧ ∃ b177, zR M174 a0 9 = some b177 ∧ ∃ n180, zT M174 b177 = some (20, n180) ∧ vp_in x1 n180 ∧ post (zI M174 b177 x1.toNatClampNeg) M174) ∧ (¬ (r173 ≤ 0) → zT M174 a0 = some (9, 40) ∧ w_Y_tell M174 a0 (0 : Int32) x1 (fun M183 => zT M183 a0 = some (9, 40) ∧ ∃ b185, zR M183 a0 9 = some b185 ∧ ∃ n188, zT M183 b185 = some (20, n188) ∧ vp_in x1 n188 ∧ post (zI M183 b185 x1.toNatClampNeg) M183))))) ∧ (¬ (u0 = 0) → ∃ b191, zR M169 a0 17 = some b191 ∧ ∃ n194, zT M169 b191 = some (20, n194) ∧ vp_in x1 n194 ∧ ∃ b196, zR M169 a0 22 = some b196 ∧ ∃ n199, zT M169 b196 = some (20, n199) ∧ vp_in x2 n199 ∧ ∀ M201, M201 = zwI M169 b196 x2.toNatClampNeg (zI M169 b191 x1.toNatClampNeg) → ∃ b204, zR M201 a0 19 = some b204 ∧ ∃ n207, zT M201 b204 = some (20, n207) ∧ vp_in x1 n207 ∧ ∃ b209, zR M201 a0 23 = some b209 ∧ ∃ n212, zT M201 b209 = some (20, n212) ∧ vp_in x2 n212 ∧ ∀ M214, M214 = zwI M201 b209 x2.toNatClampNeg (zI M201 b204 x1.toNatClampNeg) → ∃ b217, zR M214 a0 18 = some b217 ∧ ∃ n220, zT M214 b217 = some (20, n220) ∧ vp_in x1 n220 ∧ ∃ b222, zR M214 a0 24 = some b222 ∧ ∃ n225, zT M214 b222 = some (20, n225) ∧ vp_in x2 n225 ∧ ∀ M227, M227 = zwI M214 b222 x2.toNatClampNeg (zI M214 b217 x1.toNatClampNeg) → ∃ b230, zR M227 a0 13 = some b230 ∧ ∃ n233, zT M227 b230 = some (20, n233) ∧ vp_in x1 n233 ∧ ∃ b235, zR M227 a0 25 = some b235 ∧ ∃ n238, zT M227 b235 = some (20, n238) ∧ vp_in x2 n238 ∧ ∀ M240, M240 = zwI M227 b235 x2.toNatClampNeg (zI M227 b230 x1.toNatClampNeg) → ∃ b243, zR M240 a0 21 = some b243 ∧ ∃ n246, zT M240 b243 = some (20, n246) ∧ vp_in x2 n246 ∧ ∀ M248, M248 = zwI M240 b243 x2.toNatClampNeg x1 → w_Y_need M248 a0 x1 (fun r251 M252 => ((r251 ≤ 0 → zT M252 a0 = some (9, 40) ∧ ∃ b255, zR M252 a0 9 = some b255 ∧ ∃ n258, zT M252 b255 = some (20, n258) ∧ vp_in x1 n258 ∧ post (zI M252 b255 x1.toNatClampNeg) M252) ∧ (¬ (r251 ≤ 0) → zT M252 a0 = some (9, 40) ∧ w_Y_tell M252 a0 (0 : Int32) x1 (fun M261 => zT M261 a0 = some (9, 40) ∧ ∃ b263, zR M261 a0 9 = some b263 ∧ ∃ n266, zT M261 b263 = some (20, n266) ∧ vp_in x1 n266 ∧ post (zI M261 b263 x1.toNatClampNeg) M261))))))) ∧ (¬ (zI M24 b118 x1.toNatClampNeg = 0) → ((x3 = (412 : Int32) → ∃ b126, zR M24 a0 9 = some b126 ∧ ∃ n129, zT M24 b126 = some (20, n129) ∧ vp_in x1 n129 ∧ ∀ M131, M131 = zwI M24 b126 x1.toNatClampNeg (5 : Int32) → w_Y_need M131 a0 x1 (fun r134 M135 => ((r134 ≤ 0 → zT M135 a0 = some (9, 40) ∧ ∃ b138, zR M135 a0 9 = some b138 ∧ ∃ n141, zT M135 b138 = some (20, n141) ∧ vp_in x1 n141 ∧ post (zI M135 b138 x1.toNatClampNeg) M135) ∧ (¬ (r134 ≤ 0) → zT M135 a0 = some (9, 40) ∧ w_Y_tell M135 a0 (0 : Int32) x1 (fun M144 => zT M144 a0 = some (9, 40) ∧ ∃ b146, zR M144 a0 9 = some b146 ∧ ∃ n149, zT M144 b146 = some (20, n149) ∧ vp_in x1 n149 ∧ post (zI M144 b146 x1.toNatClampNeg) M144))))) ∧ (¬ (x3 = (412 : Int32)) → ((x3 = (404 : Int32) → w_Y_read_247 post M24 a0 x1 x2 x3 u0 (zR M24 a0 9) x1 (3 : Int32)) ∧ (¬ (x3 = (404 : Int32)) → w_Y_read_247 post M24 a0 x1 x2 x3 u0 (zR M24 a0 9) x1 (4 : Int32)))))))) ∧ (¬ (x3 = (200 : Int32)) → ((x3 = (412 : Int32) → ∃ b92, zR M24 a0 9 = some b92 ∧ ∃ n95, zT M24 b92 = some (20, n95) ∧ vp_in x1 n95 ∧ ∀ M97, M97 = zwI M24 b92 x1.toNatClampNeg (5 : Int32) → w_Y_need M97 a0 x1 (fun r100 M101 => ((r100 ≤ 0 → zT M101 a0 = some (9, 40) ∧ ∃ b104, zR M101 a0 9 = some b104 ∧ ∃ n107, zT M101 b104 = some (20, n107) ∧ vp_in x1 n107 ∧ post (zI M101 b104 x1.toNatClampNeg) M101) ∧ (¬ (r100 ≤ 0) → zT M101 a0 = some (9, 40) ∧ w_Y_tell M101 a0 (0 : Int32) x1 (fun M110 => zT M110 a0 = some (9, 40) ∧ ∃ b112, zR M110 a0 9 = some b112 ∧ ∃ n115, zT M110 b112 = some (20, n115) ∧ vp_in x1 n115 ∧ post (zI M110 b112 x1.toNatClampNeg) M110))))) ∧ (¬ (x3 = (412 : Int32)) → ((x3 = (404 : Int32) → w_Y_read_247 post M24 a0 x1 x2 x3 u0 (zR M24 a0 9) x1 (3 : Int32)) ∧ (¬ (x3 = (404 : Int32)) → w_Y_read_247 post M24 a0 x1 x2 x3 u0 (zR M24 a0 9) x1 (4 : Int32)))))))))
def w_Y_read (M : zM) (a0 : Nat) (x1 : Int32) (post : Int32 → zM → Prop) : Prop := zT M a0 = some (9, 40) ∧ ∃ b2, zR M a0 8 = some b2 ∧ ∃ n5, zT M b2 = some (20, n5) ∧ vp_in x1 n5 ∧ ∃ b7, zR M a0 16 = some b7 ∧ ∃ n10, zT M b7 = some (20, n10) ∧ vp_in x1 n10 ∧ ∃ b12, zR M a0 21 = some b12 ∧ ∃ n15, zT M b12 = some (20, n15) ∧ vp_in (zI M b2 x1.toNatClampNeg) n15 ∧ ((x1 ≤ zI M b12 (zI M b2 x1.toNatClampNeg).toNatClampNeg → w_Y_read_29 post M a0 x1 (zI M b2 x1.toNatClampNeg) (zI M b7 x1.toNatClampNeg) (0 : Int32)) ∧ (¬ (x1 ≤ zI M b12 (zI M b2 x1.toNatClampNeg).toNatClampNeg) → w_Y_read_29 post M a0 x1 (zI M b2 x1.toNatClampNeg) (zI M b7 x1.toNatClampNeg) (1 : Int32)))
def w_Y_reply (M : zM) (a0 : Nat) (x1 : Int32) (post : Int32 → zM → Prop) : Prop := zT M a0 = some (9, 40) ∧ w_Y_within M x1 ((zI M a0 6) - (1 : Int32)) (fun r2 M3 => ((r2 = 0 → post (-1 : Int32) M3) ∧ (¬ (r2 = 0) → zT M3 a0 = some (9, 40) ∧ ∃ b6, zR M3 a0 15 = some b6 ∧ ∃ n9, zT M3 b6 = some (20, n9) ∧ vp_in x1 n9 ∧ ((zI M3 b6 x1.toNatClampNeg = (2 : Int32) → w_Y_need M3 a0 x1 (fun r12 M13 => zT M13 a0 = some (9, 40) ∧ ((r12 ≤ zI M13 a0 29 → w_Y_read M13 a0 x1 (fun r16 M17 => post r16 M17)) ∧ (¬ (r12 ≤ zI M13 a0 29) → ∃ b18, zR M13 a0 15 = some b18 ∧ ∃ n21, zT M13 b18 = some (20, n21) ∧ vp_in x1 n21 ∧ ∀ M23, M23 = zwI M13 b18 x1.toNatClampNeg (3 : Int32) → post (0 : Int32) M23)))) ∧ (¬ (zI M3 b6 x1.toNatClampNeg = (2 : Int32)) → post (-1 : Int32) M3)))))
def w_Y_insert_27 (post : Int32 → zM → Prop) : Nat → zM → Nat → Int32 → Int32 → Prop
  | 0, _, _, _, _ => False
  | n + 1, M, a0, x1, x2 => zT M a0 = some (9, 40) ∧ ((zI M a0 6 ≤ x2 → post x1 M) ∧ (¬ (zI M a0 6 ≤ x2) → ∃ b7, zR M a0 15 = some b7 ∧ ∃ n10, zT M b7 = some (20, n10) ∧ vp_in x2 n10 ∧ ((zI M b7 x2.toNatClampNeg = (3 : Int32) → w_Y_need M a0 x2 (fun r13 M14 => zT M14 a0 = some (9, 40) ∧ ((zI M14 a0 29 < r13 → w_Y_insert_27 post n M14 a0 x1 (x2 + (1 : Int32))) ∧ (¬ (zI M14 a0 29 < r13) → w_Y_read M14 a0 x2 (fun r17 M18 => ((r17 ≤ 0 → w_Y_insert_27 post n M18 a0 x1 (x2 + (1 : Int32))) ∧ (¬ (r17 ≤ 0) → w_Y_insert_27 post n M18 a0 (x1 + (1 : Int32)) (x2 + (1 : Int32))))))))) ∧ (¬ (zI M b7 x2.toNatClampNeg = (3 : Int32)) → w_Y_insert_27 post n M a0 x1 (x2 + (1 : Int32))))))
def w_Y_insert (M : zM) (a0 : Nat) (post : Int32 → zM → Prop) : Prop := zT M a0 = some (9, 40) ∧ ((zI M a0 29 = zI M a0 28 → post (-1 : Int32) M) ∧ (¬ (zI M a0 29 = zI M a0 28) → ∀ M3, M3 = zwI M a0 29 ((zI M a0 29) + (1 : Int32)) → ∃ n20, w_Y_insert_27 post n20 M3 a0 (0 : Int32) (0 : Int32)))
def w_Y_report (M : zM) (a0 : Nat) (post : Int32 → zM → Prop) : Prop := zT M a0 = some (9, 40) ∧ w_Y_after M a0 (zI M a0 34) (fun r2 M3 => zT M3 a0 = some (9, 40) ∧ ((r2 < zI M3 a0 29 → w_Y_tell M3 a0 (2 : Int32) ((zI M3 a0 29) - r2) (fun M6 => post (1 : Int32) M6)) ∧ (¬ (r2 < zI M3 a0 29) → post (0 : Int32) M3)))
def w_Y_notice_28 (post : Int32 → zM → Prop) : Nat → zM → Nat → Int32 → Int32 → Prop
  | 0, _, _, _, _ => False
  | n + 1, M, a0, x1, x2 => zT M a0 = some (9, 40) ∧ ((zI M a0 6 ≤ x2 → post x1 M) ∧ (¬ (zI M a0 6 ≤ x2) → ∃ b9, zR M a0 9 = some b9 ∧ ∃ n12, zT M b9 = some (20, n12) ∧ vp_in x2 n12 ∧ ((zI M b9 x2.toNatClampNeg = 0 → ∃ b15, zR M a0 9 = some b15 ∧ ∃ n18, zT M b15 = some (20, n18) ∧ vp_in x2 n18 ∧ ∀ M20, M20 = zwI M b15 x2.toNatClampNeg (7 : Int32) → ∃ b23, zR M20 a0 15 = some b23 ∧ ∃ n26, zT M20 b23 = some (20, n26) ∧ vp_in x2 n26 ∧ ∀ M28, M28 = zwI M20 b23 x2.toNatClampNeg (0 : Int32) → w_Y_notice_28 post n M28 a0 (x1 + (1 : Int32)) (x2 + (1 : Int32))) ∧ (¬ (zI M b9 x2.toNatClampNeg = 0) → w_Y_notice_28 post n M a0 x1 (x2 + (1 : Int32))))))
def w_Y_notice (M : zM) (a0 : Nat) (post : Int32 → zM → Prop) : Prop := zT M a0 = some (9, 40) ∧ ((zI M a0 36 = 0 → post (-1 : Int32) M) ∧ (¬ (zI M a0 36 = 0) → ((zI M a0 37 = 0 → ∀ M4, M4 = zwI M a0 37 (1 : Int32) → ∃ n30, w_Y_notice_28 post n30 M4 a0 (0 : Int32) (zI M4 a0 38)) ∧ (¬ (zI M a0 37 = 0) → post (-1 : Int32) M))))
def w_Y_cancel (M : zM) (a0 : Nat) (x1 : Int32) (post : Int32 → zM → Prop) : Prop := zT M a0 = some (9, 40) ∧ w_Y_within M x1 ((zI M a0 6) - (1 : Int32)) (fun r2 M3 => ((r2 = 0 → post (0 : Int32) M3) ∧ (¬ (r2 = 0) → zT M3 a0 = some (9, 40) ∧ ∃ b6, zR M3 a0 9 = some b6 ∧ ∃ n9, zT M3 b6 = some (20, n9) ∧ vp_in x1 n9 ∧ ((zI M3 b6 x1.toNatClampNeg = 0 → ∃ b12, zR M3 a0 9 = some b12 ∧ ∃ n15, zT M3 b12 = some (20, n15) ∧ vp_in x1 n15 ∧ ∀ M17, M17 = zwI M3 b12 x1.toNatClampNeg (6 : Int32) → ∃ b20, zR M17 a0 15 = some b20 ∧ ∃ n23, zT M17 b20 = some (20, n23) ∧ vp_in x1 n23 ∧ ∀ M25, M25 = zwI M17 b20 x1.toNatClampNeg (0 : Int32) → w_Y_tell M25 a0 (1 : Int32) x1 (fun M28 => post (1 : Int32) M28)) ∧ (¬ (zI M3 b6 x1.toNatClampNeg = 0) → post (0 : Int32) M3)))))
def w_Y_tick (M : zM) (a0 : Nat) (x1 : Int32) (post : Int32 → zM → Prop) : Prop := w_Y_within M x1 (1000 : Int32) (fun r1 M2 => ((r1 = 0 → post (0 : Int32) M2) ∧ (¬ (r1 = 0) → zT M2 a0 = some (9, 40) ∧ ∀ M5, M5 = zwI M2 a0 5 ((zI M2 a0 5) + x1) → post (1 : Int32) M5)))
def w_Y_outcome (M : zM) (a0 : Nat) (x1 : Int32) (post : Int32 → zM → Prop) : Prop := zT M a0 = some (9, 40) ∧ w_Y_within M x1 ((zI M a0 6) - (1 : Int32)) (fun r2 M3 => ((r2 = 0 → post (-1 : Int32) M3) ∧ (¬ (r2 = 0) → zT M3 a0 = some (9, 40) ∧ ∃ b6, zR M3 a0 9 = some b6 ∧ ∃ n9, zT M3 b6 = some (20, n9) ∧ vp_in x1 n9 ∧ post (zI M3 b6 x1.toNatClampNeg) M3)))
def w_Y_content (M : zM) (a0 : Nat) (x1 : Int32) (post : Int32 → zM → Prop) : Prop := zT M a0 = some (9, 40) ∧ w_Y_within M x1 ((zI M a0 6) - (1 : Int32)) (fun r2 M3 => ((r2 = 0 → post (-1 : Int32) M3) ∧ (¬ (r2 = 0) → zT M3 a0 = some (9, 40) ∧ ∃ b6, zR M3 a0 9 = some b6 ∧ ∃ n9, zT M3 b6 = some (20, n9) ∧ vp_in x1 n9 ∧ ((zI M3 b6 x1.toNatClampNeg = (1 : Int32) → ∃ b12, zR M3 a0 14 = some b12 ∧ ∃ n15, zT M3 b12 = some (20, n15) ∧ vp_in x1 n15 ∧ post (zI M3 b12 x1.toNatClampNeg) M3) ∧ (¬ (zI M3 b6 x1.toNatClampNeg = (1 : Int32)) → ((zI M3 b6 x1.toNatClampNeg = (2 : Int32) → ∃ b18, zR M3 a0 14 = some b18 ∧ ∃ n21, zT M3 b18 = some (20, n21) ∧ vp_in x1 n21 ∧ post (zI M3 b18 x1.toNatClampNeg) M3) ∧ (¬ (zI M3 b6 x1.toNatClampNeg = (2 : Int32)) → ((zI M3 b6 x1.toNatClampNeg = (8 : Int32) → ∃ b24, zR M3 a0 14 = some b24 ∧ ∃ n27, zT M3 b24 = some (20, n27) ∧ vp_in x1 n27 ∧ post (zI M3 b24 x1.toNatClampNeg) M3) ∧ (¬ (zI M3 b6 x1.toNatClampNeg = (8 : Int32)) → post (0 : Int32) M3)))))))))
def w_Y_stored (M : zM) (a0 : Nat) (x1 : Int32) (x2 : Int32) (post : Int32 → zM → Prop) : Prop := w_Y_within M x1 (5 : Int32) (fun r1 M2 => ((r1 = 0 → post (-1 : Int32) M2) ∧ (¬ (r1 = 0) → w_Y_within M2 x2 (3 : Int32) (fun r4 M5 => ((r4 = 0 → post (-1 : Int32) M5) ∧ (¬ (r4 = 0) → zT M5 a0 = some (9, 40) ∧ ∃ b8, zR M5 a0 21 = some b8 ∧ ∃ n11, zT M5 b8 = some (20, n11) ∧ vp_in x1 n11 ∧ ((0 ≤ zI M5 b8 x1.toNatClampNeg → ∃ b14, zR M5 a0 24 = some b14 ∧ ∃ n17, zT M5 b14 = some (20, n17) ∧ vp_in x1 n17 ∧ ∃ b19, zR M5 a0 25 = some b19 ∧ ∃ n22, zT M5 b19 = some (20, n22) ∧ vp_in x1 n22 ∧ ((x2 = 0 → ∃ b38, zR M5 a0 22 = some b38 ∧ ∃ n41, zT M5 b38 = some (20, n41) ∧ vp_in x1 n41 ∧ post (zI M5 b38 x1.toNatClampNeg) M5) ∧ (¬ (x2 = 0) → ((x2 = (1 : Int32) → ∃ b33, zR M5 a0 23 = some b33 ∧ ∃ n36, zT M5 b33 = some (20, n36) ∧ vp_in x1 n36 ∧ post (zI M5 b33 x1.toNatClampNeg) M5) ∧ (¬ (x2 = (1 : Int32)) → ((x2 = (2 : Int32) → ∃ b28, zR M5 a0 21 = some b28 ∧ ∃ n31, zT M5 b28 = some (20, n31) ∧ vp_in x1 n31 ∧ post (zI M5 b28 x1.toNatClampNeg) M5) ∧ (¬ (x2 = (2 : Int32)) → (((zI M5 b14 x1.toNatClampNeg) - ((zI M5 a0 5) - (zI M5 b19 x1.toNatClampNeg)) ≤ 0 → post (0 : Int32) M5) ∧ (¬ ((zI M5 b14 x1.toNatClampNeg) - ((zI M5 a0 5) - (zI M5 b19 x1.toNatClampNeg)) ≤ 0) → post ((zI M5 b14 x1.toNatClampNeg) - ((zI M5 a0 5) - (zI M5 b19 x1.toNatClampNeg))) M5))))))))) ∧ (¬ (0 ≤ zI M5 b8 x1.toNatClampNeg) → post (-1 : Int32) M5))))))))
def w_Y_entry (M : zM) (a0 : Nat) (x1 : Int32) (x2 : Int32) (post : Int32 → zM → Prop) : Prop := zT M a0 = some (9, 40) ∧ w_Y_oldest M a0 (fun r2 M3 => w_Y_within M3 x1 (((zI M a0 28) - r2) - (1 : Int32)) (fun r4 M5 => ((r4 = 0 → post (-1 : Int32) M5) ∧ (¬ (r4 = 0) → w_Y_within M5 x2 (2 : Int32) (fun r7 M8 => ((r7 = 0 → post (-1 : Int32) M8) ∧ (¬ (r7 = 0) → zT M8 a0 = some (9, 40) ∧ ((x2 = 0 → ∃ b20, zR M8 a0 26 = some b20 ∧ ∃ n23, zT M8 b20 = some (20, n23) ∧ vp_in (((zI M8 a0 28) - (1 : Int32)) - x1) n23 ∧ post (zI M8 b20 (((zI M8 a0 28) - (1 : Int32)) - x1).toNatClampNeg) M8) ∧ (¬ (x2 = 0) → ((x2 = (1 : Int32) → ∃ b15, zR M8 a0 27 = some b15 ∧ ∃ n18, zT M8 b15 = some (20, n18) ∧ vp_in (((zI M8 a0 28) - (1 : Int32)) - x1) n18 ∧ post (zI M8 b15 (((zI M8 a0 28) - (1 : Int32)) - x1).toNatClampNeg) M8) ∧ (¬ (x2 = (1 : Int32)) → w_Y_uses M8 a0 (((zI M8 a0 28) - (1 : Int32)) - x1) (-1 : Int32) (fun r13 M14 => post r13 M14))))))))))))
def w_Y_count_7 (post : Int32 → zM → Prop) : Nat → zM → Nat → Int32 → Int32 → Int32 → Int32 → Prop
  | 0, _, _, _, _, _, _ => False
  | n + 1, M, a0, x1, x2, x3, x4 => zT M a0 = some (9, 40) ∧ ((zI M a0 6 ≤ x4 → ((x1 = (0 : Int32) → post (zI M a0 28) M) ∧ (¬ (x1 = (0 : Int32)) → ((x1 = (1 : Int32) → w_Y_after M a0 (zI M a0 35) (fun r5 M6 => post r5 M6)) ∧ (¬ (x1 = (1 : Int32)) → ((x1 = (2 : Int32) → post (zI M a0 29) M) ∧ (¬ (x1 = (2 : Int32)) → ((x1 = (3 : Int32) → w_Y_after M a0 (zI M a0 34) (fun r9 M10 => post r9 M10)) ∧ (¬ (x1 = (3 : Int32)) → ((x1 = (4 : Int32) → post (zI M a0 30) M) ∧ (¬ (x1 = (4 : Int32)) → ((x1 = (5 : Int32) → post (zI M a0 31) M) ∧ (¬ (x1 = (5 : Int32)) → ((x1 = (6 : Int32) → post x3 M) ∧ (¬ (x1 = (6 : Int32)) → ((x1 = (7 : Int32) → w_Y_after M a0 (zI M a0 35) (fun r15 M16 => zT M16 a0 = some (9, 40) ∧ w_Y_risky M16 a0 r15 (-1 : Int32) (fun r18 M19 => post r18 M19))) ∧ (¬ (x1 = (7 : Int32)) → ((x1 = (8 : Int32) → post x2 M) ∧ (¬ (x1 = (8 : Int32)) → post (-1 : Int32) M))))))))))))))))))) ∧ (¬ (zI M a0 6 ≤ x4) → ∃ b21, zR M a0 15 = some b21 ∧ ∃ n24, zT M b21 = some (20, n24) ∧ vp_in x4 n24 ∧ ((zI M b21 x4.toNatClampNeg = (3 : Int32) → w_Y_outstanding M a0 x4 (fun r30 M31 => ((r30 = 0 → w_Y_count_7 post n M31 a0 x1 (x2 + (1 : Int32)) x3 (x4 + (1 : Int32))) ∧ (¬ (r30 = 0) → w_Y_count_7 post n M31 a0 x1 (x2 + (1 : Int32)) (x3 + (1 : Int32)) (x4 + (1 : Int32)))))) ∧ (¬ (zI M b21 x4.toNatClampNeg = (3 : Int32)) → w_Y_outstanding M a0 x4 (fun r27 M28 => ((r27 = 0 → w_Y_count_7 post n M28 a0 x1 x2 x3 (x4 + (1 : Int32))) ∧ (¬ (r27 = 0) → w_Y_count_7 post n M28 a0 x1 x2 (x3 + (1 : Int32)) (x4 + (1 : Int32)))))))))
def w_Y_count (M : zM) (a0 : Nat) (x1 : Int32) (post : Int32 → zM → Prop) : Prop := ∃ n33, w_Y_count_7 post n33 M a0 x1 (0 : Int32) (0 : Int32) (0 : Int32)
end
section
theorem d_A_init_0 : decode prog_2_method_1_code 0 = .ok (.aload_n 0, 1) := by decide +kernel
theorem d_A_init_1 : decode prog_2_method_1_code 1 = .ok (.invokespecial 3, 3) := by decide +kernel
theorem d_A_init_4 : decode prog_2_method_1_code 4 = .ok (.aload_n 0, 1) := by decide +kernel
theorem d_A_init_5 : decode prog_2_method_1_code 5 = .ok (.iload_n 1, 1) := by decide +kernel
theorem d_A_init_6 : decode prog_2_method_1_code 6 = .ok (.putfield 9, 3) := by decide +kernel
theorem d_A_init_9 : decode prog_2_method_1_code 9 = .ok (.aload_n 0, 1) := by decide +kernel
theorem d_A_init_10 : decode prog_2_method_1_code 10 = .ok (.iconst 3, 1) := by decide +kernel
theorem d_A_init_11 : decode prog_2_method_1_code 11 = .ok (.newarray .int, 2) := by decide +kernel
theorem d_A_init_13 : decode prog_2_method_1_code 13 = .ok (.putfield 15, 3) := by decide +kernel
theorem d_A_init_16 : decode prog_2_method_1_code 16 = .ok (.aload_n 0, 1) := by decide +kernel
theorem d_A_init_17 : decode prog_2_method_1_code 17 = .ok (.iconst 1, 1) := by decide +kernel
theorem d_A_init_18 : decode prog_2_method_1_code 18 = .ok (.putfield 19, 3) := by decide +kernel
theorem d_A_init_21 : decode prog_2_method_1_code 21 = .ok (.return_, 1) := by decide +kernel
theorem d_A_addReference_0 : decode prog_2_method_2_code 0 = .ok (.aload_n 0, 1) := by decide +kernel
theorem d_A_addReference_1 : decode prog_2_method_2_code 1 = .ok (.getfield 23, 3) := by decide +kernel
theorem d_A_addReference_4 : decode prog_2_method_2_code 4 = .ok (.aload_n 0, 1) := by decide +kernel
theorem d_A_addReference_5 : decode prog_2_method_2_code 5 = .ok (.getfield 15, 3) := by decide +kernel
theorem d_A_addReference_8 : decode prog_2_method_2_code 8 = .ok (.arraylength, 1) := by decide +kernel
theorem d_A_addReference_9 : decode prog_2_method_2_code 9 = .ok (.if_icmp .lt 4, 3) := by decide +kernel
theorem d_A_addReference_12 : decode prog_2_method_2_code 12 = .ok (.return_, 1) := by decide +kernel
theorem d_A_addReference_13 : decode prog_2_method_2_code 13 = .ok (.aload_n 0, 1) := by decide +kernel
theorem d_A_addReference_14 : decode prog_2_method_2_code 14 = .ok (.getfield 15, 3) := by decide +kernel
theorem d_A_addReference_17 : decode prog_2_method_2_code 17 = .ok (.aload_n 0, 1) := by decide +kernel
theorem d_A_addReference_18 : decode prog_2_method_2_code 18 = .ok (.getfield 23, 3) := by decide +kernel
theorem d_A_addReference_21 : decode prog_2_method_2_code 21 = .ok (.iload_n 1, 1) := by decide +kernel
theorem d_A_addReference_22 : decode prog_2_method_2_code 22 = .ok (.iastore, 1) := by decide +kernel
theorem d_A_addReference_23 : decode prog_2_method_2_code 23 = .ok (.aload_n 0, 1) := by decide +kernel
theorem d_A_addReference_24 : decode prog_2_method_2_code 24 = .ok (.dup, 1) := by decide +kernel
theorem d_A_addReference_25 : decode prog_2_method_2_code 25 = .ok (.getfield 23, 3) := by decide +kernel
theorem d_A_addReference_28 : decode prog_2_method_2_code 28 = .ok (.iconst 1, 1) := by decide +kernel
theorem d_A_addReference_29 : decode prog_2_method_2_code 29 = .ok (.iadd, 1) := by decide +kernel
theorem d_A_addReference_30 : decode prog_2_method_2_code 30 = .ok (.putfield 23, 3) := by decide +kernel
theorem d_A_addReference_33 : decode prog_2_method_2_code 33 = .ok (.aload_n 0, 1) := by decide +kernel
theorem d_A_addReference_34 : decode prog_2_method_2_code 34 = .ok (.aload_n 0, 1) := by decide +kernel
theorem d_A_addReference_35 : decode prog_2_method_2_code 35 = .ok (.getfield 26, 3) := by decide +kernel
theorem d_A_addReference_38 : decode prog_2_method_2_code 38 = .ok (.iload_n 1, 1) := by decide +kernel
theorem d_A_addReference_39 : decode prog_2_method_2_code 39 = .ok (.iconst 1, 1) := by decide +kernel
theorem d_A_addReference_40 : decode prog_2_method_2_code 40 = .ok (.iadd, 1) := by decide +kernel
theorem d_A_addReference_41 : decode prog_2_method_2_code 41 = .ok (.invokestatic 29, 3) := by decide +kernel
theorem d_A_addReference_44 : decode prog_2_method_2_code 44 = .ok (.putfield 26, 3) := by decide +kernel
theorem d_A_addReference_47 : decode prog_2_method_2_code 47 = .ok (.return_, 1) := by decide +kernel
theorem d_A_refersTo_0 : decode prog_2_method_3_code 0 = .ok (.iconst 0, 1) := by decide +kernel
theorem d_A_refersTo_1 : decode prog_2_method_3_code 1 = .ok (.istore_n 2, 1) := by decide +kernel
theorem d_A_refersTo_2 : decode prog_2_method_3_code 2 = .ok (.iload_n 2, 1) := by decide +kernel
theorem d_A_refersTo_3 : decode prog_2_method_3_code 3 = .ok (.aload_n 0, 1) := by decide +kernel
theorem d_A_refersTo_4 : decode prog_2_method_3_code 4 = .ok (.getfield 23, 3) := by decide +kernel
theorem d_A_refersTo_7 : decode prog_2_method_3_code 7 = .ok (.if_icmp .ge 30, 3) := by decide +kernel
theorem d_A_refersTo_10 : decode prog_2_method_3_code 10 = .ok (.iload_n 2, 1) := by decide +kernel
theorem d_A_refersTo_11 : decode prog_2_method_3_code 11 = .ok (.aload_n 0, 1) := by decide +kernel
theorem d_A_refersTo_12 : decode prog_2_method_3_code 12 = .ok (.getfield 15, 3) := by decide +kernel
theorem d_A_refersTo_15 : decode prog_2_method_3_code 15 = .ok (.arraylength, 1) := by decide +kernel
theorem d_A_refersTo_16 : decode prog_2_method_3_code 16 = .ok (.if_icmp .ge 21, 3) := by decide +kernel
theorem d_A_refersTo_19 : decode prog_2_method_3_code 19 = .ok (.aload_n 0, 1) := by decide +kernel
theorem d_A_refersTo_20 : decode prog_2_method_3_code 20 = .ok (.getfield 15, 3) := by decide +kernel
theorem d_A_refersTo_23 : decode prog_2_method_3_code 23 = .ok (.iload_n 2, 1) := by decide +kernel
theorem d_A_refersTo_24 : decode prog_2_method_3_code 24 = .ok (.iaload, 1) := by decide +kernel
theorem d_A_refersTo_25 : decode prog_2_method_3_code 25 = .ok (.iload_n 1, 1) := by decide +kernel
theorem d_A_refersTo_26 : decode prog_2_method_3_code 26 = .ok (.if_icmp .ne 5, 3) := by decide +kernel
theorem d_A_refersTo_29 : decode prog_2_method_3_code 29 = .ok (.iconst 1, 1) := by decide +kernel
theorem d_A_refersTo_30 : decode prog_2_method_3_code 30 = .ok (.ireturn, 1) := by decide +kernel
theorem d_A_refersTo_31 : decode prog_2_method_3_code 31 = .ok (.iinc 2 1, 3) := by decide +kernel
theorem d_A_refersTo_34 : decode prog_2_method_3_code 34 = .ok (.goto (-32), 3) := by decide +kernel
theorem d_A_refersTo_37 : decode prog_2_method_3_code 37 = .ok (.iconst 0, 1) := by decide +kernel
theorem d_A_refersTo_38 : decode prog_2_method_3_code 38 = .ok (.ireturn, 1) := by decide +kernel
theorem d_K_init_0 : decode prog_8_method_1_code 0 = .ok (.aload_n 0, 1) := by decide +kernel
theorem d_K_init_1 : decode prog_8_method_1_code 1 = .ok (.invokespecial 1, 3) := by decide +kernel
theorem d_K_init_4 : decode prog_8_method_1_code 4 = .ok (.return_, 1) := by decide +kernel
theorem d_K_isFresh_0 : decode prog_8_method_2_code 0 = .ok (.aload_n 0, 1) := by decide +kernel
theorem d_K_isFresh_1 : decode prog_8_method_2_code 1 = .ok (.getfield 7, 3) := by decide +kernel
theorem d_K_isFresh_4 : decode prog_8_method_2_code 4 = .ok (.ifCond .eq 20, 3) := by decide +kernel
theorem d_K_isFresh_7 : decode prog_8_method_2_code 7 = .ok (.iload_n 1, 1) := by decide +kernel
theorem d_K_isFresh_8 : decode prog_8_method_2_code 8 = .ok (.aload_n 0, 1) := by decide +kernel
theorem d_K_isFresh_9 : decode prog_8_method_2_code 9 = .ok (.getfield 13, 3) := by decide +kernel
theorem d_K_isFresh_12 : decode prog_8_method_2_code 12 = .ok (.isub, 1) := by decide +kernel
theorem d_K_isFresh_13 : decode prog_8_method_2_code 13 = .ok (.aload_n 0, 1) := by decide +kernel
theorem d_K_isFresh_14 : decode prog_8_method_2_code 14 = .ok (.getfield 17, 3) := by decide +kernel
theorem d_K_isFresh_17 : decode prog_8_method_2_code 17 = .ok (.if_icmp .ge 7, 3) := by decide +kernel
theorem d_K_isFresh_20 : decode prog_8_method_2_code 20 = .ok (.iconst 1, 1) := by decide +kernel
theorem d_K_isFresh_21 : decode prog_8_method_2_code 21 = .ok (.goto 4, 3) := by decide +kernel
theorem d_K_isFresh_24 : decode prog_8_method_2_code 24 = .ok (.iconst 0, 1) := by decide +kernel
theorem d_K_isFresh_25 : decode prog_8_method_2_code 25 = .ok (.ireturn, 1) := by decide +kernel
theorem d_K_forgetIfOlderThan_0 : decode prog_8_method_4_code 0 = .ok (.aload_n 0, 1) := by decide +kernel
theorem d_K_forgetIfOlderThan_1 : decode prog_8_method_4_code 1 = .ok (.getfield 24, 3) := by decide +kernel
theorem d_K_forgetIfOlderThan_4 : decode prog_8_method_4_code 4 = .ok (.iload_n 1, 1) := by decide +kernel
theorem d_K_forgetIfOlderThan_5 : decode prog_8_method_4_code 5 = .ok (.if_icmp .ge 8, 3) := by decide +kernel
theorem d_K_forgetIfOlderThan_8 : decode prog_8_method_4_code 8 = .ok (.aload_n 0, 1) := by decide +kernel
theorem d_K_forgetIfOlderThan_9 : decode prog_8_method_4_code 9 = .ok (.iconst 0, 1) := by decide +kernel
theorem d_K_forgetIfOlderThan_10 : decode prog_8_method_4_code 10 = .ok (.putfield 7, 3) := by decide +kernel
theorem d_K_forgetIfOlderThan_13 : decode prog_8_method_4_code 13 = .ok (.return_, 1) := by decide +kernel
theorem d_K_freshFor_0 : decode prog_8_method_3_code 0 = .ok (.aload_n 0, 1) := by decide +kernel
theorem d_K_freshFor_1 : decode prog_8_method_3_code 1 = .ok (.iload_n 1, 1) := by decide +kernel
theorem d_K_freshFor_2 : decode prog_8_method_3_code 2 = .ok (.invokevirtual 20, 3) := by decide +kernel
theorem d_K_freshFor_5 : decode prog_8_method_3_code 5 = .ok (.ifCond .eq 17, 3) := by decide +kernel
theorem d_K_freshFor_8 : decode prog_8_method_3_code 8 = .ok (.aload_n 0, 1) := by decide +kernel
theorem d_K_freshFor_9 : decode prog_8_method_3_code 9 = .ok (.getfield 17, 3) := by decide +kernel
theorem d_K_freshFor_12 : decode prog_8_method_3_code 12 = .ok (.iload_n 1, 1) := by decide +kernel
theorem d_K_freshFor_13 : decode prog_8_method_3_code 13 = .ok (.aload_n 0, 1) := by decide +kernel
theorem d_K_freshFor_14 : decode prog_8_method_3_code 14 = .ok (.getfield 13, 3) := by decide +kernel
theorem d_K_freshFor_17 : decode prog_8_method_3_code 17 = .ok (.isub, 1) := by decide +kernel
theorem d_K_freshFor_18 : decode prog_8_method_3_code 18 = .ok (.isub, 1) := by decide +kernel
theorem d_K_freshFor_19 : decode prog_8_method_3_code 19 = .ok (.goto 4, 3) := by decide +kernel
theorem d_K_freshFor_22 : decode prog_8_method_3_code 22 = .ok (.iconst 0, 1) := by decide +kernel
theorem d_K_freshFor_23 : decode prog_8_method_3_code 23 = .ok (.ireturn, 1) := by decide +kernel
theorem d_C_init_0 : decode prog_3_method_1_code 0 = .ok (.aload_n 0, 1) := by decide +kernel
theorem d_C_init_1 : decode prog_3_method_1_code 1 = .ok (.invokespecial 3, 3) := by decide +kernel
theorem d_C_init_4 : decode prog_3_method_1_code 4 = .ok (.aload_n 0, 1) := by decide +kernel
theorem d_C_init_5 : decode prog_3_method_1_code 5 = .ok (.bipush 6, 2) := by decide +kernel
theorem d_C_init_7 : decode prog_3_method_1_code 7 = .ok (.anewarray 9, 3) := by decide +kernel
theorem d_C_init_10 : decode prog_3_method_1_code 10 = .ok (.putfield 11, 3) := by decide +kernel
theorem d_C_init_13 : decode prog_3_method_1_code 13 = .ok (.iconst 0, 1) := by decide +kernel
theorem d_C_init_14 : decode prog_3_method_1_code 14 = .ok (.istore_n 1, 1) := by decide +kernel
theorem d_C_init_15 : decode prog_3_method_1_code 15 = .ok (.iload_n 1, 1) := by decide +kernel
theorem d_C_init_16 : decode prog_3_method_1_code 16 = .ok (.aload_n 0, 1) := by decide +kernel
theorem d_C_init_17 : decode prog_3_method_1_code 17 = .ok (.getfield 11, 3) := by decide +kernel
theorem d_C_init_20 : decode prog_3_method_1_code 20 = .ok (.arraylength, 1) := by decide +kernel
theorem d_C_init_21 : decode prog_3_method_1_code 21 = .ok (.if_icmp .ge 22, 3) := by decide +kernel
theorem d_C_init_24 : decode prog_3_method_1_code 24 = .ok (.aload_n 0, 1) := by decide +kernel
theorem d_C_init_25 : decode prog_3_method_1_code 25 = .ok (.getfield 11, 3) := by decide +kernel
theorem d_C_init_28 : decode prog_3_method_1_code 28 = .ok (.iload_n 1, 1) := by decide +kernel
theorem d_C_init_29 : decode prog_3_method_1_code 29 = .ok (.new 9, 3) := by decide +kernel
theorem d_C_init_32 : decode prog_3_method_1_code 32 = .ok (.dup, 1) := by decide +kernel
theorem d_C_init_33 : decode prog_3_method_1_code 33 = .ok (.invokespecial 17, 3) := by decide +kernel
theorem d_C_init_36 : decode prog_3_method_1_code 36 = .ok (.aastore, 1) := by decide +kernel
theorem d_C_init_37 : decode prog_3_method_1_code 37 = .ok (.iinc 1 1, 3) := by decide +kernel
theorem d_C_init_40 : decode prog_3_method_1_code 40 = .ok (.goto (-25), 3) := by decide +kernel
theorem d_C_init_43 : decode prog_3_method_1_code 43 = .ok (.return_, 1) := by decide +kernel
theorem d_C_storedAt_0 : decode prog_3_method_2_code 0 = .ok (.iload_n 1, 1) := by decide +kernel
theorem d_C_storedAt_1 : decode prog_3_method_2_code 1 = .ok (.ifCond .lt 21, 3) := by decide +kernel
theorem d_C_storedAt_4 : decode prog_3_method_2_code 4 = .ok (.iload_n 1, 1) := by decide +kernel
theorem d_C_storedAt_5 : decode prog_3_method_2_code 5 = .ok (.aload_n 0, 1) := by decide +kernel
theorem d_C_storedAt_6 : decode prog_3_method_2_code 6 = .ok (.getfield 11, 3) := by decide +kernel
theorem d_C_storedAt_9 : decode prog_3_method_2_code 9 = .ok (.arraylength, 1) := by decide +kernel
theorem d_C_storedAt_10 : decode prog_3_method_2_code 10 = .ok (.if_icmp .ge 12, 3) := by decide +kernel
theorem d_C_storedAt_13 : decode prog_3_method_2_code 13 = .ok (.aload_n 0, 1) := by decide +kernel
theorem d_C_storedAt_14 : decode prog_3_method_2_code 14 = .ok (.getfield 11, 3) := by decide +kernel
theorem d_C_storedAt_17 : decode prog_3_method_2_code 17 = .ok (.iload_n 1, 1) := by decide +kernel
theorem d_C_storedAt_18 : decode prog_3_method_2_code 18 = .ok (.aaload, 1) := by decide +kernel
theorem d_C_storedAt_19 : decode prog_3_method_2_code 19 = .ok (.goto 4, 3) := by decide +kernel
theorem d_C_storedAt_22 : decode prog_3_method_2_code 22 = .ok (.aconst_null, 1) := by decide +kernel
theorem d_C_storedAt_23 : decode prog_3_method_2_code 23 = .ok (.areturn, 1) := by decide +kernel
theorem d_C_begin_0 : decode prog_3_method_3_code 0 = .ok (.aload_n 1, 1) := by decide +kernel
theorem d_C_begin_1 : decode prog_3_method_3_code 1 = .ok (.getfield 18, 3) := by decide +kernel
theorem d_C_begin_4 : decode prog_3_method_3_code 4 = .ok (.ifCond .ne 22, 3) := by decide +kernel
theorem d_C_begin_7 : decode prog_3_method_3_code 7 = .ok (.aload_n 2, 1) := by decide +kernel
theorem d_C_begin_8 : decode prog_3_method_3_code 8 = .ok (.iload_n 3, 1) := by decide +kernel
theorem d_C_begin_9 : decode prog_3_method_3_code 9 = .ok (.invokevirtual 24, 3) := by decide +kernel
theorem d_C_begin_12 : decode prog_3_method_3_code 12 = .ok (.ifCond .eq 14, 3) := by decide +kernel
theorem d_C_begin_15 : decode prog_3_method_3_code 15 = .ok (.aload_n 1, 1) := by decide +kernel
theorem d_C_begin_16 : decode prog_3_method_3_code 16 = .ok (.bipush 8, 2) := by decide +kernel
theorem d_C_begin_18 : decode prog_3_method_3_code 18 = .ok (.aload_n 2, 1) := by decide +kernel
theorem d_C_begin_19 : decode prog_3_method_3_code 19 = .ok (.getfield 28, 3) := by decide +kernel
theorem d_C_begin_22 : decode prog_3_method_3_code 22 = .ok (.invokevirtual 32, 3) := by decide +kernel
theorem d_C_begin_25 : decode prog_3_method_3_code 25 = .ok (.return_, 1) := by decide +kernel
theorem d_C_begin_26 : decode prog_3_method_3_code 26 = .ok (.aload_n 0, 1) := by decide +kernel
theorem d_C_begin_27 : decode prog_3_method_3_code 27 = .ok (.getfield 36, 3) := by decide +kernel
theorem d_C_begin_30 : decode prog_3_method_3_code 30 = .ok (.ifCond .eq 11, 3) := by decide +kernel
theorem d_C_begin_33 : decode prog_3_method_3_code 33 = .ok (.aload_n 1, 1) := by decide +kernel
theorem d_C_begin_34 : decode prog_3_method_3_code 34 = .ok (.bipush 7, 2) := by decide +kernel
theorem d_C_begin_36 : decode prog_3_method_3_code 36 = .ok (.iconst 0, 1) := by decide +kernel
theorem d_C_begin_37 : decode prog_3_method_3_code 37 = .ok (.invokevirtual 32, 3) := by decide +kernel
theorem d_C_begin_40 : decode prog_3_method_3_code 40 = .ok (.return_, 1) := by decide +kernel
theorem d_C_begin_41 : decode prog_3_method_3_code 41 = .ok (.aload_n 1, 1) := by decide +kernel
theorem d_C_begin_42 : decode prog_3_method_3_code 42 = .ok (.iload_n 3, 1) := by decide +kernel
theorem d_C_begin_43 : decode prog_3_method_3_code 43 = .ok (.putfield 39, 3) := by decide +kernel
theorem d_C_begin_46 : decode prog_3_method_3_code 46 = .ok (.aload_n 1, 1) := by decide +kernel
theorem d_C_begin_47 : decode prog_3_method_3_code 47 = .ok (.iconst 1, 1) := by decide +kernel
theorem d_C_begin_48 : decode prog_3_method_3_code 48 = .ok (.putfield 42, 3) := by decide +kernel
theorem d_C_begin_51 : decode prog_3_method_3_code 51 = .ok (.aload_n 2, 1) := by decide +kernel
theorem d_C_begin_52 : decode prog_3_method_3_code 52 = .ok (.getfield 45, 3) := by decide +kernel
theorem d_C_begin_55 : decode prog_3_method_3_code 55 = .ok (.ifCond .eq 19, 3) := by decide +kernel
theorem d_C_begin_58 : decode prog_3_method_3_code 58 = .ok (.aload_n 1, 1) := by decide +kernel
theorem d_C_begin_59 : decode prog_3_method_3_code 59 = .ok (.aload_n 2, 1) := by decide +kernel
theorem d_C_begin_60 : decode prog_3_method_3_code 60 = .ok (.getfield 48, 3) := by decide +kernel
theorem d_C_begin_63 : decode prog_3_method_3_code 63 = .ok (.putfield 51, 3) := by decide +kernel
theorem d_C_begin_66 : decode prog_3_method_3_code 66 = .ok (.aload_n 1, 1) := by decide +kernel
theorem d_C_begin_67 : decode prog_3_method_3_code 67 = .ok (.aload_n 2, 1) := by decide +kernel
theorem d_C_begin_68 : decode prog_3_method_3_code 68 = .ok (.getfield 28, 3) := by decide +kernel
theorem d_C_begin_71 : decode prog_3_method_3_code 71 = .ok (.putfield 52, 3) := by decide +kernel
theorem d_C_begin_74 : decode prog_3_method_3_code 74 = .ok (.return_, 1) := by decide +kernel
theorem d_C_mustWaitFor_0 : decode prog_3_method_4_code 0 = .ok (.aload_n 1, 1) := by decide +kernel
theorem d_C_mustWaitFor_1 : decode prog_3_method_4_code 1 = .ok (.getfield 55, 3) := by decide +kernel
theorem d_C_mustWaitFor_4 : decode prog_3_method_4_code 4 = .ok (.aload_n 0, 1) := by decide +kernel
theorem d_C_mustWaitFor_5 : decode prog_3_method_4_code 5 = .ok (.getfield 60, 3) := by decide +kernel
theorem d_C_mustWaitFor_8 : decode prog_3_method_4_code 8 = .ok (.if_icmp .le 7, 3) := by decide +kernel
theorem d_C_mustWaitFor_11 : decode prog_3_method_4_code 11 = .ok (.iconst 1, 1) := by decide +kernel
theorem d_C_mustWaitFor_12 : decode prog_3_method_4_code 12 = .ok (.goto 4, 3) := by decide +kernel
theorem d_C_mustWaitFor_15 : decode prog_3_method_4_code 15 = .ok (.iconst 0, 1) := by decide +kernel
theorem d_C_mustWaitFor_16 : decode prog_3_method_4_code 16 = .ok (.ireturn, 1) := by decide +kernel
theorem d_C_store_0 : decode prog_3_method_6_code 0 = .ok (.aload_n 1, 1) := by decide +kernel
theorem d_C_store_1 : decode prog_3_method_6_code 1 = .ok (.getfield 45, 3) := by decide +kernel
theorem d_C_store_4 : decode prog_3_method_6_code 4 = .ok (.ifCond .eq 15, 3) := by decide +kernel
theorem d_C_store_7 : decode prog_3_method_6_code 7 = .ok (.aload_n 1, 1) := by decide +kernel
theorem d_C_store_8 : decode prog_3_method_6_code 8 = .ok (.getfield 92, 3) := by decide +kernel
theorem d_C_store_11 : decode prog_3_method_6_code 11 = .ok (.aload_n 2, 1) := by decide +kernel
theorem d_C_store_12 : decode prog_3_method_6_code 12 = .ok (.getfield 73, 3) := by decide +kernel
theorem d_C_store_15 : decode prog_3_method_6_code 15 = .ok (.if_icmp .lt 4, 3) := by decide +kernel
theorem d_C_store_18 : decode prog_3_method_6_code 18 = .ok (.return_, 1) := by decide +kernel
theorem d_C_store_19 : decode prog_3_method_6_code 19 = .ok (.aload_n 1, 1) := by decide +kernel
theorem d_C_store_20 : decode prog_3_method_6_code 20 = .ok (.iconst 1, 1) := by decide +kernel
theorem d_C_store_21 : decode prog_3_method_6_code 21 = .ok (.putfield 45, 3) := by decide +kernel
theorem d_C_store_24 : decode prog_3_method_6_code 24 = .ok (.aload_n 1, 1) := by decide +kernel
theorem d_C_store_25 : decode prog_3_method_6_code 25 = .ok (.aload_n 3, 1) := by decide +kernel
theorem d_C_store_26 : decode prog_3_method_6_code 26 = .ok (.getfield 95, 3) := by decide +kernel
theorem d_C_store_29 : decode prog_3_method_6_code 29 = .ok (.putfield 48, 3) := by decide +kernel
theorem d_C_store_32 : decode prog_3_method_6_code 32 = .ok (.aload_n 1, 1) := by decide +kernel
theorem d_C_store_33 : decode prog_3_method_6_code 33 = .ok (.aload_n 3, 1) := by decide +kernel
theorem d_C_store_34 : decode prog_3_method_6_code 34 = .ok (.getfield 80, 3) := by decide +kernel
theorem d_C_store_37 : decode prog_3_method_6_code 37 = .ok (.putfield 28, 3) := by decide +kernel
theorem d_C_store_40 : decode prog_3_method_6_code 40 = .ok (.aload_n 1, 1) := by decide +kernel
theorem d_C_store_41 : decode prog_3_method_6_code 41 = .ok (.aload_n 3, 1) := by decide +kernel
theorem d_C_store_42 : decode prog_3_method_6_code 42 = .ok (.getfield 96, 3) := by decide +kernel
theorem d_C_store_45 : decode prog_3_method_6_code 45 = .ok (.putfield 99, 3) := by decide +kernel
theorem d_C_store_48 : decode prog_3_method_6_code 48 = .ok (.aload_n 1, 1) := by decide +kernel
theorem d_C_store_49 : decode prog_3_method_6_code 49 = .ok (.aload_n 2, 1) := by decide +kernel
theorem d_C_store_50 : decode prog_3_method_6_code 50 = .ok (.getfield 39, 3) := by decide +kernel
theorem d_C_store_53 : decode prog_3_method_6_code 53 = .ok (.putfield 100, 3) := by decide +kernel
theorem d_C_store_56 : decode prog_3_method_6_code 56 = .ok (.aload_n 1, 1) := by decide +kernel
theorem d_C_store_57 : decode prog_3_method_6_code 57 = .ok (.aload_n 2, 1) := by decide +kernel
theorem d_C_store_58 : decode prog_3_method_6_code 58 = .ok (.getfield 73, 3) := by decide +kernel
theorem d_C_store_61 : decode prog_3_method_6_code 61 = .ok (.putfield 92, 3) := by decide +kernel
theorem d_C_store_64 : decode prog_3_method_6_code 64 = .ok (.return_, 1) := by decide +kernel
theorem d_C_renew_0 : decode prog_3_method_7_code 0 = .ok (.aload_n 1, 1) := by decide +kernel
theorem d_C_renew_1 : decode prog_3_method_7_code 1 = .ok (.getfield 45, 3) := by decide +kernel
theorem d_C_renew_4 : decode prog_3_method_7_code 4 = .ok (.ifCond .eq 25, 3) := by decide +kernel
theorem d_C_renew_7 : decode prog_3_method_7_code 7 = .ok (.aload_n 1, 1) := by decide +kernel
theorem d_C_renew_8 : decode prog_3_method_7_code 8 = .ok (.getfield 48, 3) := by decide +kernel
theorem d_C_renew_11 : decode prog_3_method_7_code 11 = .ok (.aload_n 3, 1) := by decide +kernel
theorem d_C_renew_12 : decode prog_3_method_7_code 12 = .ok (.getfield 95, 3) := by decide +kernel
theorem d_C_renew_15 : decode prog_3_method_7_code 15 = .ok (.if_icmp .ne 14, 3) := by decide +kernel
theorem d_C_renew_18 : decode prog_3_method_7_code 18 = .ok (.aload_n 1, 1) := by decide +kernel
theorem d_C_renew_19 : decode prog_3_method_7_code 19 = .ok (.getfield 92, 3) := by decide +kernel
theorem d_C_renew_22 : decode prog_3_method_7_code 22 = .ok (.aload_n 2, 1) := by decide +kernel
theorem d_C_renew_23 : decode prog_3_method_7_code 23 = .ok (.getfield 73, 3) := by decide +kernel
theorem d_C_renew_26 : decode prog_3_method_7_code 26 = .ok (.if_icmp .lt 4, 3) := by decide +kernel
theorem d_C_renew_29 : decode prog_3_method_7_code 29 = .ok (.return_, 1) := by decide +kernel
theorem d_C_renew_30 : decode prog_3_method_7_code 30 = .ok (.aload_n 1, 1) := by decide +kernel
theorem d_C_renew_31 : decode prog_3_method_7_code 31 = .ok (.aload_n 3, 1) := by decide +kernel
theorem d_C_renew_32 : decode prog_3_method_7_code 32 = .ok (.getfield 96, 3) := by decide +kernel
theorem d_C_renew_35 : decode prog_3_method_7_code 35 = .ok (.putfield 99, 3) := by decide +kernel
theorem d_C_renew_38 : decode prog_3_method_7_code 38 = .ok (.aload_n 1, 1) := by decide +kernel
theorem d_C_renew_39 : decode prog_3_method_7_code 39 = .ok (.aload_n 2, 1) := by decide +kernel
theorem d_C_renew_40 : decode prog_3_method_7_code 40 = .ok (.getfield 39, 3) := by decide +kernel
theorem d_C_renew_43 : decode prog_3_method_7_code 43 = .ok (.putfield 100, 3) := by decide +kernel
theorem d_C_renew_46 : decode prog_3_method_7_code 46 = .ok (.aload_n 1, 1) := by decide +kernel
theorem d_C_renew_47 : decode prog_3_method_7_code 47 = .ok (.aload_n 2, 1) := by decide +kernel
theorem d_C_renew_48 : decode prog_3_method_7_code 48 = .ok (.getfield 73, 3) := by decide +kernel
theorem d_C_renew_51 : decode prog_3_method_7_code 51 = .ok (.putfield 92, 3) := by decide +kernel
theorem d_C_renew_54 : decode prog_3_method_7_code 54 = .ok (.return_, 1) := by decide +kernel
theorem d_C_acknowledge_0 : decode prog_3_method_8_code 0 = .ok (.aload_n 2, 1) := by decide +kernel
theorem d_C_acknowledge_1 : decode prog_3_method_8_code 1 = .ok (.getfield 55, 3) := by decide +kernel
theorem d_C_acknowledge_4 : decode prog_3_method_8_code 4 = .ok (.ifCond .ne 4, 3) := by decide +kernel
theorem d_C_acknowledge_7 : decode prog_3_method_8_code 7 = .ok (.return_, 1) := by decide +kernel
theorem d_C_acknowledge_8 : decode prog_3_method_8_code 8 = .ok (.aload_n 3, 1) := by decide +kernel
theorem d_C_acknowledge_9 : decode prog_3_method_8_code 9 = .ok (.iconst 0, 1) := by decide +kernel
theorem d_C_acknowledge_10 : decode prog_3_method_8_code 10 = .ok (.aload_n 1, 1) := by decide +kernel
theorem d_C_acknowledge_11 : decode prog_3_method_8_code 11 = .ok (.getfield 73, 3) := by decide +kernel
theorem d_C_acknowledge_14 : decode prog_3_method_8_code 14 = .ok (.invokevirtual 103, 3) := by decide +kernel
theorem d_C_acknowledge_17 : decode prog_3_method_8_code 17 = .ok (.aload_n 0, 1) := by decide +kernel
theorem d_C_acknowledge_18 : decode prog_3_method_8_code 18 = .ok (.aload_n 0, 1) := by decide +kernel
theorem d_C_acknowledge_19 : decode prog_3_method_8_code 19 = .ok (.getfield 108, 3) := by decide +kernel
theorem d_C_acknowledge_22 : decode prog_3_method_8_code 22 = .ok (.aload_n 2, 1) := by decide +kernel
theorem d_C_acknowledge_23 : decode prog_3_method_8_code 23 = .ok (.getfield 55, 3) := by decide +kernel
theorem d_C_acknowledge_26 : decode prog_3_method_8_code 26 = .ok (.invokestatic 111, 3) := by decide +kernel
theorem d_C_acknowledge_29 : decode prog_3_method_8_code 29 = .ok (.putfield 108, 3) := by decide +kernel
theorem d_C_acknowledge_32 : decode prog_3_method_8_code 32 = .ok (.return_, 1) := by decide +kernel
theorem d_C_read_0 : decode prog_3_method_5_code 0 = .ok (.aload_n 0, 1) := by decide +kernel
theorem d_C_read_1 : decode prog_3_method_5_code 1 = .ok (.aload_n 1, 1) := by decide +kernel
theorem d_C_read_2 : decode prog_3_method_5_code 2 = .ok (.getfield 63, 3) := by decide +kernel
theorem d_C_read_5 : decode prog_3_method_5_code 5 = .ok (.invokevirtual 66, 3) := by decide +kernel
theorem d_C_read_8 : decode prog_3_method_5_code 8 = .ok (.astore 4, 2) := by decide +kernel
theorem d_C_read_10 : decode prog_3_method_5_code 10 = .ok (.aload 4, 2) := by decide +kernel
theorem d_C_read_12 : decode prog_3_method_5_code 12 = .ok (.ifnonnull 4, 3) := by decide +kernel
theorem d_C_read_15 : decode prog_3_method_5_code 15 = .ok (.return_, 1) := by decide +kernel
theorem d_C_read_16 : decode prog_3_method_5_code 16 = .ok (.aload_n 2, 1) := by decide +kernel
theorem d_C_read_17 : decode prog_3_method_5_code 17 = .ok (.getfield 70, 3) := by decide +kernel
theorem d_C_read_20 : decode prog_3_method_5_code 20 = .ok (.lookupswitch 119 #[(200, 36), (304, 81), (404, 101)], 36) := by decide +kernel
theorem d_C_read_56 : decode prog_3_method_5_code 56 = .ok (.aload_n 1, 1) := by decide +kernel
theorem d_C_read_57 : decode prog_3_method_5_code 57 = .ok (.getfield 18, 3) := by decide +kernel
theorem d_C_read_60 : decode prog_3_method_5_code 60 = .ok (.ifCond .eq 21, 3) := by decide +kernel
theorem d_C_read_63 : decode prog_3_method_5_code 63 = .ok (.aload_n 1, 1) := by decide +kernel
theorem d_C_read_64 : decode prog_3_method_5_code 64 = .ok (.iconst 4, 1) := by decide +kernel
theorem d_C_read_65 : decode prog_3_method_5_code 65 = .ok (.iconst 0, 1) := by decide +kernel
theorem d_C_read_66 : decode prog_3_method_5_code 66 = .ok (.invokevirtual 32, 3) := by decide +kernel
theorem d_C_read_69 : decode prog_3_method_5_code 69 = .ok (.aload 4, 2) := by decide +kernel
theorem d_C_read_71 : decode prog_3_method_5_code 71 = .ok (.aload_n 1, 1) := by decide +kernel
theorem d_C_read_72 : decode prog_3_method_5_code 72 = .ok (.getfield 73, 3) := by decide +kernel
theorem d_C_read_75 : decode prog_3_method_5_code 75 = .ok (.invokevirtual 76, 3) := by decide +kernel
theorem d_C_read_78 : decode prog_3_method_5_code 78 = .ok (.goto 67, 3) := by decide +kernel
theorem d_C_read_81 : decode prog_3_method_5_code 81 = .ok (.aload_n 1, 1) := by decide +kernel
theorem d_C_read_82 : decode prog_3_method_5_code 82 = .ok (.iconst 1, 1) := by decide +kernel
theorem d_C_read_83 : decode prog_3_method_5_code 83 = .ok (.aload_n 2, 1) := by decide +kernel
theorem d_C_read_84 : decode prog_3_method_5_code 84 = .ok (.getfield 80, 3) := by decide +kernel
theorem d_C_read_87 : decode prog_3_method_5_code 87 = .ok (.invokevirtual 32, 3) := by decide +kernel
theorem d_C_read_90 : decode prog_3_method_5_code 90 = .ok (.aload_n 0, 1) := by decide +kernel
theorem d_C_read_91 : decode prog_3_method_5_code 91 = .ok (.aload 4, 2) := by decide +kernel
theorem d_C_read_93 : decode prog_3_method_5_code 93 = .ok (.aload_n 1, 1) := by decide +kernel
theorem d_C_read_94 : decode prog_3_method_5_code 94 = .ok (.aload_n 2, 1) := by decide +kernel
theorem d_C_read_95 : decode prog_3_method_5_code 95 = .ok (.invokevirtual 81, 3) := by decide +kernel
theorem d_C_read_98 : decode prog_3_method_5_code 98 = .ok (.goto 47, 3) := by decide +kernel
theorem d_C_read_101 : decode prog_3_method_5_code 101 = .ok (.aload_n 1, 1) := by decide +kernel
theorem d_C_read_102 : decode prog_3_method_5_code 102 = .ok (.iconst 2, 1) := by decide +kernel
theorem d_C_read_103 : decode prog_3_method_5_code 103 = .ok (.aload_n 1, 1) := by decide +kernel
theorem d_C_read_104 : decode prog_3_method_5_code 104 = .ok (.getfield 52, 3) := by decide +kernel
theorem d_C_read_107 : decode prog_3_method_5_code 107 = .ok (.invokevirtual 32, 3) := by decide +kernel
theorem d_C_read_110 : decode prog_3_method_5_code 110 = .ok (.aload_n 0, 1) := by decide +kernel
theorem d_C_read_111 : decode prog_3_method_5_code 111 = .ok (.aload 4, 2) := by decide +kernel
theorem d_C_read_113 : decode prog_3_method_5_code 113 = .ok (.aload_n 1, 1) := by decide +kernel
theorem d_C_read_114 : decode prog_3_method_5_code 114 = .ok (.aload_n 2, 1) := by decide +kernel
theorem d_C_read_115 : decode prog_3_method_5_code 115 = .ok (.invokevirtual 85, 3) := by decide +kernel
theorem d_C_read_118 : decode prog_3_method_5_code 118 = .ok (.goto 27, 3) := by decide +kernel
theorem d_C_read_121 : decode prog_3_method_5_code 121 = .ok (.aload_n 1, 1) := by decide +kernel
theorem d_C_read_122 : decode prog_3_method_5_code 122 = .ok (.iconst 3, 1) := by decide +kernel
theorem d_C_read_123 : decode prog_3_method_5_code 123 = .ok (.iconst 0, 1) := by decide +kernel
theorem d_C_read_124 : decode prog_3_method_5_code 124 = .ok (.invokevirtual 32, 3) := by decide +kernel
theorem d_C_read_127 : decode prog_3_method_5_code 127 = .ok (.aload 4, 2) := by decide +kernel
theorem d_C_read_129 : decode prog_3_method_5_code 129 = .ok (.aload_n 1, 1) := by decide +kernel
theorem d_C_read_130 : decode prog_3_method_5_code 130 = .ok (.getfield 73, 3) := by decide +kernel
theorem d_C_read_133 : decode prog_3_method_5_code 133 = .ok (.invokevirtual 76, 3) := by decide +kernel
theorem d_C_read_136 : decode prog_3_method_5_code 136 = .ok (.goto 9, 3) := by decide +kernel
theorem d_C_read_139 : decode prog_3_method_5_code 139 = .ok (.aload_n 1, 1) := by decide +kernel
theorem d_C_read_140 : decode prog_3_method_5_code 140 = .ok (.iconst 5, 1) := by decide +kernel
theorem d_C_read_141 : decode prog_3_method_5_code 141 = .ok (.iconst 0, 1) := by decide +kernel
theorem d_C_read_142 : decode prog_3_method_5_code 142 = .ok (.invokevirtual 32, 3) := by decide +kernel
theorem d_C_read_145 : decode prog_3_method_5_code 145 = .ok (.aload_n 0, 1) := by decide +kernel
theorem d_C_read_146 : decode prog_3_method_5_code 146 = .ok (.aload_n 1, 1) := by decide +kernel
theorem d_C_read_147 : decode prog_3_method_5_code 147 = .ok (.aload_n 2, 1) := by decide +kernel
theorem d_C_read_148 : decode prog_3_method_5_code 148 = .ok (.aload_n 3, 1) := by decide +kernel
theorem d_C_read_149 : decode prog_3_method_5_code 149 = .ok (.invokevirtual 88, 3) := by decide +kernel
theorem d_C_read_152 : decode prog_3_method_5_code 152 = .ok (.return_, 1) := by decide +kernel
theorem d_Q_settle_0 : decode prog_5_method_2_code 0 = .ok (.aload_n 0, 1) := by decide +kernel
theorem d_Q_settle_1 : decode prog_5_method_2_code 1 = .ok (.iload_n 1, 1) := by decide +kernel
theorem d_Q_settle_2 : decode prog_5_method_2_code 2 = .ok (.putfield 31, 3) := by decide +kernel
theorem d_Q_settle_5 : decode prog_5_method_2_code 5 = .ok (.aload_n 0, 1) := by decide +kernel
theorem d_Q_settle_6 : decode prog_5_method_2_code 6 = .ok (.iload_n 2, 1) := by decide +kernel
theorem d_Q_settle_7 : decode prog_5_method_2_code 7 = .ok (.putfield 34, 3) := by decide +kernel
theorem d_Q_settle_10 : decode prog_5_method_2_code 10 = .ok (.return_, 1) := by decide +kernel
theorem d_Q_init_0 : decode prog_5_method_1_code 0 = .ok (.aload_n 0, 1) := by decide +kernel
theorem d_Q_init_1 : decode prog_5_method_1_code 1 = .ok (.invokespecial 3, 3) := by decide +kernel
theorem d_Q_init_4 : decode prog_5_method_1_code 4 = .ok (.aload_n 0, 1) := by decide +kernel
theorem d_Q_init_5 : decode prog_5_method_1_code 5 = .ok (.iload_n 1, 1) := by decide +kernel
theorem d_Q_init_6 : decode prog_5_method_1_code 6 = .ok (.putfield 9, 3) := by decide +kernel
theorem d_Q_init_9 : decode prog_5_method_1_code 9 = .ok (.aload_n 0, 1) := by decide +kernel
theorem d_Q_init_10 : decode prog_5_method_1_code 10 = .ok (.iload_n 2, 1) := by decide +kernel
theorem d_Q_init_11 : decode prog_5_method_1_code 11 = .ok (.putfield 15, 3) := by decide +kernel
theorem d_Q_init_14 : decode prog_5_method_1_code 14 = .ok (.aload_n 0, 1) := by decide +kernel
theorem d_Q_init_15 : decode prog_5_method_1_code 15 = .ok (.iload_n 3, 1) := by decide +kernel
theorem d_Q_init_16 : decode prog_5_method_1_code 16 = .ok (.putfield 18, 3) := by decide +kernel
theorem d_Q_init_19 : decode prog_5_method_1_code 19 = .ok (.aload_n 0, 1) := by decide +kernel
theorem d_Q_init_20 : decode prog_5_method_1_code 20 = .ok (.iload 4, 2) := by decide +kernel
theorem d_Q_init_22 : decode prog_5_method_1_code 22 = .ok (.putfield 22, 3) := by decide +kernel
theorem d_Q_init_25 : decode prog_5_method_1_code 25 = .ok (.aload_n 0, 1) := by decide +kernel
theorem d_Q_init_26 : decode prog_5_method_1_code 26 = .ok (.iload 5, 2) := by decide +kernel
theorem d_Q_init_28 : decode prog_5_method_1_code 28 = .ok (.putfield 25, 3) := by decide +kernel
theorem d_Q_init_31 : decode prog_5_method_1_code 31 = .ok (.aload_n 0, 1) := by decide +kernel
theorem d_Q_init_32 : decode prog_5_method_1_code 32 = .ok (.iconst 0, 1) := by decide +kernel
theorem d_Q_init_33 : decode prog_5_method_1_code 33 = .ok (.putfield 28, 3) := by decide +kernel
theorem d_Q_init_36 : decode prog_5_method_1_code 36 = .ok (.aload_n 0, 1) := by decide +kernel
theorem d_Q_init_37 : decode prog_5_method_1_code 37 = .ok (.iconst 0, 1) := by decide +kernel
theorem d_Q_init_38 : decode prog_5_method_1_code 38 = .ok (.putfield 31, 3) := by decide +kernel
theorem d_Q_init_41 : decode prog_5_method_1_code 41 = .ok (.return_, 1) := by decide +kernel
theorem d_F_append_0 : decode prog_4_method_2_code 0 = .ok (.aload_n 0, 1) := by decide +kernel
theorem d_F_append_1 : decode prog_4_method_2_code 1 = .ok (.getfield 18, 3) := by decide +kernel
theorem d_F_append_4 : decode prog_4_method_2_code 4 = .ok (.aload_n 0, 1) := by decide +kernel
theorem d_F_append_5 : decode prog_4_method_2_code 5 = .ok (.getfield 9, 3) := by decide +kernel
theorem d_F_append_8 : decode prog_4_method_2_code 8 = .ok (.arraylength, 1) := by decide +kernel
theorem d_F_append_9 : decode prog_4_method_2_code 9 = .ok (.if_icmp .ge 15, 3) := by decide +kernel
theorem d_F_append_12 : decode prog_4_method_2_code 12 = .ok (.aload_n 0, 1) := by decide +kernel
theorem d_F_append_13 : decode prog_4_method_2_code 13 = .ok (.getfield 18, 3) := by decide +kernel
theorem d_F_append_16 : decode prog_4_method_2_code 16 = .ok (.aload_n 0, 1) := by decide +kernel
theorem d_F_append_17 : decode prog_4_method_2_code 17 = .ok (.getfield 15, 3) := by decide +kernel
theorem d_F_append_20 : decode prog_4_method_2_code 20 = .ok (.arraylength, 1) := by decide +kernel
theorem d_F_append_21 : decode prog_4_method_2_code 21 = .ok (.if_icmp .lt 4, 3) := by decide +kernel
theorem d_F_append_24 : decode prog_4_method_2_code 24 = .ok (.return_, 1) := by decide +kernel
theorem d_F_append_25 : decode prog_4_method_2_code 25 = .ok (.aload_n 0, 1) := by decide +kernel
theorem d_F_append_26 : decode prog_4_method_2_code 26 = .ok (.getfield 9, 3) := by decide +kernel
theorem d_F_append_29 : decode prog_4_method_2_code 29 = .ok (.aload_n 0, 1) := by decide +kernel
theorem d_F_append_30 : decode prog_4_method_2_code 30 = .ok (.getfield 18, 3) := by decide +kernel
theorem d_F_append_33 : decode prog_4_method_2_code 33 = .ok (.iload_n 1, 1) := by decide +kernel
theorem d_F_append_34 : decode prog_4_method_2_code 34 = .ok (.iastore, 1) := by decide +kernel
theorem d_F_append_35 : decode prog_4_method_2_code 35 = .ok (.aload_n 0, 1) := by decide +kernel
theorem d_F_append_36 : decode prog_4_method_2_code 36 = .ok (.getfield 15, 3) := by decide +kernel
theorem d_F_append_39 : decode prog_4_method_2_code 39 = .ok (.aload_n 0, 1) := by decide +kernel
theorem d_F_append_40 : decode prog_4_method_2_code 40 = .ok (.getfield 18, 3) := by decide +kernel
theorem d_F_append_43 : decode prog_4_method_2_code 43 = .ok (.iload_n 2, 1) := by decide +kernel
theorem d_F_append_44 : decode prog_4_method_2_code 44 = .ok (.iastore, 1) := by decide +kernel
theorem d_F_append_45 : decode prog_4_method_2_code 45 = .ok (.aload_n 0, 1) := by decide +kernel
theorem d_F_append_46 : decode prog_4_method_2_code 46 = .ok (.dup, 1) := by decide +kernel
theorem d_F_append_47 : decode prog_4_method_2_code 47 = .ok (.getfield 18, 3) := by decide +kernel
theorem d_F_append_50 : decode prog_4_method_2_code 50 = .ok (.iconst 1, 1) := by decide +kernel
theorem d_F_append_51 : decode prog_4_method_2_code 51 = .ok (.iadd, 1) := by decide +kernel
theorem d_F_append_52 : decode prog_4_method_2_code 52 = .ok (.putfield 18, 3) := by decide +kernel
theorem d_F_append_55 : decode prog_4_method_2_code 55 = .ok (.return_, 1) := by decide +kernel
theorem d_F_init_0 : decode prog_4_method_1_code 0 = .ok (.aload_n 0, 1) := by decide +kernel
theorem d_F_init_1 : decode prog_4_method_1_code 1 = .ok (.invokespecial 3, 3) := by decide +kernel
theorem d_F_init_4 : decode prog_4_method_1_code 4 = .ok (.aload_n 0, 1) := by decide +kernel
theorem d_F_init_5 : decode prog_4_method_1_code 5 = .ok (.sipush 240, 3) := by decide +kernel
theorem d_F_init_8 : decode prog_4_method_1_code 8 = .ok (.newarray .int, 2) := by decide +kernel
theorem d_F_init_10 : decode prog_4_method_1_code 10 = .ok (.putfield 9, 3) := by decide +kernel
theorem d_F_init_13 : decode prog_4_method_1_code 13 = .ok (.aload_n 0, 1) := by decide +kernel
theorem d_F_init_14 : decode prog_4_method_1_code 14 = .ok (.sipush 240, 3) := by decide +kernel
theorem d_F_init_17 : decode prog_4_method_1_code 17 = .ok (.newarray .int, 2) := by decide +kernel
theorem d_F_init_19 : decode prog_4_method_1_code 19 = .ok (.putfield 15, 3) := by decide +kernel
theorem d_F_init_22 : decode prog_4_method_1_code 22 = .ok (.return_, 1) := by decide +kernel
theorem d_F_nextKind_0 : decode prog_4_method_3_code 0 = .ok (.aload_n 0, 1) := by decide +kernel
theorem d_F_nextKind_1 : decode prog_4_method_3_code 1 = .ok (.getfield 22, 3) := by decide +kernel
theorem d_F_nextKind_4 : decode prog_4_method_3_code 4 = .ok (.aload_n 0, 1) := by decide +kernel
theorem d_F_nextKind_5 : decode prog_4_method_3_code 5 = .ok (.getfield 18, 3) := by decide +kernel
theorem d_F_nextKind_8 : decode prog_4_method_3_code 8 = .ok (.if_icmp .ge 27, 3) := by decide +kernel
theorem d_F_nextKind_11 : decode prog_4_method_3_code 11 = .ok (.aload_n 0, 1) := by decide +kernel
theorem d_F_nextKind_12 : decode prog_4_method_3_code 12 = .ok (.getfield 22, 3) := by decide +kernel
theorem d_F_nextKind_15 : decode prog_4_method_3_code 15 = .ok (.aload_n 0, 1) := by decide +kernel
theorem d_F_nextKind_16 : decode prog_4_method_3_code 16 = .ok (.getfield 9, 3) := by decide +kernel
theorem d_F_nextKind_19 : decode prog_4_method_3_code 19 = .ok (.arraylength, 1) := by decide +kernel
theorem d_F_nextKind_20 : decode prog_4_method_3_code 20 = .ok (.if_icmp .ge 15, 3) := by decide +kernel
theorem d_F_nextKind_23 : decode prog_4_method_3_code 23 = .ok (.aload_n 0, 1) := by decide +kernel
theorem d_F_nextKind_24 : decode prog_4_method_3_code 24 = .ok (.getfield 9, 3) := by decide +kernel
theorem d_F_nextKind_27 : decode prog_4_method_3_code 27 = .ok (.aload_n 0, 1) := by decide +kernel
theorem d_F_nextKind_28 : decode prog_4_method_3_code 28 = .ok (.getfield 22, 3) := by decide +kernel
theorem d_F_nextKind_31 : decode prog_4_method_3_code 31 = .ok (.iaload, 1) := by decide +kernel
theorem d_F_nextKind_32 : decode prog_4_method_3_code 32 = .ok (.goto 4, 3) := by decide +kernel
theorem d_F_nextKind_35 : decode prog_4_method_3_code 35 = .ok (.iconst (-1), 1) := by decide +kernel
theorem d_F_nextKind_36 : decode prog_4_method_3_code 36 = .ok (.ireturn, 1) := by decide +kernel
theorem d_F_nextNumber_0 : decode prog_4_method_4_code 0 = .ok (.aload_n 0, 1) := by decide +kernel
theorem d_F_nextNumber_1 : decode prog_4_method_4_code 1 = .ok (.getfield 22, 3) := by decide +kernel
theorem d_F_nextNumber_4 : decode prog_4_method_4_code 4 = .ok (.aload_n 0, 1) := by decide +kernel
theorem d_F_nextNumber_5 : decode prog_4_method_4_code 5 = .ok (.getfield 18, 3) := by decide +kernel
theorem d_F_nextNumber_8 : decode prog_4_method_4_code 8 = .ok (.if_icmp .ge 27, 3) := by decide +kernel
theorem d_F_nextNumber_11 : decode prog_4_method_4_code 11 = .ok (.aload_n 0, 1) := by decide +kernel
theorem d_F_nextNumber_12 : decode prog_4_method_4_code 12 = .ok (.getfield 22, 3) := by decide +kernel
theorem d_F_nextNumber_15 : decode prog_4_method_4_code 15 = .ok (.aload_n 0, 1) := by decide +kernel
theorem d_F_nextNumber_16 : decode prog_4_method_4_code 16 = .ok (.getfield 15, 3) := by decide +kernel
theorem d_F_nextNumber_19 : decode prog_4_method_4_code 19 = .ok (.arraylength, 1) := by decide +kernel
theorem d_F_nextNumber_20 : decode prog_4_method_4_code 20 = .ok (.if_icmp .ge 15, 3) := by decide +kernel
theorem d_F_nextNumber_23 : decode prog_4_method_4_code 23 = .ok (.aload_n 0, 1) := by decide +kernel
theorem d_F_nextNumber_24 : decode prog_4_method_4_code 24 = .ok (.getfield 15, 3) := by decide +kernel
theorem d_F_nextNumber_27 : decode prog_4_method_4_code 27 = .ok (.aload_n 0, 1) := by decide +kernel
theorem d_F_nextNumber_28 : decode prog_4_method_4_code 28 = .ok (.getfield 22, 3) := by decide +kernel
theorem d_F_nextNumber_31 : decode prog_4_method_4_code 31 = .ok (.iaload, 1) := by decide +kernel
theorem d_F_nextNumber_32 : decode prog_4_method_4_code 32 = .ok (.goto 4, 3) := by decide +kernel
theorem d_F_nextNumber_35 : decode prog_4_method_4_code 35 = .ok (.iconst (-1), 1) := by decide +kernel
theorem d_F_nextNumber_36 : decode prog_4_method_4_code 36 = .ok (.ireturn, 1) := by decide +kernel
theorem d_F_moveOn_0 : decode prog_4_method_5_code 0 = .ok (.aload_n 0, 1) := by decide +kernel
theorem d_F_moveOn_1 : decode prog_4_method_5_code 1 = .ok (.getfield 22, 3) := by decide +kernel
theorem d_F_moveOn_4 : decode prog_4_method_5_code 4 = .ok (.aload_n 0, 1) := by decide +kernel
theorem d_F_moveOn_5 : decode prog_4_method_5_code 5 = .ok (.getfield 18, 3) := by decide +kernel
theorem d_F_moveOn_8 : decode prog_4_method_5_code 8 = .ok (.if_icmp .ge 13, 3) := by decide +kernel
theorem d_F_moveOn_11 : decode prog_4_method_5_code 11 = .ok (.aload_n 0, 1) := by decide +kernel
theorem d_F_moveOn_12 : decode prog_4_method_5_code 12 = .ok (.dup, 1) := by decide +kernel
theorem d_F_moveOn_13 : decode prog_4_method_5_code 13 = .ok (.getfield 22, 3) := by decide +kernel
theorem d_F_moveOn_16 : decode prog_4_method_5_code 16 = .ok (.iconst 1, 1) := by decide +kernel
theorem d_F_moveOn_17 : decode prog_4_method_5_code 17 = .ok (.iadd, 1) := by decide +kernel
theorem d_F_moveOn_18 : decode prog_4_method_5_code 18 = .ok (.putfield 22, 3) := by decide +kernel
theorem d_F_moveOn_21 : decode prog_4_method_5_code 21 = .ok (.return_, 1) := by decide +kernel
theorem d_O_init_0 : decode prog_6_method_1_code 0 = .ok (.aload_n 0, 1) := by decide +kernel
theorem d_O_init_1 : decode prog_6_method_1_code 1 = .ok (.invokespecial 1, 3) := by decide +kernel
theorem d_O_init_4 : decode prog_6_method_1_code 4 = .ok (.return_, 1) := by decide +kernel
theorem d_T_init_0 : decode prog_9_method_1_code 0 = .ok (.aload_n 0, 1) := by decide +kernel
theorem d_T_init_1 : decode prog_9_method_1_code 1 = .ok (.invokespecial 3, 3) := by decide +kernel
theorem d_T_init_4 : decode prog_9_method_1_code 4 = .ok (.aload_n 0, 1) := by decide +kernel
theorem d_T_init_5 : decode prog_9_method_1_code 5 = .ok (.iconst 5, 1) := by decide +kernel
theorem d_T_init_6 : decode prog_9_method_1_code 6 = .ok (.newarray .int, 2) := by decide +kernel
theorem d_T_init_8 : decode prog_9_method_1_code 8 = .ok (.putfield 9, 3) := by decide +kernel
theorem d_T_init_11 : decode prog_9_method_1_code 11 = .ok (.aload_n 0, 1) := by decide +kernel
theorem d_T_init_12 : decode prog_9_method_1_code 12 = .ok (.iconst 5, 1) := by decide +kernel
theorem d_T_init_13 : decode prog_9_method_1_code 13 = .ok (.newarray .int, 2) := by decide +kernel
theorem d_T_init_15 : decode prog_9_method_1_code 15 = .ok (.putfield 15, 3) := by decide +kernel
theorem d_T_init_18 : decode prog_9_method_1_code 18 = .ok (.aload_n 0, 1) := by decide +kernel
theorem d_T_init_19 : decode prog_9_method_1_code 19 = .ok (.bipush 60, 2) := by decide +kernel
theorem d_T_init_21 : decode prog_9_method_1_code 21 = .ok (.anewarray 18, 3) := by decide +kernel
theorem d_T_init_24 : decode prog_9_method_1_code 24 = .ok (.putfield 20, 3) := by decide +kernel
theorem d_T_init_27 : decode prog_9_method_1_code 27 = .ok (.return_, 1) := by decide +kernel
theorem d_T_outstandingNeeding_0 : decode prog_9_method_9_code 0 = .ok (.iconst 0, 1) := by decide +kernel
theorem d_T_outstandingNeeding_1 : decode prog_9_method_9_code 1 = .ok (.istore_n 2, 1) := by decide +kernel
theorem d_T_outstandingNeeding_2 : decode prog_9_method_9_code 2 = .ok (.iconst 0, 1) := by decide +kernel
theorem d_T_outstandingNeeding_3 : decode prog_9_method_9_code 3 = .ok (.istore_n 3, 1) := by decide +kernel
theorem d_T_outstandingNeeding_4 : decode prog_9_method_9_code 4 = .ok (.iload_n 3, 1) := by decide +kernel
theorem d_T_outstandingNeeding_5 : decode prog_9_method_9_code 5 = .ok (.aload_n 0, 1) := by decide +kernel
theorem d_T_outstandingNeeding_6 : decode prog_9_method_9_code 6 = .ok (.getfield 67, 3) := by decide +kernel
theorem d_T_outstandingNeeding_9 : decode prog_9_method_9_code 9 = .ok (.if_icmp .ge 51, 3) := by decide +kernel
theorem d_T_outstandingNeeding_12 : decode prog_9_method_9_code 12 = .ok (.iload_n 3, 1) := by decide +kernel
theorem d_T_outstandingNeeding_13 : decode prog_9_method_9_code 13 = .ok (.aload_n 0, 1) := by decide +kernel
theorem d_T_outstandingNeeding_14 : decode prog_9_method_9_code 14 = .ok (.getfield 20, 3) := by decide +kernel
theorem d_T_outstandingNeeding_17 : decode prog_9_method_9_code 17 = .ok (.arraylength, 1) := by decide +kernel
theorem d_T_outstandingNeeding_18 : decode prog_9_method_9_code 18 = .ok (.if_icmp .ge 42, 3) := by decide +kernel
theorem d_T_outstandingNeeding_21 : decode prog_9_method_9_code 21 = .ok (.aload_n 0, 1) := by decide +kernel
theorem d_T_outstandingNeeding_22 : decode prog_9_method_9_code 22 = .ok (.getfield 20, 3) := by decide +kernel
theorem d_T_outstandingNeeding_25 : decode prog_9_method_9_code 25 = .ok (.iload_n 3, 1) := by decide +kernel
theorem d_T_outstandingNeeding_26 : decode prog_9_method_9_code 26 = .ok (.aaload, 1) := by decide +kernel
theorem d_T_outstandingNeeding_27 : decode prog_9_method_9_code 27 = .ok (.astore 4, 2) := by decide +kernel
theorem d_T_outstandingNeeding_29 : decode prog_9_method_9_code 29 = .ok (.aload 4, 2) := by decide +kernel
theorem d_T_outstandingNeeding_31 : decode prog_9_method_9_code 31 = .ok (.ifnull 23, 3) := by decide +kernel
theorem d_T_outstandingNeeding_34 : decode prog_9_method_9_code 34 = .ok (.aload 4, 2) := by decide +kernel
theorem d_T_outstandingNeeding_36 : decode prog_9_method_9_code 36 = .ok (.getfield 70, 3) := by decide +kernel
theorem d_T_outstandingNeeding_39 : decode prog_9_method_9_code 39 = .ok (.ifCond .eq 15, 3) := by decide +kernel
theorem d_T_outstandingNeeding_42 : decode prog_9_method_9_code 42 = .ok (.aload 4, 2) := by decide +kernel
theorem d_T_outstandingNeeding_44 : decode prog_9_method_9_code 44 = .ok (.getfield 37, 3) := by decide +kernel
theorem d_T_outstandingNeeding_47 : decode prog_9_method_9_code 47 = .ok (.iload_n 1, 1) := by decide +kernel
theorem d_T_outstandingNeeding_48 : decode prog_9_method_9_code 48 = .ok (.if_icmp .lt 6, 3) := by decide +kernel
theorem d_T_outstandingNeeding_51 : decode prog_9_method_9_code 51 = .ok (.iinc 2 1, 3) := by decide +kernel
theorem d_T_outstandingNeeding_54 : decode prog_9_method_9_code 54 = .ok (.iinc 3 1, 3) := by decide +kernel
theorem d_T_outstandingNeeding_57 : decode prog_9_method_9_code 57 = .ok (.goto (-53), 3) := by decide +kernel
theorem d_T_outstandingNeeding_60 : decode prog_9_method_9_code 60 = .ok (.iload_n 2, 1) := by decide +kernel
theorem d_T_outstandingNeeding_61 : decode prog_9_method_9_code 61 = .ok (.ireturn, 1) := by decide +kernel
theorem d_T_atRisk_0 : decode prog_9_method_8_code 0 = .ok (.aload_n 0, 1) := by decide +kernel
theorem d_T_atRisk_1 : decode prog_9_method_8_code 1 = .ok (.aload_n 0, 1) := by decide +kernel
theorem d_T_atRisk_2 : decode prog_9_method_8_code 2 = .ok (.getfield 40, 3) := by decide +kernel
theorem d_T_atRisk_5 : decode prog_9_method_8_code 5 = .ok (.iconst 1, 1) := by decide +kernel
theorem d_T_atRisk_6 : decode prog_9_method_8_code 6 = .ok (.iadd, 1) := by decide +kernel
theorem d_T_atRisk_7 : decode prog_9_method_8_code 7 = .ok (.invokevirtual 77, 3) := by decide +kernel
theorem d_T_atRisk_10 : decode prog_9_method_8_code 10 = .ok (.ireturn, 1) := by decide +kernel
theorem d_T_liveCount_0 : decode prog_9_method_2_code 0 = .ok (.aload_n 0, 1) := by decide +kernel
theorem d_T_liveCount_1 : decode prog_9_method_2_code 1 = .ok (.getfield 24, 3) := by decide +kernel
theorem d_T_liveCount_4 : decode prog_9_method_2_code 4 = .ok (.iconst 5, 1) := by decide +kernel
theorem d_T_liveCount_5 : decode prog_9_method_2_code 5 = .ok (.invokestatic 28, 3) := by decide +kernel
theorem d_T_liveCount_8 : decode prog_9_method_2_code 8 = .ok (.ireturn, 1) := by decide +kernel
theorem d_T_nameOf_0 : decode prog_9_method_3_code 0 = .ok (.aload_n 0, 1) := by decide +kernel
theorem d_T_nameOf_1 : decode prog_9_method_3_code 1 = .ok (.getfield 9, 3) := by decide +kernel
theorem d_T_nameOf_4 : decode prog_9_method_3_code 4 = .ok (.iload_n 1, 1) := by decide +kernel
theorem d_T_nameOf_5 : decode prog_9_method_3_code 5 = .ok (.iconst 5, 1) := by decide +kernel
theorem d_T_nameOf_6 : decode prog_9_method_3_code 6 = .ok (.invokestatic 34, 3) := by decide +kernel
theorem d_T_nameOf_9 : decode prog_9_method_3_code 9 = .ok (.iaload, 1) := by decide +kernel
theorem d_T_nameOf_10 : decode prog_9_method_3_code 10 = .ok (.ireturn, 1) := by decide +kernel
theorem d_T_valueOf_0 : decode prog_9_method_4_code 0 = .ok (.aload_n 0, 1) := by decide +kernel
theorem d_T_valueOf_1 : decode prog_9_method_4_code 1 = .ok (.getfield 15, 3) := by decide +kernel
theorem d_T_valueOf_4 : decode prog_9_method_4_code 4 = .ok (.iload_n 1, 1) := by decide +kernel
theorem d_T_valueOf_5 : decode prog_9_method_4_code 5 = .ok (.iconst 5, 1) := by decide +kernel
theorem d_T_valueOf_6 : decode prog_9_method_4_code 6 = .ok (.invokestatic 34, 3) := by decide +kernel
theorem d_T_valueOf_9 : decode prog_9_method_4_code 9 = .ok (.iaload, 1) := by decide +kernel
theorem d_T_valueOf_10 : decode prog_9_method_4_code 10 = .ok (.ireturn, 1) := by decide +kernel
theorem d_T_findLive_0 : decode prog_9_method_11_code 0 = .ok (.aload_n 0, 1) := by decide +kernel
theorem d_T_findLive_1 : decode prog_9_method_11_code 1 = .ok (.getfield 24, 3) := by decide +kernel
theorem d_T_findLive_4 : decode prog_9_method_11_code 4 = .ok (.aload_n 0, 1) := by decide +kernel
theorem d_T_findLive_5 : decode prog_9_method_11_code 5 = .ok (.invokevirtual 85, 3) := by decide +kernel
theorem d_T_findLive_8 : decode prog_9_method_11_code 8 = .ok (.isub, 1) := by decide +kernel
theorem d_T_findLive_9 : decode prog_9_method_11_code 9 = .ok (.istore_n 3, 1) := by decide +kernel
theorem d_T_findLive_10 : decode prog_9_method_11_code 10 = .ok (.aload_n 0, 1) := by decide +kernel
theorem d_T_findLive_11 : decode prog_9_method_11_code 11 = .ok (.getfield 24, 3) := by decide +kernel
theorem d_T_findLive_14 : decode prog_9_method_11_code 14 = .ok (.iconst 1, 1) := by decide +kernel
theorem d_T_findLive_15 : decode prog_9_method_11_code 15 = .ok (.isub, 1) := by decide +kernel
theorem d_T_findLive_16 : decode prog_9_method_11_code 16 = .ok (.istore 4, 2) := by decide +kernel
theorem d_T_findLive_18 : decode prog_9_method_11_code 18 = .ok (.iload 4, 2) := by decide +kernel
theorem d_T_findLive_20 : decode prog_9_method_11_code 20 = .ok (.iload_n 3, 1) := by decide +kernel
theorem d_T_findLive_21 : decode prog_9_method_11_code 21 = .ok (.if_icmp .lt 32, 3) := by decide +kernel
theorem d_T_findLive_24 : decode prog_9_method_11_code 24 = .ok (.aload_n 0, 1) := by decide +kernel
theorem d_T_findLive_25 : decode prog_9_method_11_code 25 = .ok (.iload 4, 2) := by decide +kernel
theorem d_T_findLive_27 : decode prog_9_method_11_code 27 = .ok (.invokevirtual 88, 3) := by decide +kernel
theorem d_T_findLive_30 : decode prog_9_method_11_code 30 = .ok (.iload_n 1, 1) := by decide +kernel
theorem d_T_findLive_31 : decode prog_9_method_11_code 31 = .ok (.if_icmp .ne 16, 3) := by decide +kernel
theorem d_T_findLive_34 : decode prog_9_method_11_code 34 = .ok (.aload_n 0, 1) := by decide +kernel
theorem d_T_findLive_35 : decode prog_9_method_11_code 35 = .ok (.iload 4, 2) := by decide +kernel
theorem d_T_findLive_37 : decode prog_9_method_11_code 37 = .ok (.invokevirtual 91, 3) := by decide +kernel
theorem d_T_findLive_40 : decode prog_9_method_11_code 40 = .ok (.iload_n 2, 1) := by decide +kernel
theorem d_T_findLive_41 : decode prog_9_method_11_code 41 = .ok (.if_icmp .ne 6, 3) := by decide +kernel
theorem d_T_findLive_44 : decode prog_9_method_11_code 44 = .ok (.iload 4, 2) := by decide +kernel
theorem d_T_findLive_46 : decode prog_9_method_11_code 46 = .ok (.ireturn, 1) := by decide +kernel
theorem d_T_findLive_47 : decode prog_9_method_11_code 47 = .ok (.iinc 4 (-1), 3) := by decide +kernel
theorem d_T_findLive_50 : decode prog_9_method_11_code 50 = .ok (.goto (-32), 3) := by decide +kernel
theorem d_T_findLive_53 : decode prog_9_method_11_code 53 = .ok (.iconst (-1), 1) := by decide +kernel
theorem d_T_findLive_54 : decode prog_9_method_11_code 54 = .ok (.ireturn, 1) := by decide +kernel
theorem d_T_refer_0 : decode prog_9_method_14_code 0 = .ok (.aload_n 1, 1) := by decide +kernel
theorem d_T_refer_1 : decode prog_9_method_14_code 1 = .ok (.iload_n 2, 1) := by decide +kernel
theorem d_T_refer_2 : decode prog_9_method_14_code 2 = .ok (.invokevirtual 97, 3) := by decide +kernel
theorem d_T_refer_5 : decode prog_9_method_14_code 5 = .ok (.aload_n 0, 1) := by decide +kernel
theorem d_T_refer_6 : decode prog_9_method_14_code 6 = .ok (.dup, 1) := by decide +kernel
theorem d_T_refer_7 : decode prog_9_method_14_code 7 = .ok (.getfield 101, 3) := by decide +kernel
theorem d_T_refer_10 : decode prog_9_method_14_code 10 = .ok (.iconst 1, 1) := by decide +kernel
theorem d_T_refer_11 : decode prog_9_method_14_code 11 = .ok (.iadd, 1) := by decide +kernel
theorem d_T_refer_12 : decode prog_9_method_14_code 12 = .ok (.putfield 101, 3) := by decide +kernel
theorem d_T_refer_15 : decode prog_9_method_14_code 15 = .ok (.return_, 1) := by decide +kernel
theorem d_T_referencesTo_0 : decode prog_9_method_10_code 0 = .ok (.iconst 0, 1) := by decide +kernel
theorem d_T_referencesTo_1 : decode prog_9_method_10_code 1 = .ok (.istore_n 2, 1) := by decide +kernel
theorem d_T_referencesTo_2 : decode prog_9_method_10_code 2 = .ok (.iconst 0, 1) := by decide +kernel
theorem d_T_referencesTo_3 : decode prog_9_method_10_code 3 = .ok (.istore_n 3, 1) := by decide +kernel
theorem d_T_referencesTo_4 : decode prog_9_method_10_code 4 = .ok (.iload_n 3, 1) := by decide +kernel
theorem d_T_referencesTo_5 : decode prog_9_method_10_code 5 = .ok (.aload_n 0, 1) := by decide +kernel
theorem d_T_referencesTo_6 : decode prog_9_method_10_code 6 = .ok (.getfield 67, 3) := by decide +kernel
theorem d_T_referencesTo_9 : decode prog_9_method_10_code 9 = .ok (.if_icmp .ge 51, 3) := by decide +kernel
theorem d_T_referencesTo_12 : decode prog_9_method_10_code 12 = .ok (.iload_n 3, 1) := by decide +kernel
theorem d_T_referencesTo_13 : decode prog_9_method_10_code 13 = .ok (.aload_n 0, 1) := by decide +kernel
theorem d_T_referencesTo_14 : decode prog_9_method_10_code 14 = .ok (.getfield 20, 3) := by decide +kernel
theorem d_T_referencesTo_17 : decode prog_9_method_10_code 17 = .ok (.arraylength, 1) := by decide +kernel
theorem d_T_referencesTo_18 : decode prog_9_method_10_code 18 = .ok (.if_icmp .ge 42, 3) := by decide +kernel
theorem d_T_referencesTo_21 : decode prog_9_method_10_code 21 = .ok (.aload_n 0, 1) := by decide +kernel
theorem d_T_referencesTo_22 : decode prog_9_method_10_code 22 = .ok (.getfield 20, 3) := by decide +kernel
theorem d_T_referencesTo_25 : decode prog_9_method_10_code 25 = .ok (.iload_n 3, 1) := by decide +kernel
theorem d_T_referencesTo_26 : decode prog_9_method_10_code 26 = .ok (.aaload, 1) := by decide +kernel
theorem d_T_referencesTo_27 : decode prog_9_method_10_code 27 = .ok (.astore 4, 2) := by decide +kernel
theorem d_T_referencesTo_29 : decode prog_9_method_10_code 29 = .ok (.aload 4, 2) := by decide +kernel
theorem d_T_referencesTo_31 : decode prog_9_method_10_code 31 = .ok (.ifnull 23, 3) := by decide +kernel
theorem d_T_referencesTo_34 : decode prog_9_method_10_code 34 = .ok (.aload 4, 2) := by decide +kernel
theorem d_T_referencesTo_36 : decode prog_9_method_10_code 36 = .ok (.getfield 70, 3) := by decide +kernel
theorem d_T_referencesTo_39 : decode prog_9_method_10_code 39 = .ok (.ifCond .eq 15, 3) := by decide +kernel
theorem d_T_referencesTo_42 : decode prog_9_method_10_code 42 = .ok (.aload 4, 2) := by decide +kernel
theorem d_T_referencesTo_44 : decode prog_9_method_10_code 44 = .ok (.iload_n 1, 1) := by decide +kernel
theorem d_T_referencesTo_45 : decode prog_9_method_10_code 45 = .ok (.invokevirtual 81, 3) := by decide +kernel
theorem d_T_referencesTo_48 : decode prog_9_method_10_code 48 = .ok (.ifCond .eq 6, 3) := by decide +kernel
theorem d_T_referencesTo_51 : decode prog_9_method_10_code 51 = .ok (.iinc 2 1, 3) := by decide +kernel
theorem d_T_referencesTo_54 : decode prog_9_method_10_code 54 = .ok (.iinc 3 1, 3) := by decide +kernel
theorem d_T_referencesTo_57 : decode prog_9_method_10_code 57 = .ok (.goto (-53), 3) := by decide +kernel
theorem d_T_referencesTo_60 : decode prog_9_method_10_code 60 = .ok (.iload_n 2, 1) := by decide +kernel
theorem d_T_referencesTo_61 : decode prog_9_method_10_code 61 = .ok (.ireturn, 1) := by decide +kernel
theorem d_T_hasRoomFor_0 : decode prog_9_method_12_code 0 = .ok (.aload_n 0, 1) := by decide +kernel
theorem d_T_hasRoomFor_1 : decode prog_9_method_12_code 1 = .ok (.invokevirtual 85, 3) := by decide +kernel
theorem d_T_hasRoomFor_4 : decode prog_9_method_12_code 4 = .ok (.iconst 5, 1) := by decide +kernel
theorem d_T_hasRoomFor_5 : decode prog_9_method_12_code 5 = .ok (.if_icmp .ge 5, 3) := by decide +kernel
theorem d_T_hasRoomFor_8 : decode prog_9_method_12_code 8 = .ok (.iconst 1, 1) := by decide +kernel
theorem d_T_hasRoomFor_9 : decode prog_9_method_12_code 9 = .ok (.ireturn, 1) := by decide +kernel
theorem d_T_hasRoomFor_10 : decode prog_9_method_12_code 10 = .ok (.aload_n 0, 1) := by decide +kernel
theorem d_T_hasRoomFor_11 : decode prog_9_method_12_code 11 = .ok (.getfield 24, 3) := by decide +kernel
theorem d_T_hasRoomFor_14 : decode prog_9_method_12_code 14 = .ok (.iconst 5, 1) := by decide +kernel
theorem d_T_hasRoomFor_15 : decode prog_9_method_12_code 15 = .ok (.isub, 1) := by decide +kernel
theorem d_T_hasRoomFor_16 : decode prog_9_method_12_code 16 = .ok (.istore_n 2, 1) := by decide +kernel
theorem d_T_hasRoomFor_17 : decode prog_9_method_12_code 17 = .ok (.iload_n 2, 1) := by decide +kernel
theorem d_T_hasRoomFor_18 : decode prog_9_method_12_code 18 = .ok (.aload_n 0, 1) := by decide +kernel
theorem d_T_hasRoomFor_19 : decode prog_9_method_12_code 19 = .ok (.getfield 40, 3) := by decide +kernel
theorem d_T_hasRoomFor_22 : decode prog_9_method_12_code 22 = .ok (.if_icmp .ge 23, 3) := by decide +kernel
theorem d_T_hasRoomFor_25 : decode prog_9_method_12_code 25 = .ok (.aload_n 0, 1) := by decide +kernel
theorem d_T_hasRoomFor_26 : decode prog_9_method_12_code 26 = .ok (.iload_n 2, 1) := by decide +kernel
theorem d_T_hasRoomFor_27 : decode prog_9_method_12_code 27 = .ok (.invokevirtual 94, 3) := by decide +kernel
theorem d_T_hasRoomFor_30 : decode prog_9_method_12_code 30 = .ok (.ifCond .ne 15, 3) := by decide +kernel
theorem d_T_hasRoomFor_33 : decode prog_9_method_12_code 33 = .ok (.aload_n 1, 1) := by decide +kernel
theorem d_T_hasRoomFor_34 : decode prog_9_method_12_code 34 = .ok (.iload_n 2, 1) := by decide +kernel
theorem d_T_hasRoomFor_35 : decode prog_9_method_12_code 35 = .ok (.invokevirtual 81, 3) := by decide +kernel
theorem d_T_hasRoomFor_38 : decode prog_9_method_12_code 38 = .ok (.ifCond .ne 7, 3) := by decide +kernel
theorem d_T_hasRoomFor_41 : decode prog_9_method_12_code 41 = .ok (.iconst 1, 1) := by decide +kernel
theorem d_T_hasRoomFor_42 : decode prog_9_method_12_code 42 = .ok (.goto 4, 3) := by decide +kernel
theorem d_T_hasRoomFor_45 : decode prog_9_method_12_code 45 = .ok (.iconst 0, 1) := by decide +kernel
theorem d_T_hasRoomFor_46 : decode prog_9_method_12_code 46 = .ok (.ireturn, 1) := by decide +kernel
theorem d_T_makeEntry_0 : decode prog_9_method_13_code 0 = .ok (.aload_n 0, 1) := by decide +kernel
theorem d_T_makeEntry_1 : decode prog_9_method_13_code 1 = .ok (.getfield 24, 3) := by decide +kernel
theorem d_T_makeEntry_4 : decode prog_9_method_13_code 4 = .ok (.istore_n 3, 1) := by decide +kernel
theorem d_T_makeEntry_5 : decode prog_9_method_13_code 5 = .ok (.aload_n 0, 1) := by decide +kernel
theorem d_T_makeEntry_6 : decode prog_9_method_13_code 6 = .ok (.getfield 9, 3) := by decide +kernel
theorem d_T_makeEntry_9 : decode prog_9_method_13_code 9 = .ok (.iload_n 3, 1) := by decide +kernel
theorem d_T_makeEntry_10 : decode prog_9_method_13_code 10 = .ok (.iconst 5, 1) := by decide +kernel
theorem d_T_makeEntry_11 : decode prog_9_method_13_code 11 = .ok (.invokestatic 34, 3) := by decide +kernel
theorem d_T_makeEntry_14 : decode prog_9_method_13_code 14 = .ok (.iload_n 1, 1) := by decide +kernel
theorem d_T_makeEntry_15 : decode prog_9_method_13_code 15 = .ok (.iastore, 1) := by decide +kernel
theorem d_T_makeEntry_16 : decode prog_9_method_13_code 16 = .ok (.aload_n 0, 1) := by decide +kernel
theorem d_T_makeEntry_17 : decode prog_9_method_13_code 17 = .ok (.getfield 15, 3) := by decide +kernel
theorem d_T_makeEntry_20 : decode prog_9_method_13_code 20 = .ok (.iload_n 3, 1) := by decide +kernel
theorem d_T_makeEntry_21 : decode prog_9_method_13_code 21 = .ok (.iconst 5, 1) := by decide +kernel
theorem d_T_makeEntry_22 : decode prog_9_method_13_code 22 = .ok (.invokestatic 34, 3) := by decide +kernel
theorem d_T_makeEntry_25 : decode prog_9_method_13_code 25 = .ok (.iload_n 2, 1) := by decide +kernel
theorem d_T_makeEntry_26 : decode prog_9_method_13_code 26 = .ok (.iastore, 1) := by decide +kernel
theorem d_T_makeEntry_27 : decode prog_9_method_13_code 27 = .ok (.aload_n 0, 1) := by decide +kernel
theorem d_T_makeEntry_28 : decode prog_9_method_13_code 28 = .ok (.dup, 1) := by decide +kernel
theorem d_T_makeEntry_29 : decode prog_9_method_13_code 29 = .ok (.getfield 24, 3) := by decide +kernel
theorem d_T_makeEntry_32 : decode prog_9_method_13_code 32 = .ok (.iconst 1, 1) := by decide +kernel
theorem d_T_makeEntry_33 : decode prog_9_method_13_code 33 = .ok (.iadd, 1) := by decide +kernel
theorem d_T_makeEntry_34 : decode prog_9_method_13_code 34 = .ok (.putfield 24, 3) := by decide +kernel
theorem d_T_makeEntry_37 : decode prog_9_method_13_code 37 = .ok (.iload_n 3, 1) := by decide +kernel
theorem d_T_makeEntry_38 : decode prog_9_method_13_code 38 = .ok (.ireturn, 1) := by decide +kernel
theorem d_T_putDown_0 : decode prog_9_method_5_code 0 = .ok (.aload_n 1, 1) := by decide +kernel
theorem d_T_putDown_1 : decode prog_9_method_5_code 1 = .ok (.getfield 37, 3) := by decide +kernel
theorem d_T_putDown_4 : decode prog_9_method_5_code 4 = .ok (.aload_n 0, 1) := by decide +kernel
theorem d_T_putDown_5 : decode prog_9_method_5_code 5 = .ok (.getfield 40, 3) := by decide +kernel
theorem d_T_putDown_8 : decode prog_9_method_5_code 8 = .ok (.if_icmp .gt 11, 3) := by decide +kernel
theorem d_T_putDown_11 : decode prog_9_method_5_code 11 = .ok (.aload_n 0, 1) := by decide +kernel
theorem d_T_putDown_12 : decode prog_9_method_5_code 12 = .ok (.invokevirtual 43, 3) := by decide +kernel
theorem d_T_putDown_15 : decode prog_9_method_5_code 15 = .ok (.iconst 2, 1) := by decide +kernel
theorem d_T_putDown_16 : decode prog_9_method_5_code 16 = .ok (.if_icmp .ge 7, 3) := by decide +kernel
theorem d_T_putDown_19 : decode prog_9_method_5_code 19 = .ok (.iconst 1, 1) := by decide +kernel
theorem d_T_putDown_20 : decode prog_9_method_5_code 20 = .ok (.goto 4, 3) := by decide +kernel
theorem d_T_putDown_23 : decode prog_9_method_5_code 23 = .ok (.iconst 0, 1) := by decide +kernel
theorem d_T_putDown_24 : decode prog_9_method_5_code 24 = .ok (.istore 4, 2) := by decide +kernel
theorem d_T_putDown_26 : decode prog_9_method_5_code 26 = .ok (.aload_n 0, 1) := by decide +kernel
theorem d_T_putDown_27 : decode prog_9_method_5_code 27 = .ok (.iload_n 2, 1) := by decide +kernel
theorem d_T_putDown_28 : decode prog_9_method_5_code 28 = .ok (.iload_n 3, 1) := by decide +kernel
theorem d_T_putDown_29 : decode prog_9_method_5_code 29 = .ok (.invokevirtual 47, 3) := by decide +kernel
theorem d_T_putDown_32 : decode prog_9_method_5_code 32 = .ok (.istore 5, 2) := by decide +kernel
theorem d_T_putDown_34 : decode prog_9_method_5_code 34 = .ok (.iload 5, 2) := by decide +kernel
theorem d_T_putDown_36 : decode prog_9_method_5_code 36 = .ok (.iconst (-1), 1) := by decide +kernel
theorem d_T_putDown_37 : decode prog_9_method_5_code 37 = .ok (.if_icmp .eq 27, 3) := by decide +kernel
theorem d_T_putDown_40 : decode prog_9_method_5_code 40 = .ok (.iload 5, 2) := by decide +kernel
theorem d_T_putDown_42 : decode prog_9_method_5_code 42 = .ok (.aload_n 0, 1) := by decide +kernel
theorem d_T_putDown_43 : decode prog_9_method_5_code 43 = .ok (.getfield 40, 3) := by decide +kernel
theorem d_T_putDown_46 : decode prog_9_method_5_code 46 = .ok (.if_icmp .lt 8, 3) := by decide +kernel
theorem d_T_putDown_49 : decode prog_9_method_5_code 49 = .ok (.iload 4, 2) := by decide +kernel
theorem d_T_putDown_51 : decode prog_9_method_5_code 51 = .ok (.ifCond .eq 13, 3) := by decide +kernel
theorem d_T_putDown_54 : decode prog_9_method_5_code 54 = .ok (.aload_n 0, 1) := by decide +kernel
theorem d_T_putDown_55 : decode prog_9_method_5_code 55 = .ok (.aload_n 1, 1) := by decide +kernel
theorem d_T_putDown_56 : decode prog_9_method_5_code 56 = .ok (.iload 5, 2) := by decide +kernel
theorem d_T_putDown_58 : decode prog_9_method_5_code 58 = .ok (.invokevirtual 50, 3) := by decide +kernel
theorem d_T_putDown_61 : decode prog_9_method_5_code 61 = .ok (.goto 46, 3) := by decide +kernel
theorem d_T_putDown_64 : decode prog_9_method_5_code 64 = .ok (.iload 5, 2) := by decide +kernel
theorem d_T_putDown_66 : decode prog_9_method_5_code 66 = .ok (.iconst (-1), 1) := by decide +kernel
theorem d_T_putDown_67 : decode prog_9_method_5_code 67 = .ok (.if_icmp .ne 30, 3) := by decide +kernel
theorem d_T_putDown_70 : decode prog_9_method_5_code 70 = .ok (.iload 4, 2) := by decide +kernel
theorem d_T_putDown_72 : decode prog_9_method_5_code 72 = .ok (.ifCond .eq 25, 3) := by decide +kernel
theorem d_T_putDown_75 : decode prog_9_method_5_code 75 = .ok (.aload_n 0, 1) := by decide +kernel
theorem d_T_putDown_76 : decode prog_9_method_5_code 76 = .ok (.aload_n 1, 1) := by decide +kernel
theorem d_T_putDown_77 : decode prog_9_method_5_code 77 = .ok (.invokevirtual 54, 3) := by decide +kernel
theorem d_T_putDown_80 : decode prog_9_method_5_code 80 = .ok (.ifCond .eq 17, 3) := by decide +kernel
theorem d_T_putDown_83 : decode prog_9_method_5_code 83 = .ok (.aload_n 0, 1) := by decide +kernel
theorem d_T_putDown_84 : decode prog_9_method_5_code 84 = .ok (.aload_n 1, 1) := by decide +kernel
theorem d_T_putDown_85 : decode prog_9_method_5_code 85 = .ok (.aload_n 0, 1) := by decide +kernel
theorem d_T_putDown_86 : decode prog_9_method_5_code 86 = .ok (.iload_n 2, 1) := by decide +kernel
theorem d_T_putDown_87 : decode prog_9_method_5_code 87 = .ok (.iload_n 3, 1) := by decide +kernel
theorem d_T_putDown_88 : decode prog_9_method_5_code 88 = .ok (.invokevirtual 58, 3) := by decide +kernel
theorem d_T_putDown_91 : decode prog_9_method_5_code 91 = .ok (.invokevirtual 50, 3) := by decide +kernel
theorem d_T_putDown_94 : decode prog_9_method_5_code 94 = .ok (.goto 13, 3) := by decide +kernel
theorem d_T_putDown_97 : decode prog_9_method_5_code 97 = .ok (.aload_n 0, 1) := by decide +kernel
theorem d_T_putDown_98 : decode prog_9_method_5_code 98 = .ok (.dup, 1) := by decide +kernel
theorem d_T_putDown_99 : decode prog_9_method_5_code 99 = .ok (.getfield 61, 3) := by decide +kernel
theorem d_T_putDown_102 : decode prog_9_method_5_code 102 = .ok (.iconst 1, 1) := by decide +kernel
theorem d_T_putDown_103 : decode prog_9_method_5_code 103 = .ok (.iadd, 1) := by decide +kernel
theorem d_T_putDown_104 : decode prog_9_method_5_code 104 = .ok (.putfield 61, 3) := by decide +kernel
theorem d_T_putDown_107 : decode prog_9_method_5_code 107 = .ok (.return_, 1) := by decide +kernel
theorem d_T_keepIfReferring_0 : decode prog_9_method_6_code 0 = .ok (.aload_n 1, 1) := by decide +kernel
theorem d_T_keepIfReferring_1 : decode prog_9_method_6_code 1 = .ok (.getfield 64, 3) := by decide +kernel
theorem d_T_keepIfReferring_4 : decode prog_9_method_6_code 4 = .ok (.ifCond .eq 15, 3) := by decide +kernel
theorem d_T_keepIfReferring_7 : decode prog_9_method_6_code 7 = .ok (.aload_n 0, 1) := by decide +kernel
theorem d_T_keepIfReferring_8 : decode prog_9_method_6_code 8 = .ok (.getfield 67, 3) := by decide +kernel
theorem d_T_keepIfReferring_11 : decode prog_9_method_6_code 11 = .ok (.aload_n 0, 1) := by decide +kernel
theorem d_T_keepIfReferring_12 : decode prog_9_method_6_code 12 = .ok (.getfield 20, 3) := by decide +kernel
theorem d_T_keepIfReferring_15 : decode prog_9_method_6_code 15 = .ok (.arraylength, 1) := by decide +kernel
theorem d_T_keepIfReferring_16 : decode prog_9_method_6_code 16 = .ok (.if_icmp .lt 4, 3) := by decide +kernel
theorem d_T_keepIfReferring_19 : decode prog_9_method_6_code 19 = .ok (.return_, 1) := by decide +kernel
theorem d_T_keepIfReferring_20 : decode prog_9_method_6_code 20 = .ok (.aload_n 1, 1) := by decide +kernel
theorem d_T_keepIfReferring_21 : decode prog_9_method_6_code 21 = .ok (.iconst 1, 1) := by decide +kernel
theorem d_T_keepIfReferring_22 : decode prog_9_method_6_code 22 = .ok (.putfield 70, 3) := by decide +kernel
theorem d_T_keepIfReferring_25 : decode prog_9_method_6_code 25 = .ok (.aload_n 0, 1) := by decide +kernel
theorem d_T_keepIfReferring_26 : decode prog_9_method_6_code 26 = .ok (.getfield 20, 3) := by decide +kernel
theorem d_T_keepIfReferring_29 : decode prog_9_method_6_code 29 = .ok (.aload_n 0, 1) := by decide +kernel
theorem d_T_keepIfReferring_30 : decode prog_9_method_6_code 30 = .ok (.getfield 67, 3) := by decide +kernel
theorem d_T_keepIfReferring_33 : decode prog_9_method_6_code 33 = .ok (.aload_n 1, 1) := by decide +kernel
theorem d_T_keepIfReferring_34 : decode prog_9_method_6_code 34 = .ok (.aastore, 1) := by decide +kernel
theorem d_T_keepIfReferring_35 : decode prog_9_method_6_code 35 = .ok (.aload_n 0, 1) := by decide +kernel
theorem d_T_keepIfReferring_36 : decode prog_9_method_6_code 36 = .ok (.dup, 1) := by decide +kernel
theorem d_T_keepIfReferring_37 : decode prog_9_method_6_code 37 = .ok (.getfield 67, 3) := by decide +kernel
theorem d_T_keepIfReferring_40 : decode prog_9_method_6_code 40 = .ok (.iconst 1, 1) := by decide +kernel
theorem d_T_keepIfReferring_41 : decode prog_9_method_6_code 41 = .ok (.iadd, 1) := by decide +kernel
theorem d_T_keepIfReferring_42 : decode prog_9_method_6_code 42 = .ok (.putfield 67, 3) := by decide +kernel
theorem d_T_keepIfReferring_45 : decode prog_9_method_6_code 45 = .ok (.return_, 1) := by decide +kernel
theorem d_T_learn_0 : decode prog_9_method_7_code 0 = .ok (.aload_n 0, 1) := by decide +kernel
theorem d_T_learn_1 : decode prog_9_method_7_code 1 = .ok (.aload_n 0, 1) := by decide +kernel
theorem d_T_learn_2 : decode prog_9_method_7_code 2 = .ok (.getfield 40, 3) := by decide +kernel
theorem d_T_learn_5 : decode prog_9_method_7_code 5 = .ok (.iload_n 1, 1) := by decide +kernel
theorem d_T_learn_6 : decode prog_9_method_7_code 6 = .ok (.invokestatic 74, 3) := by decide +kernel
theorem d_T_learn_9 : decode prog_9_method_7_code 9 = .ok (.putfield 40, 3) := by decide +kernel
theorem d_T_learn_12 : decode prog_9_method_7_code 12 = .ok (.return_, 1) := by decide +kernel
theorem d_S_init_0 : decode prog_7_method_1_code 0 = .ok (.aload_n 0, 1) := by decide +kernel
theorem d_S_init_1 : decode prog_7_method_1_code 1 = .ok (.invokespecial 3, 3) := by decide +kernel
theorem d_S_init_4 : decode prog_7_method_1_code 4 = .ok (.aload_n 0, 1) := by decide +kernel
theorem d_S_init_5 : decode prog_7_method_1_code 5 = .ok (.bipush 6, 2) := by decide +kernel
theorem d_S_init_7 : decode prog_7_method_1_code 7 = .ok (.anewarray 9, 3) := by decide +kernel
theorem d_S_init_10 : decode prog_7_method_1_code 10 = .ok (.putfield 11, 3) := by decide +kernel
theorem d_S_init_13 : decode prog_7_method_1_code 13 = .ok (.iconst 0, 1) := by decide +kernel
theorem d_S_init_14 : decode prog_7_method_1_code 14 = .ok (.istore_n 1, 1) := by decide +kernel
theorem d_S_init_15 : decode prog_7_method_1_code 15 = .ok (.iload_n 1, 1) := by decide +kernel
theorem d_S_init_16 : decode prog_7_method_1_code 16 = .ok (.aload_n 0, 1) := by decide +kernel
theorem d_S_init_17 : decode prog_7_method_1_code 17 = .ok (.getfield 11, 3) := by decide +kernel
theorem d_S_init_20 : decode prog_7_method_1_code 20 = .ok (.arraylength, 1) := by decide +kernel
theorem d_S_init_21 : decode prog_7_method_1_code 21 = .ok (.if_icmp .ge 22, 3) := by decide +kernel
theorem d_S_init_24 : decode prog_7_method_1_code 24 = .ok (.aload_n 0, 1) := by decide +kernel
theorem d_S_init_25 : decode prog_7_method_1_code 25 = .ok (.getfield 11, 3) := by decide +kernel
theorem d_S_init_28 : decode prog_7_method_1_code 28 = .ok (.iload_n 1, 1) := by decide +kernel
theorem d_S_init_29 : decode prog_7_method_1_code 29 = .ok (.new 9, 3) := by decide +kernel
theorem d_S_init_32 : decode prog_7_method_1_code 32 = .ok (.dup, 1) := by decide +kernel
theorem d_S_init_33 : decode prog_7_method_1_code 33 = .ok (.invokespecial 17, 3) := by decide +kernel
theorem d_S_init_36 : decode prog_7_method_1_code 36 = .ok (.aastore, 1) := by decide +kernel
theorem d_S_init_37 : decode prog_7_method_1_code 37 = .ok (.iinc 1 1, 3) := by decide +kernel
theorem d_S_init_40 : decode prog_7_method_1_code 40 = .ok (.goto (-25), 3) := by decide +kernel
theorem d_S_init_43 : decode prog_7_method_1_code 43 = .ok (.aload_n 0, 1) := by decide +kernel
theorem d_S_init_44 : decode prog_7_method_1_code 44 = .ok (.new 18, 3) := by decide +kernel
theorem d_S_init_47 : decode prog_7_method_1_code 47 = .ok (.dup, 1) := by decide +kernel
theorem d_S_init_48 : decode prog_7_method_1_code 48 = .ok (.invokespecial 20, 3) := by decide +kernel
theorem d_S_init_51 : decode prog_7_method_1_code 51 = .ok (.putfield 21, 3) := by decide +kernel
theorem d_S_init_54 : decode prog_7_method_1_code 54 = .ok (.return_, 1) := by decide +kernel
theorem d_S_resourceAt_0 : decode prog_7_method_2_code 0 = .ok (.iload_n 1, 1) := by decide +kernel
theorem d_S_resourceAt_1 : decode prog_7_method_2_code 1 = .ok (.ifCond .lt 21, 3) := by decide +kernel
theorem d_S_resourceAt_4 : decode prog_7_method_2_code 4 = .ok (.iload_n 1, 1) := by decide +kernel
theorem d_S_resourceAt_5 : decode prog_7_method_2_code 5 = .ok (.aload_n 0, 1) := by decide +kernel
theorem d_S_resourceAt_6 : decode prog_7_method_2_code 6 = .ok (.getfield 11, 3) := by decide +kernel
theorem d_S_resourceAt_9 : decode prog_7_method_2_code 9 = .ok (.arraylength, 1) := by decide +kernel
theorem d_S_resourceAt_10 : decode prog_7_method_2_code 10 = .ok (.if_icmp .ge 12, 3) := by decide +kernel
theorem d_S_resourceAt_13 : decode prog_7_method_2_code 13 = .ok (.aload_n 0, 1) := by decide +kernel
theorem d_S_resourceAt_14 : decode prog_7_method_2_code 14 = .ok (.getfield 11, 3) := by decide +kernel
theorem d_S_resourceAt_17 : decode prog_7_method_2_code 17 = .ok (.iload_n 1, 1) := by decide +kernel
theorem d_S_resourceAt_18 : decode prog_7_method_2_code 18 = .ok (.aaload, 1) := by decide +kernel
theorem d_S_resourceAt_19 : decode prog_7_method_2_code 19 = .ok (.goto 4, 3) := by decide +kernel
theorem d_S_resourceAt_22 : decode prog_7_method_2_code 22 = .ok (.aconst_null, 1) := by decide +kernel
theorem d_S_resourceAt_23 : decode prog_7_method_2_code 23 = .ok (.areturn, 1) := by decide +kernel
theorem d_S_write_0 : decode prog_7_method_3_code 0 = .ok (.aload_n 0, 1) := by decide +kernel
theorem d_S_write_1 : decode prog_7_method_3_code 1 = .ok (.dup, 1) := by decide +kernel
theorem d_S_write_2 : decode prog_7_method_3_code 2 = .ok (.getfield 25, 3) := by decide +kernel
theorem d_S_write_5 : decode prog_7_method_3_code 5 = .ok (.iconst 1, 1) := by decide +kernel
theorem d_S_write_6 : decode prog_7_method_3_code 6 = .ok (.iadd, 1) := by decide +kernel
theorem d_S_write_7 : decode prog_7_method_3_code 7 = .ok (.putfield 25, 3) := by decide +kernel
theorem d_S_write_10 : decode prog_7_method_3_code 10 = .ok (.aload_n 1, 1) := by decide +kernel
theorem d_S_write_11 : decode prog_7_method_3_code 11 = .ok (.iconst 1, 1) := by decide +kernel
theorem d_S_write_12 : decode prog_7_method_3_code 12 = .ok (.putfield 29, 3) := by decide +kernel
theorem d_S_write_15 : decode prog_7_method_3_code 15 = .ok (.aload_n 1, 1) := by decide +kernel
theorem d_S_write_16 : decode prog_7_method_3_code 16 = .ok (.aload_n 0, 1) := by decide +kernel
theorem d_S_write_17 : decode prog_7_method_3_code 17 = .ok (.getfield 25, 3) := by decide +kernel
theorem d_S_write_20 : decode prog_7_method_3_code 20 = .ok (.putfield 33, 3) := by decide +kernel
theorem d_S_write_23 : decode prog_7_method_3_code 23 = .ok (.aload_n 1, 1) := by decide +kernel
theorem d_S_write_24 : decode prog_7_method_3_code 24 = .ok (.iload_n 2, 1) := by decide +kernel
theorem d_S_write_25 : decode prog_7_method_3_code 25 = .ok (.putfield 36, 3) := by decide +kernel
theorem d_S_write_28 : decode prog_7_method_3_code 28 = .ok (.aload_n 1, 1) := by decide +kernel
theorem d_S_write_29 : decode prog_7_method_3_code 29 = .ok (.iload_n 3, 1) := by decide +kernel
theorem d_S_write_30 : decode prog_7_method_3_code 30 = .ok (.putfield 39, 3) := by decide +kernel
theorem d_S_write_33 : decode prog_7_method_3_code 33 = .ok (.return_, 1) := by decide +kernel
theorem d_S_answerPut_0 : decode prog_7_method_7_code 0 = .ok (.aload_n 2, 1) := by decide +kernel
theorem d_S_answerPut_1 : decode prog_7_method_7_code 1 = .ok (.getfield 29, 3) := by decide +kernel
theorem d_S_answerPut_4 : decode prog_7_method_7_code 4 = .ok (.ifCond .eq 18, 3) := by decide +kernel
theorem d_S_answerPut_7 : decode prog_7_method_7_code 7 = .ok (.aload_n 2, 1) := by decide +kernel
theorem d_S_answerPut_8 : decode prog_7_method_7_code 8 = .ok (.getfield 33, 3) := by decide +kernel
theorem d_S_answerPut_11 : decode prog_7_method_7_code 11 = .ok (.aload_n 1, 1) := by decide +kernel
theorem d_S_answerPut_12 : decode prog_7_method_7_code 12 = .ok (.getfield 95, 3) := by decide +kernel
theorem d_S_answerPut_15 : decode prog_7_method_7_code 15 = .ok (.if_icmp .ne 7, 3) := by decide +kernel
theorem d_S_answerPut_18 : decode prog_7_method_7_code 18 = .ok (.iconst 1, 1) := by decide +kernel
theorem d_S_answerPut_19 : decode prog_7_method_7_code 19 = .ok (.goto 4, 3) := by decide +kernel
theorem d_S_answerPut_22 : decode prog_7_method_7_code 22 = .ok (.iconst 0, 1) := by decide +kernel
theorem d_S_answerPut_23 : decode prog_7_method_7_code 23 = .ok (.istore_n 3, 1) := by decide +kernel
theorem d_S_answerPut_24 : decode prog_7_method_7_code 24 = .ok (.aload_n 1, 1) := by decide +kernel
theorem d_S_answerPut_25 : decode prog_7_method_7_code 25 = .ok (.getfield 95, 3) := by decide +kernel
theorem d_S_answerPut_28 : decode prog_7_method_7_code 28 = .ok (.ifCond .eq 18, 3) := by decide +kernel
theorem d_S_answerPut_31 : decode prog_7_method_7_code 31 = .ok (.iload_n 3, 1) := by decide +kernel
theorem d_S_answerPut_32 : decode prog_7_method_7_code 32 = .ok (.ifCond .ne 14, 3) := by decide +kernel
theorem d_S_answerPut_35 : decode prog_7_method_7_code 35 = .ok (.new 88, 3) := by decide +kernel
theorem d_S_answerPut_38 : decode prog_7_method_7_code 38 = .ok (.dup, 1) := by decide +kernel
theorem d_S_answerPut_39 : decode prog_7_method_7_code 39 = .ok (.sipush 412, 3) := by decide +kernel
theorem d_S_answerPut_42 : decode prog_7_method_7_code 42 = .ok (.invokespecial 92, 3) := by decide +kernel
theorem d_S_answerPut_45 : decode prog_7_method_7_code 45 = .ok (.areturn, 1) := by decide +kernel
theorem d_S_answerPut_46 : decode prog_7_method_7_code 46 = .ok (.aload_n 0, 1) := by decide +kernel
theorem d_S_answerPut_47 : decode prog_7_method_7_code 47 = .ok (.aload_n 2, 1) := by decide +kernel
theorem d_S_answerPut_48 : decode prog_7_method_7_code 48 = .ok (.aload_n 1, 1) := by decide +kernel
theorem d_S_answerPut_49 : decode prog_7_method_7_code 49 = .ok (.getfield 103, 3) := by decide +kernel
theorem d_S_answerPut_52 : decode prog_7_method_7_code 52 = .ok (.aload_n 1, 1) := by decide +kernel
theorem d_S_answerPut_53 : decode prog_7_method_7_code 53 = .ok (.getfield 104, 3) := by decide +kernel
theorem d_S_answerPut_56 : decode prog_7_method_7_code 56 = .ok (.invokevirtual 105, 3) := by decide +kernel
theorem d_S_answerPut_59 : decode prog_7_method_7_code 59 = .ok (.new 88, 3) := by decide +kernel
theorem d_S_answerPut_62 : decode prog_7_method_7_code 62 = .ok (.dup, 1) := by decide +kernel
theorem d_S_answerPut_63 : decode prog_7_method_7_code 63 = .ok (.sipush 200, 3) := by decide +kernel
theorem d_S_answerPut_66 : decode prog_7_method_7_code 66 = .ok (.invokespecial 92, 3) := by decide +kernel
theorem d_S_answerPut_69 : decode prog_7_method_7_code 69 = .ok (.astore 4, 2) := by decide +kernel
theorem d_S_answerPut_71 : decode prog_7_method_7_code 71 = .ok (.aload_n 0, 1) := by decide +kernel
theorem d_S_answerPut_72 : decode prog_7_method_7_code 72 = .ok (.getfield 21, 3) := by decide +kernel
theorem d_S_answerPut_75 : decode prog_7_method_7_code 75 = .ok (.aload 4, 2) := by decide +kernel
theorem d_S_answerPut_77 : decode prog_7_method_7_code 77 = .ok (.iconst 0, 1) := by decide +kernel
theorem d_S_answerPut_78 : decode prog_7_method_7_code 78 = .ok (.aload_n 2, 1) := by decide +kernel
theorem d_S_answerPut_79 : decode prog_7_method_7_code 79 = .ok (.getfield 33, 3) := by decide +kernel
theorem d_S_answerPut_82 : decode prog_7_method_7_code 82 = .ok (.invokevirtual 98, 3) := by decide +kernel
theorem d_S_answerPut_85 : decode prog_7_method_7_code 85 = .ok (.aload 4, 2) := by decide +kernel
theorem d_S_answerPut_87 : decode prog_7_method_7_code 87 = .ok (.areturn, 1) := by decide +kernel
theorem d_S_answerGet_0 : decode prog_7_method_6_code 0 = .ok (.aload_n 2, 1) := by decide +kernel
theorem d_S_answerGet_1 : decode prog_7_method_6_code 1 = .ok (.getfield 29, 3) := by decide +kernel
theorem d_S_answerGet_4 : decode prog_7_method_6_code 4 = .ok (.ifCond .ne 14, 3) := by decide +kernel
theorem d_S_answerGet_7 : decode prog_7_method_6_code 7 = .ok (.new 88, 3) := by decide +kernel
theorem d_S_answerGet_10 : decode prog_7_method_6_code 10 = .ok (.dup, 1) := by decide +kernel
theorem d_S_answerGet_11 : decode prog_7_method_6_code 11 = .ok (.sipush 404, 3) := by decide +kernel
theorem d_S_answerGet_14 : decode prog_7_method_6_code 14 = .ok (.invokespecial 92, 3) := by decide +kernel
theorem d_S_answerGet_17 : decode prog_7_method_6_code 17 = .ok (.areturn, 1) := by decide +kernel
theorem d_S_answerGet_18 : decode prog_7_method_6_code 18 = .ok (.aload_n 1, 1) := by decide +kernel
theorem d_S_answerGet_19 : decode prog_7_method_6_code 19 = .ok (.getfield 95, 3) := by decide +kernel
theorem d_S_answerGet_22 : decode prog_7_method_6_code 22 = .ok (.aload_n 2, 1) := by decide +kernel
theorem d_S_answerGet_23 : decode prog_7_method_6_code 23 = .ok (.getfield 33, 3) := by decide +kernel
theorem d_S_answerGet_26 : decode prog_7_method_6_code 26 = .ok (.if_icmp .ne 7, 3) := by decide +kernel
theorem d_S_answerGet_29 : decode prog_7_method_6_code 29 = .ok (.iconst 1, 1) := by decide +kernel
theorem d_S_answerGet_30 : decode prog_7_method_6_code 30 = .ok (.goto 4, 3) := by decide +kernel
theorem d_S_answerGet_33 : decode prog_7_method_6_code 33 = .ok (.iconst 0, 1) := by decide +kernel
theorem d_S_answerGet_34 : decode prog_7_method_6_code 34 = .ok (.istore_n 3, 1) := by decide +kernel
theorem d_S_answerGet_35 : decode prog_7_method_6_code 35 = .ok (.new 88, 3) := by decide +kernel
theorem d_S_answerGet_38 : decode prog_7_method_6_code 38 = .ok (.dup, 1) := by decide +kernel
theorem d_S_answerGet_39 : decode prog_7_method_6_code 39 = .ok (.iload_n 3, 1) := by decide +kernel
theorem d_S_answerGet_40 : decode prog_7_method_6_code 40 = .ok (.ifCond .eq 9, 3) := by decide +kernel
theorem d_S_answerGet_43 : decode prog_7_method_6_code 43 = .ok (.sipush 304, 3) := by decide +kernel
theorem d_S_answerGet_46 : decode prog_7_method_6_code 46 = .ok (.goto 6, 3) := by decide +kernel
theorem d_S_answerGet_49 : decode prog_7_method_6_code 49 = .ok (.sipush 200, 3) := by decide +kernel
theorem d_S_answerGet_52 : decode prog_7_method_6_code 52 = .ok (.invokespecial 92, 3) := by decide +kernel
theorem d_S_answerGet_55 : decode prog_7_method_6_code 55 = .ok (.astore 4, 2) := by decide +kernel
theorem d_S_answerGet_57 : decode prog_7_method_6_code 57 = .ok (.aload 4, 2) := by decide +kernel
theorem d_S_answerGet_59 : decode prog_7_method_6_code 59 = .ok (.aload_n 2, 1) := by decide +kernel
theorem d_S_answerGet_60 : decode prog_7_method_6_code 60 = .ok (.getfield 33, 3) := by decide +kernel
theorem d_S_answerGet_63 : decode prog_7_method_6_code 63 = .ok (.putfield 96, 3) := by decide +kernel
theorem d_S_answerGet_66 : decode prog_7_method_6_code 66 = .ok (.aload 4, 2) := by decide +kernel
theorem d_S_answerGet_68 : decode prog_7_method_6_code 68 = .ok (.aload_n 2, 1) := by decide +kernel
theorem d_S_answerGet_69 : decode prog_7_method_6_code 69 = .ok (.getfield 39, 3) := by decide +kernel
theorem d_S_answerGet_72 : decode prog_7_method_6_code 72 = .ok (.putfield 97, 3) := by decide +kernel
theorem d_S_answerGet_75 : decode prog_7_method_6_code 75 = .ok (.aload_n 0, 1) := by decide +kernel
theorem d_S_answerGet_76 : decode prog_7_method_6_code 76 = .ok (.getfield 21, 3) := by decide +kernel
theorem d_S_answerGet_79 : decode prog_7_method_6_code 79 = .ok (.aload 4, 2) := by decide +kernel
theorem d_S_answerGet_81 : decode prog_7_method_6_code 81 = .ok (.iconst 0, 1) := by decide +kernel
theorem d_S_answerGet_82 : decode prog_7_method_6_code 82 = .ok (.aload_n 2, 1) := by decide +kernel
theorem d_S_answerGet_83 : decode prog_7_method_6_code 83 = .ok (.getfield 33, 3) := by decide +kernel
theorem d_S_answerGet_86 : decode prog_7_method_6_code 86 = .ok (.invokevirtual 98, 3) := by decide +kernel
theorem d_S_answerGet_89 : decode prog_7_method_6_code 89 = .ok (.aload_n 0, 1) := by decide +kernel
theorem d_S_answerGet_90 : decode prog_7_method_6_code 90 = .ok (.getfield 21, 3) := by decide +kernel
theorem d_S_answerGet_93 : decode prog_7_method_6_code 93 = .ok (.aload 4, 2) := by decide +kernel
theorem d_S_answerGet_95 : decode prog_7_method_6_code 95 = .ok (.iconst 1, 1) := by decide +kernel
theorem d_S_answerGet_96 : decode prog_7_method_6_code 96 = .ok (.aload_n 2, 1) := by decide +kernel
theorem d_S_answerGet_97 : decode prog_7_method_6_code 97 = .ok (.getfield 39, 3) := by decide +kernel
theorem d_S_answerGet_100 : decode prog_7_method_6_code 100 = .ok (.invokevirtual 98, 3) := by decide +kernel
theorem d_S_answerGet_103 : decode prog_7_method_6_code 103 = .ok (.iload_n 3, 1) := by decide +kernel
theorem d_S_answerGet_104 : decode prog_7_method_6_code 104 = .ok (.ifCond .ne 26, 3) := by decide +kernel
theorem d_S_answerGet_107 : decode prog_7_method_6_code 107 = .ok (.aload 4, 2) := by decide +kernel
theorem d_S_answerGet_109 : decode prog_7_method_6_code 109 = .ok (.aload_n 2, 1) := by decide +kernel
theorem d_S_answerGet_110 : decode prog_7_method_6_code 110 = .ok (.getfield 36, 3) := by decide +kernel
theorem d_S_answerGet_113 : decode prog_7_method_6_code 113 = .ok (.putfield 102, 3) := by decide +kernel
theorem d_S_answerGet_116 : decode prog_7_method_6_code 116 = .ok (.aload_n 0, 1) := by decide +kernel
theorem d_S_answerGet_117 : decode prog_7_method_6_code 117 = .ok (.getfield 21, 3) := by decide +kernel
theorem d_S_answerGet_120 : decode prog_7_method_6_code 120 = .ok (.aload 4, 2) := by decide +kernel
theorem d_S_answerGet_122 : decode prog_7_method_6_code 122 = .ok (.iconst 2, 1) := by decide +kernel
theorem d_S_answerGet_123 : decode prog_7_method_6_code 123 = .ok (.aload_n 2, 1) := by decide +kernel
theorem d_S_answerGet_124 : decode prog_7_method_6_code 124 = .ok (.getfield 36, 3) := by decide +kernel
theorem d_S_answerGet_127 : decode prog_7_method_6_code 127 = .ok (.invokevirtual 98, 3) := by decide +kernel
theorem d_S_answerGet_130 : decode prog_7_method_6_code 130 = .ok (.aload 4, 2) := by decide +kernel
theorem d_S_answerGet_132 : decode prog_7_method_6_code 132 = .ok (.areturn, 1) := by decide +kernel
theorem d_S_takeRequest_0 : decode prog_7_method_4_code 0 = .ok (.aload_n 0, 1) := by decide +kernel
theorem d_S_takeRequest_1 : decode prog_7_method_4_code 1 = .ok (.aload_n 1, 1) := by decide +kernel
theorem d_S_takeRequest_2 : decode prog_7_method_4_code 2 = .ok (.getfield 42, 3) := by decide +kernel
theorem d_S_takeRequest_5 : decode prog_7_method_4_code 5 = .ok (.invokevirtual 47, 3) := by decide +kernel
theorem d_S_takeRequest_8 : decode prog_7_method_4_code 8 = .ok (.astore_n 2, 1) := by decide +kernel
theorem d_S_takeRequest_9 : decode prog_7_method_4_code 9 = .ok (.aload_n 2, 1) := by decide +kernel
theorem d_S_takeRequest_10 : decode prog_7_method_4_code 10 = .ok (.ifnull 21, 3) := by decide +kernel
theorem d_S_takeRequest_13 : decode prog_7_method_4_code 13 = .ok (.aload_n 0, 1) := by decide +kernel
theorem d_S_takeRequest_14 : decode prog_7_method_4_code 14 = .ok (.getfield 51, 3) := by decide +kernel
theorem d_S_takeRequest_17 : decode prog_7_method_4_code 17 = .ok (.ifCond .eq 16, 3) := by decide +kernel
theorem d_S_takeRequest_20 : decode prog_7_method_4_code 20 = .ok (.aload_n 1, 1) := by decide +kernel
theorem d_S_takeRequest_21 : decode prog_7_method_4_code 21 = .ok (.getfield 54, 3) := by decide +kernel
theorem d_S_takeRequest_24 : decode prog_7_method_4_code 24 = .ok (.aload_n 0, 1) := by decide +kernel
theorem d_S_takeRequest_25 : decode prog_7_method_4_code 25 = .ok (.getfield 57, 3) := by decide +kernel
theorem d_S_takeRequest_28 : decode prog_7_method_4_code 28 = .ok (.if_icmp .lt 5, 3) := by decide +kernel
theorem d_S_takeRequest_31 : decode prog_7_method_4_code 31 = .ok (.iconst 0, 1) := by decide +kernel
theorem d_S_takeRequest_32 : decode prog_7_method_4_code 32 = .ok (.ireturn, 1) := by decide +kernel
theorem d_S_takeRequest_33 : decode prog_7_method_4_code 33 = .ok (.aload_n 0, 1) := by decide +kernel
theorem d_S_takeRequest_34 : decode prog_7_method_4_code 34 = .ok (.aload_n 0, 1) := by decide +kernel
theorem d_S_takeRequest_35 : decode prog_7_method_4_code 35 = .ok (.getfield 60, 3) := by decide +kernel
theorem d_S_takeRequest_38 : decode prog_7_method_4_code 38 = .ok (.aload_n 1, 1) := by decide +kernel
theorem d_S_takeRequest_39 : decode prog_7_method_4_code 39 = .ok (.getfield 54, 3) := by decide +kernel
theorem d_S_takeRequest_42 : decode prog_7_method_4_code 42 = .ok (.iconst 1, 1) := by decide +kernel
theorem d_S_takeRequest_43 : decode prog_7_method_4_code 43 = .ok (.iadd, 1) := by decide +kernel
theorem d_S_takeRequest_44 : decode prog_7_method_4_code 44 = .ok (.invokestatic 63, 3) := by decide +kernel
theorem d_S_takeRequest_47 : decode prog_7_method_4_code 47 = .ok (.putfield 60, 3) := by decide +kernel
theorem d_S_takeRequest_50 : decode prog_7_method_4_code 50 = .ok (.aload_n 1, 1) := by decide +kernel
theorem d_S_takeRequest_51 : decode prog_7_method_4_code 51 = .ok (.getfield 69, 3) := by decide +kernel
theorem d_S_takeRequest_54 : decode prog_7_method_4_code 54 = .ok (.ifCond .eq 12, 3) := by decide +kernel
theorem d_S_takeRequest_57 : decode prog_7_method_4_code 57 = .ok (.aload_n 0, 1) := by decide +kernel
theorem d_S_takeRequest_58 : decode prog_7_method_4_code 58 = .ok (.aload_n 1, 1) := by decide +kernel
theorem d_S_takeRequest_59 : decode prog_7_method_4_code 59 = .ok (.aload_n 2, 1) := by decide +kernel
theorem d_S_takeRequest_60 : decode prog_7_method_4_code 60 = .ok (.invokevirtual 72, 3) := by decide +kernel
theorem d_S_takeRequest_63 : decode prog_7_method_4_code 63 = .ok (.goto 9, 3) := by decide +kernel
theorem d_S_takeRequest_66 : decode prog_7_method_4_code 66 = .ok (.aload_n 0, 1) := by decide +kernel
theorem d_S_takeRequest_67 : decode prog_7_method_4_code 67 = .ok (.aload_n 1, 1) := by decide +kernel
theorem d_S_takeRequest_68 : decode prog_7_method_4_code 68 = .ok (.aload_n 2, 1) := by decide +kernel
theorem d_S_takeRequest_69 : decode prog_7_method_4_code 69 = .ok (.invokevirtual 76, 3) := by decide +kernel
theorem d_S_takeRequest_72 : decode prog_7_method_4_code 72 = .ok (.astore_n 3, 1) := by decide +kernel
theorem d_S_takeRequest_73 : decode prog_7_method_4_code 73 = .ok (.aload_n 0, 1) := by decide +kernel
theorem d_S_takeRequest_74 : decode prog_7_method_4_code 74 = .ok (.getfield 21, 3) := by decide +kernel
theorem d_S_takeRequest_77 : decode prog_7_method_4_code 77 = .ok (.aload_n 3, 1) := by decide +kernel
theorem d_S_takeRequest_78 : decode prog_7_method_4_code 78 = .ok (.invokevirtual 79, 3) := by decide +kernel
theorem d_S_takeRequest_81 : decode prog_7_method_4_code 81 = .ok (.aload_n 1, 1) := by decide +kernel
theorem d_S_takeRequest_82 : decode prog_7_method_4_code 82 = .ok (.aload_n 3, 1) := by decide +kernel
theorem d_S_takeRequest_83 : decode prog_7_method_4_code 83 = .ok (.putfield 83, 3) := by decide +kernel
theorem d_S_takeRequest_86 : decode prog_7_method_4_code 86 = .ok (.aload_n 3, 1) := by decide +kernel
theorem d_S_takeRequest_87 : decode prog_7_method_4_code 87 = .ok (.getfield 87, 3) := by decide +kernel
theorem d_S_takeRequest_90 : decode prog_7_method_4_code 90 = .ok (.ireturn, 1) := by decide +kernel
theorem d_S_announceLimit_0 : decode prog_7_method_5_code 0 = .ok (.aload_n 0, 1) := by decide +kernel
theorem d_S_announceLimit_1 : decode prog_7_method_5_code 1 = .ok (.getfield 51, 3) := by decide +kernel
theorem d_S_announceLimit_4 : decode prog_7_method_5_code 4 = .ok (.ifCond .ne 16, 3) := by decide +kernel
theorem d_S_announceLimit_7 : decode prog_7_method_5_code 7 = .ok (.aload_n 0, 1) := by decide +kernel
theorem d_S_announceLimit_8 : decode prog_7_method_5_code 8 = .ok (.iconst 1, 1) := by decide +kernel
theorem d_S_announceLimit_9 : decode prog_7_method_5_code 9 = .ok (.putfield 51, 3) := by decide +kernel
theorem d_S_announceLimit_12 : decode prog_7_method_5_code 12 = .ok (.aload_n 0, 1) := by decide +kernel
theorem d_S_announceLimit_13 : decode prog_7_method_5_code 13 = .ok (.aload_n 0, 1) := by decide +kernel
theorem d_S_announceLimit_14 : decode prog_7_method_5_code 14 = .ok (.getfield 60, 3) := by decide +kernel
theorem d_S_announceLimit_17 : decode prog_7_method_5_code 17 = .ok (.putfield 57, 3) := by decide +kernel
theorem d_S_announceLimit_20 : decode prog_7_method_5_code 20 = .ok (.return_, 1) := by decide +kernel
theorem d_M_floorMod_0 : decode prog_12_method_50_code 0 = .ok (.iload_n 0, 1) := by decide +kernel
theorem d_M_floorMod_1 : decode prog_12_method_50_code 1 = .ok (.iload_n 1, 1) := by decide +kernel
theorem d_M_floorMod_2 : decode prog_12_method_50_code 2 = .ok (.irem, 1) := by decide +kernel
theorem d_M_floorMod_3 : decode prog_12_method_50_code 3 = .ok (.istore_n 2, 1) := by decide +kernel
theorem d_M_floorMod_4 : decode prog_12_method_50_code 4 = .ok (.iload_n 0, 1) := by decide +kernel
theorem d_M_floorMod_5 : decode prog_12_method_50_code 5 = .ok (.iload_n 1, 1) := by decide +kernel
theorem d_M_floorMod_6 : decode prog_12_method_50_code 6 = .ok (.ixor, 1) := by decide +kernel
theorem d_M_floorMod_7 : decode prog_12_method_50_code 7 = .ok (.ifCond .ge 11, 3) := by decide +kernel
theorem d_M_floorMod_10 : decode prog_12_method_50_code 10 = .ok (.iload_n 2, 1) := by decide +kernel
theorem d_M_floorMod_11 : decode prog_12_method_50_code 11 = .ok (.ifCond .eq 7, 3) := by decide +kernel
theorem d_M_floorMod_14 : decode prog_12_method_50_code 14 = .ok (.iload_n 2, 1) := by decide +kernel
theorem d_M_floorMod_15 : decode prog_12_method_50_code 15 = .ok (.iload_n 1, 1) := by decide +kernel
theorem d_M_floorMod_16 : decode prog_12_method_50_code 16 = .ok (.iadd, 1) := by decide +kernel
theorem d_M_floorMod_17 : decode prog_12_method_50_code 17 = .ok (.ireturn, 1) := by decide +kernel
theorem d_M_floorMod_18 : decode prog_12_method_50_code 18 = .ok (.iload_n 2, 1) := by decide +kernel
theorem d_M_floorMod_19 : decode prog_12_method_50_code 19 = .ok (.ireturn, 1) := by decide +kernel
theorem d_X_init_0 : decode prog_1_method_1_code 0 = .ok (.aload_n 0, 1) := by decide +kernel
theorem d_X_init_1 : decode prog_1_method_1_code 1 = .ok (.invokespecial 3, 3) := by decide +kernel
theorem d_X_init_4 : decode prog_1_method_1_code 4 = .ok (.aload_n 0, 1) := by decide +kernel
theorem d_X_init_5 : decode prog_1_method_1_code 5 = .ok (.new 9, 3) := by decide +kernel
theorem d_X_init_8 : decode prog_1_method_1_code 8 = .ok (.dup, 1) := by decide +kernel
theorem d_X_init_9 : decode prog_1_method_1_code 9 = .ok (.invokespecial 11, 3) := by decide +kernel
theorem d_X_init_12 : decode prog_1_method_1_code 12 = .ok (.putfield 12, 3) := by decide +kernel
theorem d_X_init_15 : decode prog_1_method_1_code 15 = .ok (.aload_n 0, 1) := by decide +kernel
theorem d_X_init_16 : decode prog_1_method_1_code 16 = .ok (.new 16, 3) := by decide +kernel
theorem d_X_init_19 : decode prog_1_method_1_code 19 = .ok (.dup, 1) := by decide +kernel
theorem d_X_init_20 : decode prog_1_method_1_code 20 = .ok (.invokespecial 18, 3) := by decide +kernel
theorem d_X_init_23 : decode prog_1_method_1_code 23 = .ok (.putfield 19, 3) := by decide +kernel
theorem d_X_init_26 : decode prog_1_method_1_code 26 = .ok (.aload_n 0, 1) := by decide +kernel
theorem d_X_init_27 : decode prog_1_method_1_code 27 = .ok (.new 23, 3) := by decide +kernel
theorem d_X_init_30 : decode prog_1_method_1_code 30 = .ok (.dup, 1) := by decide +kernel
theorem d_X_init_31 : decode prog_1_method_1_code 31 = .ok (.invokespecial 25, 3) := by decide +kernel
theorem d_X_init_34 : decode prog_1_method_1_code 34 = .ok (.putfield 26, 3) := by decide +kernel
theorem d_X_init_37 : decode prog_1_method_1_code 37 = .ok (.aload_n 0, 1) := by decide +kernel
theorem d_X_init_38 : decode prog_1_method_1_code 38 = .ok (.bipush 60, 2) := by decide +kernel
theorem d_X_init_40 : decode prog_1_method_1_code 40 = .ok (.anewarray 30, 3) := by decide +kernel
theorem d_X_init_43 : decode prog_1_method_1_code 43 = .ok (.putfield 32, 3) := by decide +kernel
theorem d_X_init_46 : decode prog_1_method_1_code 46 = .ok (.aload_n 0, 1) := by decide +kernel
theorem d_X_init_47 : decode prog_1_method_1_code 47 = .ok (.iconst 0, 1) := by decide +kernel
theorem d_X_init_48 : decode prog_1_method_1_code 48 = .ok (.putfield 36, 3) := by decide +kernel
theorem d_X_init_51 : decode prog_1_method_1_code 51 = .ok (.aload_n 0, 1) := by decide +kernel
theorem d_X_init_52 : decode prog_1_method_1_code 52 = .ok (.iconst 0, 1) := by decide +kernel
theorem d_X_init_53 : decode prog_1_method_1_code 53 = .ok (.putfield 40, 3) := by decide +kernel
theorem d_X_init_56 : decode prog_1_method_1_code 56 = .ok (.return_, 1) := by decide +kernel
theorem d_X_isLifetime_0 : decode prog_1_method_20_code 0 = .ok (.iload_n 0, 1) := by decide +kernel
theorem d_X_isLifetime_1 : decode prog_1_method_20_code 1 = .ok (.ifCond .lt 14, 3) := by decide +kernel
theorem d_X_isLifetime_4 : decode prog_1_method_20_code 4 = .ok (.iload_n 0, 1) := by decide +kernel
theorem d_X_isLifetime_5 : decode prog_1_method_20_code 5 = .ok (.sipush 1000, 3) := by decide +kernel
theorem d_X_isLifetime_8 : decode prog_1_method_20_code 8 = .ok (.if_icmp .gt 7, 3) := by decide +kernel
theorem d_X_isLifetime_11 : decode prog_1_method_20_code 11 = .ok (.iconst 1, 1) := by decide +kernel
theorem d_X_isLifetime_12 : decode prog_1_method_20_code 12 = .ok (.goto 4, 3) := by decide +kernel
theorem d_X_isLifetime_15 : decode prog_1_method_20_code 15 = .ok (.iconst 0, 1) := by decide +kernel
theorem d_X_isLifetime_16 : decode prog_1_method_20_code 16 = .ok (.ireturn, 1) := by decide +kernel
theorem d_X_put_0 : decode prog_1_method_2_code 0 = .ok (.aload_n 0, 1) := by decide +kernel
theorem d_X_put_1 : decode prog_1_method_2_code 1 = .ok (.getfield 12, 3) := by decide +kernel
theorem d_X_put_4 : decode prog_1_method_2_code 4 = .ok (.iload_n 1, 1) := by decide +kernel
theorem d_X_put_5 : decode prog_1_method_2_code 5 = .ok (.invokevirtual 43, 3) := by decide +kernel
theorem d_X_put_8 : decode prog_1_method_2_code 8 = .ok (.astore 4, 2) := by decide +kernel
theorem d_X_put_10 : decode prog_1_method_2_code 10 = .ok (.aload 4, 2) := by decide +kernel
theorem d_X_put_12 : decode prog_1_method_2_code 12 = .ok (.ifnull 10, 3) := by decide +kernel
theorem d_X_put_15 : decode prog_1_method_2_code 15 = .ok (.iload_n 3, 1) := by decide +kernel
theorem d_X_put_16 : decode prog_1_method_2_code 16 = .ok (.invokestatic 47, 3) := by decide +kernel
theorem d_X_put_19 : decode prog_1_method_2_code 19 = .ok (.ifCond .ne 5, 3) := by decide +kernel
theorem d_X_put_22 : decode prog_1_method_2_code 22 = .ok (.iconst (-1), 1) := by decide +kernel
theorem d_X_put_23 : decode prog_1_method_2_code 23 = .ok (.ireturn, 1) := by decide +kernel
theorem d_X_put_24 : decode prog_1_method_2_code 24 = .ok (.aload_n 0, 1) := by decide +kernel
theorem d_X_put_25 : decode prog_1_method_2_code 25 = .ok (.getfield 12, 3) := by decide +kernel
theorem d_X_put_28 : decode prog_1_method_2_code 28 = .ok (.aload 4, 2) := by decide +kernel
theorem d_X_put_30 : decode prog_1_method_2_code 30 = .ok (.iload_n 2, 1) := by decide +kernel
theorem d_X_put_31 : decode prog_1_method_2_code 31 = .ok (.iload_n 3, 1) := by decide +kernel
theorem d_X_put_32 : decode prog_1_method_2_code 32 = .ok (.invokevirtual 51, 3) := by decide +kernel
theorem d_X_put_35 : decode prog_1_method_2_code 35 = .ok (.aload 4, 2) := by decide +kernel
theorem d_X_put_37 : decode prog_1_method_2_code 37 = .ok (.getfield 55, 3) := by decide +kernel
theorem d_X_put_40 : decode prog_1_method_2_code 40 = .ok (.ireturn, 1) := by decide +kernel
theorem d_X_drop_0 : decode prog_1_method_3_code 0 = .ok (.aload_n 0, 1) := by decide +kernel
theorem d_X_drop_1 : decode prog_1_method_3_code 1 = .ok (.getfield 12, 3) := by decide +kernel
theorem d_X_drop_4 : decode prog_1_method_3_code 4 = .ok (.iload_n 1, 1) := by decide +kernel
theorem d_X_drop_5 : decode prog_1_method_3_code 5 = .ok (.invokevirtual 43, 3) := by decide +kernel
theorem d_X_drop_8 : decode prog_1_method_3_code 8 = .ok (.astore_n 2, 1) := by decide +kernel
theorem d_X_drop_9 : decode prog_1_method_3_code 9 = .ok (.aload_n 2, 1) := by decide +kernel
theorem d_X_drop_10 : decode prog_1_method_3_code 10 = .ok (.ifnull 10, 3) := by decide +kernel
theorem d_X_drop_13 : decode prog_1_method_3_code 13 = .ok (.aload_n 2, 1) := by decide +kernel
theorem d_X_drop_14 : decode prog_1_method_3_code 14 = .ok (.getfield 60, 3) := by decide +kernel
theorem d_X_drop_17 : decode prog_1_method_3_code 17 = .ok (.ifCond .ne 5, 3) := by decide +kernel
theorem d_X_drop_20 : decode prog_1_method_3_code 20 = .ok (.iconst 0, 1) := by decide +kernel
theorem d_X_drop_21 : decode prog_1_method_3_code 21 = .ok (.ireturn, 1) := by decide +kernel
theorem d_X_drop_22 : decode prog_1_method_3_code 22 = .ok (.aload_n 2, 1) := by decide +kernel
theorem d_X_drop_23 : decode prog_1_method_3_code 23 = .ok (.iconst 0, 1) := by decide +kernel
theorem d_X_drop_24 : decode prog_1_method_3_code 24 = .ok (.putfield 60, 3) := by decide +kernel
theorem d_X_drop_27 : decode prog_1_method_3_code 27 = .ok (.iconst 1, 1) := by decide +kernel
theorem d_X_drop_28 : decode prog_1_method_3_code 28 = .ok (.ireturn, 1) := by decide +kernel
theorem d_X_makeRequest_0 : decode prog_1_method_22_code 0 = .ok (.aload_n 0, 1) := by decide +kernel
theorem d_X_makeRequest_1 : decode prog_1_method_22_code 1 = .ok (.getfield 19, 3) := by decide +kernel
theorem d_X_makeRequest_4 : decode prog_1_method_22_code 4 = .ok (.iload_n 1, 1) := by decide +kernel
theorem d_X_makeRequest_5 : decode prog_1_method_22_code 5 = .ok (.invokevirtual 164, 3) := by decide +kernel
theorem d_X_makeRequest_8 : decode prog_1_method_22_code 8 = .ok (.astore 5, 2) := by decide +kernel
theorem d_X_makeRequest_10 : decode prog_1_method_22_code 10 = .ok (.aload 5, 2) := by decide +kernel
theorem d_X_makeRequest_12 : decode prog_1_method_22_code 12 = .ok (.ifnull 15, 3) := by decide +kernel
theorem d_X_makeRequest_15 : decode prog_1_method_22_code 15 = .ok (.aload_n 0, 1) := by decide +kernel
theorem d_X_makeRequest_16 : decode prog_1_method_22_code 16 = .ok (.getfield 36, 3) := by decide +kernel
theorem d_X_makeRequest_19 : decode prog_1_method_22_code 19 = .ok (.aload_n 0, 1) := by decide +kernel
theorem d_X_makeRequest_20 : decode prog_1_method_22_code 20 = .ok (.getfield 32, 3) := by decide +kernel
theorem d_X_makeRequest_23 : decode prog_1_method_22_code 23 = .ok (.arraylength, 1) := by decide +kernel
theorem d_X_makeRequest_24 : decode prog_1_method_22_code 24 = .ok (.if_icmp .lt 5, 3) := by decide +kernel
theorem d_X_makeRequest_27 : decode prog_1_method_22_code 27 = .ok (.iconst (-1), 1) := by decide +kernel
theorem d_X_makeRequest_28 : decode prog_1_method_22_code 28 = .ok (.ireturn, 1) := by decide +kernel
theorem d_X_makeRequest_29 : decode prog_1_method_22_code 29 = .ok (.new 30, 3) := by decide +kernel
theorem d_X_makeRequest_32 : decode prog_1_method_22_code 32 = .ok (.dup, 1) := by decide +kernel
theorem d_X_makeRequest_33 : decode prog_1_method_22_code 33 = .ok (.aload_n 0, 1) := by decide +kernel
theorem d_X_makeRequest_34 : decode prog_1_method_22_code 34 = .ok (.getfield 36, 3) := by decide +kernel
theorem d_X_makeRequest_37 : decode prog_1_method_22_code 37 = .ok (.iload_n 1, 1) := by decide +kernel
theorem d_X_makeRequest_38 : decode prog_1_method_22_code 38 = .ok (.iload_n 2, 1) := by decide +kernel
theorem d_X_makeRequest_39 : decode prog_1_method_22_code 39 = .ok (.iload_n 3, 1) := by decide +kernel
theorem d_X_makeRequest_40 : decode prog_1_method_22_code 40 = .ok (.iload 4, 2) := by decide +kernel
theorem d_X_makeRequest_42 : decode prog_1_method_22_code 42 = .ok (.invokespecial 208, 3) := by decide +kernel
theorem d_X_makeRequest_45 : decode prog_1_method_22_code 45 = .ok (.astore 6, 2) := by decide +kernel
theorem d_X_makeRequest_47 : decode prog_1_method_22_code 47 = .ok (.aload_n 0, 1) := by decide +kernel
theorem d_X_makeRequest_48 : decode prog_1_method_22_code 48 = .ok (.getfield 19, 3) := by decide +kernel
theorem d_X_makeRequest_51 : decode prog_1_method_22_code 51 = .ok (.aload 6, 2) := by decide +kernel
theorem d_X_makeRequest_53 : decode prog_1_method_22_code 53 = .ok (.aload 5, 2) := by decide +kernel
theorem d_X_makeRequest_55 : decode prog_1_method_22_code 55 = .ok (.aload_n 0, 1) := by decide +kernel
theorem d_X_makeRequest_56 : decode prog_1_method_22_code 56 = .ok (.getfield 40, 3) := by decide +kernel
theorem d_X_makeRequest_59 : decode prog_1_method_22_code 59 = .ok (.invokevirtual 211, 3) := by decide +kernel
theorem d_X_makeRequest_62 : decode prog_1_method_22_code 62 = .ok (.aload_n 0, 1) := by decide +kernel
theorem d_X_makeRequest_63 : decode prog_1_method_22_code 63 = .ok (.getfield 32, 3) := by decide +kernel
theorem d_X_makeRequest_66 : decode prog_1_method_22_code 66 = .ok (.aload_n 0, 1) := by decide +kernel
theorem d_X_makeRequest_67 : decode prog_1_method_22_code 67 = .ok (.getfield 36, 3) := by decide +kernel
theorem d_X_makeRequest_70 : decode prog_1_method_22_code 70 = .ok (.aload 6, 2) := by decide +kernel
theorem d_X_makeRequest_72 : decode prog_1_method_22_code 72 = .ok (.aastore, 1) := by decide +kernel
theorem d_X_makeRequest_73 : decode prog_1_method_22_code 73 = .ok (.aload_n 0, 1) := by decide +kernel
theorem d_X_makeRequest_74 : decode prog_1_method_22_code 74 = .ok (.dup, 1) := by decide +kernel
theorem d_X_makeRequest_75 : decode prog_1_method_22_code 75 = .ok (.getfield 36, 3) := by decide +kernel
theorem d_X_makeRequest_78 : decode prog_1_method_22_code 78 = .ok (.iconst 1, 1) := by decide +kernel
theorem d_X_makeRequest_79 : decode prog_1_method_22_code 79 = .ok (.iadd, 1) := by decide +kernel
theorem d_X_makeRequest_80 : decode prog_1_method_22_code 80 = .ok (.putfield 36, 3) := by decide +kernel
theorem d_X_makeRequest_83 : decode prog_1_method_22_code 83 = .ok (.aload 6, 2) := by decide +kernel
theorem d_X_makeRequest_85 : decode prog_1_method_22_code 85 = .ok (.getfield 158, 3) := by decide +kernel
theorem d_X_makeRequest_88 : decode prog_1_method_22_code 88 = .ok (.ireturn, 1) := by decide +kernel
theorem d_X_get_0 : decode prog_1_method_4_code 0 = .ok (.aload_n 0, 1) := by decide +kernel
theorem d_X_get_1 : decode prog_1_method_4_code 1 = .ok (.iload_n 1, 1) := by decide +kernel
theorem d_X_get_2 : decode prog_1_method_4_code 2 = .ok (.iconst 0, 1) := by decide +kernel
theorem d_X_get_3 : decode prog_1_method_4_code 3 = .ok (.iconst 0, 1) := by decide +kernel
theorem d_X_get_4 : decode prog_1_method_4_code 4 = .ok (.iconst 0, 1) := by decide +kernel
theorem d_X_get_5 : decode prog_1_method_4_code 5 = .ok (.invokevirtual 64, 3) := by decide +kernel
theorem d_X_get_8 : decode prog_1_method_4_code 8 = .ok (.ireturn, 1) := by decide +kernel
theorem d_X_replace_0 : decode prog_1_method_5_code 0 = .ok (.iload_n 3, 1) := by decide +kernel
theorem d_X_replace_1 : decode prog_1_method_5_code 1 = .ok (.invokestatic 47, 3) := by decide +kernel
theorem d_X_replace_4 : decode prog_1_method_5_code 4 = .ok (.ifCond .ne 5, 3) := by decide +kernel
theorem d_X_replace_7 : decode prog_1_method_5_code 7 = .ok (.iconst (-1), 1) := by decide +kernel
theorem d_X_replace_8 : decode prog_1_method_5_code 8 = .ok (.ireturn, 1) := by decide +kernel
theorem d_X_replace_9 : decode prog_1_method_5_code 9 = .ok (.aload_n 0, 1) := by decide +kernel
theorem d_X_replace_10 : decode prog_1_method_5_code 10 = .ok (.iload_n 1, 1) := by decide +kernel
theorem d_X_replace_11 : decode prog_1_method_5_code 11 = .ok (.iconst 1, 1) := by decide +kernel
theorem d_X_replace_12 : decode prog_1_method_5_code 12 = .ok (.iload_n 2, 1) := by decide +kernel
theorem d_X_replace_13 : decode prog_1_method_5_code 13 = .ok (.iload_n 3, 1) := by decide +kernel
theorem d_X_replace_14 : decode prog_1_method_5_code 14 = .ok (.invokevirtual 64, 3) := by decide +kernel
theorem d_X_replace_17 : decode prog_1_method_5_code 17 = .ok (.ireturn, 1) := by decide +kernel
theorem d_X_requestAt_0 : decode prog_1_method_21_code 0 = .ok (.iload_n 1, 1) := by decide +kernel
theorem d_X_requestAt_1 : decode prog_1_method_21_code 1 = .ok (.ifCond .lt 20, 3) := by decide +kernel
theorem d_X_requestAt_4 : decode prog_1_method_21_code 4 = .ok (.iload_n 1, 1) := by decide +kernel
theorem d_X_requestAt_5 : decode prog_1_method_21_code 5 = .ok (.aload_n 0, 1) := by decide +kernel
theorem d_X_requestAt_6 : decode prog_1_method_21_code 6 = .ok (.getfield 36, 3) := by decide +kernel
theorem d_X_requestAt_9 : decode prog_1_method_21_code 9 = .ok (.if_icmp .ge 12, 3) := by decide +kernel
theorem d_X_requestAt_12 : decode prog_1_method_21_code 12 = .ok (.iload_n 1, 1) := by decide +kernel
theorem d_X_requestAt_13 : decode prog_1_method_21_code 13 = .ok (.aload_n 0, 1) := by decide +kernel
theorem d_X_requestAt_14 : decode prog_1_method_21_code 14 = .ok (.getfield 32, 3) := by decide +kernel
theorem d_X_requestAt_17 : decode prog_1_method_21_code 17 = .ok (.arraylength, 1) := by decide +kernel
theorem d_X_requestAt_18 : decode prog_1_method_21_code 18 = .ok (.if_icmp .lt 5, 3) := by decide +kernel
theorem d_X_requestAt_21 : decode prog_1_method_21_code 21 = .ok (.aconst_null, 1) := by decide +kernel
theorem d_X_requestAt_22 : decode prog_1_method_21_code 22 = .ok (.areturn, 1) := by decide +kernel
theorem d_X_requestAt_23 : decode prog_1_method_21_code 23 = .ok (.aload_n 0, 1) := by decide +kernel
theorem d_X_requestAt_24 : decode prog_1_method_21_code 24 = .ok (.getfield 32, 3) := by decide +kernel
theorem d_X_requestAt_27 : decode prog_1_method_21_code 27 = .ok (.iload_n 1, 1) := by decide +kernel
theorem d_X_requestAt_28 : decode prog_1_method_21_code 28 = .ok (.aaload, 1) := by decide +kernel
theorem d_X_requestAt_29 : decode prog_1_method_21_code 29 = .ok (.areturn, 1) := by decide +kernel
theorem d_X_arrive_0 : decode prog_1_method_6_code 0 = .ok (.aload_n 0, 1) := by decide +kernel
theorem d_X_arrive_1 : decode prog_1_method_6_code 1 = .ok (.iload_n 1, 1) := by decide +kernel
theorem d_X_arrive_2 : decode prog_1_method_6_code 2 = .ok (.invokevirtual 68, 3) := by decide +kernel
theorem d_X_arrive_5 : decode prog_1_method_6_code 5 = .ok (.astore_n 2, 1) := by decide +kernel
theorem d_X_arrive_6 : decode prog_1_method_6_code 6 = .ok (.aload_n 2, 1) := by decide +kernel
theorem d_X_arrive_7 : decode prog_1_method_6_code 7 = .ok (.ifnull 10, 3) := by decide +kernel
theorem d_X_arrive_10 : decode prog_1_method_6_code 10 = .ok (.aload_n 2, 1) := by decide +kernel
theorem d_X_arrive_11 : decode prog_1_method_6_code 11 = .ok (.getfield 72, 3) := by decide +kernel
theorem d_X_arrive_14 : decode prog_1_method_6_code 14 = .ok (.ifCond .ne 5, 3) := by decide +kernel
theorem d_X_arrive_17 : decode prog_1_method_6_code 17 = .ok (.iconst (-1), 1) := by decide +kernel
theorem d_X_arrive_18 : decode prog_1_method_6_code 18 = .ok (.ireturn, 1) := by decide +kernel
theorem d_X_arrive_19 : decode prog_1_method_6_code 19 = .ok (.aload_n 2, 1) := by decide +kernel
theorem d_X_arrive_20 : decode prog_1_method_6_code 20 = .ok (.iconst 0, 1) := by decide +kernel
theorem d_X_arrive_21 : decode prog_1_method_6_code 21 = .ok (.putfield 72, 3) := by decide +kernel
theorem d_X_arrive_24 : decode prog_1_method_6_code 24 = .ok (.aload_n 0, 1) := by decide +kernel
theorem d_X_arrive_25 : decode prog_1_method_6_code 25 = .ok (.getfield 12, 3) := by decide +kernel
theorem d_X_arrive_28 : decode prog_1_method_6_code 28 = .ok (.aload_n 2, 1) := by decide +kernel
theorem d_X_arrive_29 : decode prog_1_method_6_code 29 = .ok (.invokevirtual 75, 3) := by decide +kernel
theorem d_X_arrive_32 : decode prog_1_method_6_code 32 = .ok (.ireturn, 1) := by decide +kernel
theorem d_X_reply_0 : decode prog_1_method_7_code 0 = .ok (.aload_n 0, 1) := by decide +kernel
theorem d_X_reply_1 : decode prog_1_method_7_code 1 = .ok (.iload_n 1, 1) := by decide +kernel
theorem d_X_reply_2 : decode prog_1_method_7_code 2 = .ok (.invokevirtual 68, 3) := by decide +kernel
theorem d_X_reply_5 : decode prog_1_method_7_code 5 = .ok (.astore_n 2, 1) := by decide +kernel
theorem d_X_reply_6 : decode prog_1_method_7_code 6 = .ok (.aload_n 2, 1) := by decide +kernel
theorem d_X_reply_7 : decode prog_1_method_7_code 7 = .ok (.ifnull 20, 3) := by decide +kernel
theorem d_X_reply_10 : decode prog_1_method_7_code 10 = .ok (.aload_n 2, 1) := by decide +kernel
theorem d_X_reply_11 : decode prog_1_method_7_code 11 = .ok (.getfield 79, 3) := by decide +kernel
theorem d_X_reply_14 : decode prog_1_method_7_code 14 = .ok (.ifnull 13, 3) := by decide +kernel
theorem d_X_reply_17 : decode prog_1_method_7_code 17 = .ok (.aload_n 2, 1) := by decide +kernel
theorem d_X_reply_18 : decode prog_1_method_7_code 18 = .ok (.getfield 79, 3) := by decide +kernel
theorem d_X_reply_21 : decode prog_1_method_7_code 21 = .ok (.getfield 83, 3) := by decide +kernel
theorem d_X_reply_24 : decode prog_1_method_7_code 24 = .ok (.ifCond .ne 5, 3) := by decide +kernel
theorem d_X_reply_27 : decode prog_1_method_7_code 27 = .ok (.iconst (-1), 1) := by decide +kernel
theorem d_X_reply_28 : decode prog_1_method_7_code 28 = .ok (.ireturn, 1) := by decide +kernel
theorem d_X_reply_29 : decode prog_1_method_7_code 29 = .ok (.aload_n 2, 1) := by decide +kernel
theorem d_X_reply_30 : decode prog_1_method_7_code 30 = .ok (.getfield 79, 3) := by decide +kernel
theorem d_X_reply_33 : decode prog_1_method_7_code 33 = .ok (.iconst 0, 1) := by decide +kernel
theorem d_X_reply_34 : decode prog_1_method_7_code 34 = .ok (.putfield 83, 3) := by decide +kernel
theorem d_X_reply_37 : decode prog_1_method_7_code 37 = .ok (.aload_n 0, 1) := by decide +kernel
theorem d_X_reply_38 : decode prog_1_method_7_code 38 = .ok (.getfield 19, 3) := by decide +kernel
theorem d_X_reply_41 : decode prog_1_method_7_code 41 = .ok (.aload_n 2, 1) := by decide +kernel
theorem d_X_reply_42 : decode prog_1_method_7_code 42 = .ok (.getfield 79, 3) := by decide +kernel
theorem d_X_reply_45 : decode prog_1_method_7_code 45 = .ok (.invokevirtual 86, 3) := by decide +kernel
theorem d_X_reply_48 : decode prog_1_method_7_code 48 = .ok (.ifCond .eq 13, 3) := by decide +kernel
theorem d_X_reply_51 : decode prog_1_method_7_code 51 = .ok (.aload_n 2, 1) := by decide +kernel
theorem d_X_reply_52 : decode prog_1_method_7_code 52 = .ok (.getfield 79, 3) := by decide +kernel
theorem d_X_reply_55 : decode prog_1_method_7_code 55 = .ok (.iconst 1, 1) := by decide +kernel
theorem d_X_reply_56 : decode prog_1_method_7_code 56 = .ok (.putfield 90, 3) := by decide +kernel
theorem d_X_reply_59 : decode prog_1_method_7_code 59 = .ok (.iconst 0, 1) := by decide +kernel
theorem d_X_reply_60 : decode prog_1_method_7_code 60 = .ok (.ireturn, 1) := by decide +kernel
theorem d_X_reply_61 : decode prog_1_method_7_code 61 = .ok (.aload_n 0, 1) := by decide +kernel
theorem d_X_reply_62 : decode prog_1_method_7_code 62 = .ok (.getfield 19, 3) := by decide +kernel
theorem d_X_reply_65 : decode prog_1_method_7_code 65 = .ok (.aload_n 2, 1) := by decide +kernel
theorem d_X_reply_66 : decode prog_1_method_7_code 66 = .ok (.aload_n 2, 1) := by decide +kernel
theorem d_X_reply_67 : decode prog_1_method_7_code 67 = .ok (.getfield 79, 3) := by decide +kernel
theorem d_X_reply_70 : decode prog_1_method_7_code 70 = .ok (.aload_n 0, 1) := by decide +kernel
theorem d_X_reply_71 : decode prog_1_method_7_code 71 = .ok (.getfield 26, 3) := by decide +kernel
theorem d_X_reply_74 : decode prog_1_method_7_code 74 = .ok (.invokevirtual 93, 3) := by decide +kernel
theorem d_X_reply_77 : decode prog_1_method_7_code 77 = .ok (.aload_n 2, 1) := by decide +kernel
theorem d_X_reply_78 : decode prog_1_method_7_code 78 = .ok (.getfield 97, 3) := by decide +kernel
theorem d_X_reply_81 : decode prog_1_method_7_code 81 = .ok (.ireturn, 1) := by decide +kernel
theorem d_X_isBlocked_0 : decode prog_1_method_24_code 0 = .ok (.aload_n 0, 1) := by decide +kernel
theorem d_X_isBlocked_1 : decode prog_1_method_24_code 1 = .ok (.ifnull 24, 3) := by decide +kernel
theorem d_X_isBlocked_4 : decode prog_1_method_24_code 4 = .ok (.aload_n 0, 1) := by decide +kernel
theorem d_X_isBlocked_5 : decode prog_1_method_24_code 5 = .ok (.getfield 79, 3) := by decide +kernel
theorem d_X_isBlocked_8 : decode prog_1_method_24_code 8 = .ok (.ifnull 17, 3) := by decide +kernel
theorem d_X_isBlocked_11 : decode prog_1_method_24_code 11 = .ok (.aload_n 0, 1) := by decide +kernel
theorem d_X_isBlocked_12 : decode prog_1_method_24_code 12 = .ok (.getfield 79, 3) := by decide +kernel
theorem d_X_isBlocked_15 : decode prog_1_method_24_code 15 = .ok (.getfield 90, 3) := by decide +kernel
theorem d_X_isBlocked_18 : decode prog_1_method_24_code 18 = .ok (.ifCond .eq 7, 3) := by decide +kernel
theorem d_X_isBlocked_21 : decode prog_1_method_24_code 21 = .ok (.iconst 1, 1) := by decide +kernel
theorem d_X_isBlocked_22 : decode prog_1_method_24_code 22 = .ok (.goto 4, 3) := by decide +kernel
theorem d_X_isBlocked_25 : decode prog_1_method_24_code 25 = .ok (.iconst 0, 1) := by decide +kernel
theorem d_X_isBlocked_26 : decode prog_1_method_24_code 26 = .ok (.ireturn, 1) := by decide +kernel
theorem d_X_readUnblocked_0 : decode prog_1_method_23_code 0 = .ok (.iconst 0, 1) := by decide +kernel
theorem d_X_readUnblocked_1 : decode prog_1_method_23_code 1 = .ok (.istore_n 1, 1) := by decide +kernel
theorem d_X_readUnblocked_2 : decode prog_1_method_23_code 2 = .ok (.iconst 0, 1) := by decide +kernel
theorem d_X_readUnblocked_3 : decode prog_1_method_23_code 3 = .ok (.istore_n 2, 1) := by decide +kernel
theorem d_X_readUnblocked_4 : decode prog_1_method_23_code 4 = .ok (.iload_n 2, 1) := by decide +kernel
theorem d_X_readUnblocked_5 : decode prog_1_method_23_code 5 = .ok (.aload_n 0, 1) := by decide +kernel
theorem d_X_readUnblocked_6 : decode prog_1_method_23_code 6 = .ok (.getfield 36, 3) := by decide +kernel
theorem d_X_readUnblocked_9 : decode prog_1_method_23_code 9 = .ok (.if_icmp .ge 63, 3) := by decide +kernel
theorem d_X_readUnblocked_12 : decode prog_1_method_23_code 12 = .ok (.aload_n 0, 1) := by decide +kernel
theorem d_X_readUnblocked_13 : decode prog_1_method_23_code 13 = .ok (.iload_n 2, 1) := by decide +kernel
theorem d_X_readUnblocked_14 : decode prog_1_method_23_code 14 = .ok (.invokevirtual 68, 3) := by decide +kernel
theorem d_X_readUnblocked_17 : decode prog_1_method_23_code 17 = .ok (.astore_n 3, 1) := by decide +kernel
theorem d_X_readUnblocked_18 : decode prog_1_method_23_code 18 = .ok (.aload_n 3, 1) := by decide +kernel
theorem d_X_readUnblocked_19 : decode prog_1_method_23_code 19 = .ok (.invokestatic 215, 3) := by decide +kernel
theorem d_X_readUnblocked_22 : decode prog_1_method_23_code 22 = .ok (.ifCond .eq 44, 3) := by decide +kernel
theorem d_X_readUnblocked_25 : decode prog_1_method_23_code 25 = .ok (.aload_n 0, 1) := by decide +kernel
theorem d_X_readUnblocked_26 : decode prog_1_method_23_code 26 = .ok (.getfield 19, 3) := by decide +kernel
theorem d_X_readUnblocked_29 : decode prog_1_method_23_code 29 = .ok (.aload_n 3, 1) := by decide +kernel
theorem d_X_readUnblocked_30 : decode prog_1_method_23_code 30 = .ok (.getfield 79, 3) := by decide +kernel
theorem d_X_readUnblocked_33 : decode prog_1_method_23_code 33 = .ok (.invokevirtual 86, 3) := by decide +kernel
theorem d_X_readUnblocked_36 : decode prog_1_method_23_code 36 = .ok (.ifCond .ne 30, 3) := by decide +kernel
theorem d_X_readUnblocked_39 : decode prog_1_method_23_code 39 = .ok (.aload_n 3, 1) := by decide +kernel
theorem d_X_readUnblocked_40 : decode prog_1_method_23_code 40 = .ok (.getfield 79, 3) := by decide +kernel
theorem d_X_readUnblocked_43 : decode prog_1_method_23_code 43 = .ok (.iconst 0, 1) := by decide +kernel
theorem d_X_readUnblocked_44 : decode prog_1_method_23_code 44 = .ok (.putfield 90, 3) := by decide +kernel
theorem d_X_readUnblocked_47 : decode prog_1_method_23_code 47 = .ok (.aload_n 0, 1) := by decide +kernel
theorem d_X_readUnblocked_48 : decode prog_1_method_23_code 48 = .ok (.getfield 19, 3) := by decide +kernel
theorem d_X_readUnblocked_51 : decode prog_1_method_23_code 51 = .ok (.aload_n 3, 1) := by decide +kernel
theorem d_X_readUnblocked_52 : decode prog_1_method_23_code 52 = .ok (.aload_n 3, 1) := by decide +kernel
theorem d_X_readUnblocked_53 : decode prog_1_method_23_code 53 = .ok (.getfield 79, 3) := by decide +kernel
theorem d_X_readUnblocked_56 : decode prog_1_method_23_code 56 = .ok (.aload_n 0, 1) := by decide +kernel
theorem d_X_readUnblocked_57 : decode prog_1_method_23_code 57 = .ok (.getfield 26, 3) := by decide +kernel
theorem d_X_readUnblocked_60 : decode prog_1_method_23_code 60 = .ok (.invokevirtual 93, 3) := by decide +kernel
theorem d_X_readUnblocked_63 : decode prog_1_method_23_code 63 = .ok (.iinc 1 1, 3) := by decide +kernel
theorem d_X_readUnblocked_66 : decode prog_1_method_23_code 66 = .ok (.iinc 2 1, 3) := by decide +kernel
theorem d_X_readUnblocked_69 : decode prog_1_method_23_code 69 = .ok (.goto (-65), 3) := by decide +kernel
theorem d_X_readUnblocked_72 : decode prog_1_method_23_code 72 = .ok (.iload_n 1, 1) := by decide +kernel
theorem d_X_readUnblocked_73 : decode prog_1_method_23_code 73 = .ok (.ireturn, 1) := by decide +kernel
theorem d_X_insert_0 : decode prog_1_method_8_code 0 = .ok (.aload_n 0, 1) := by decide +kernel
theorem d_X_insert_1 : decode prog_1_method_8_code 1 = .ok (.getfield 19, 3) := by decide +kernel
theorem d_X_insert_4 : decode prog_1_method_8_code 4 = .ok (.getfield 100, 3) := by decide +kernel
theorem d_X_insert_7 : decode prog_1_method_8_code 7 = .ok (.aload_n 0, 1) := by decide +kernel
theorem d_X_insert_8 : decode prog_1_method_8_code 8 = .ok (.getfield 12, 3) := by decide +kernel
theorem d_X_insert_11 : decode prog_1_method_8_code 11 = .ok (.getfield 103, 3) := by decide +kernel
theorem d_X_insert_14 : decode prog_1_method_8_code 14 = .ok (.getfield 107, 3) := by decide +kernel
theorem d_X_insert_17 : decode prog_1_method_8_code 17 = .ok (.if_icmp .lt 5, 3) := by decide +kernel
theorem d_X_insert_20 : decode prog_1_method_8_code 20 = .ok (.iconst (-1), 1) := by decide +kernel
theorem d_X_insert_21 : decode prog_1_method_8_code 21 = .ok (.ireturn, 1) := by decide +kernel
theorem d_X_insert_22 : decode prog_1_method_8_code 22 = .ok (.aload_n 0, 1) := by decide +kernel
theorem d_X_insert_23 : decode prog_1_method_8_code 23 = .ok (.getfield 19, 3) := by decide +kernel
theorem d_X_insert_26 : decode prog_1_method_8_code 26 = .ok (.dup, 1) := by decide +kernel
theorem d_X_insert_27 : decode prog_1_method_8_code 27 = .ok (.getfield 100, 3) := by decide +kernel
theorem d_X_insert_30 : decode prog_1_method_8_code 30 = .ok (.iconst 1, 1) := by decide +kernel
theorem d_X_insert_31 : decode prog_1_method_8_code 31 = .ok (.iadd, 1) := by decide +kernel
theorem d_X_insert_32 : decode prog_1_method_8_code 32 = .ok (.putfield 100, 3) := by decide +kernel
theorem d_X_insert_35 : decode prog_1_method_8_code 35 = .ok (.aload_n 0, 1) := by decide +kernel
theorem d_X_insert_36 : decode prog_1_method_8_code 36 = .ok (.invokevirtual 112, 3) := by decide +kernel
theorem d_X_insert_39 : decode prog_1_method_8_code 39 = .ok (.ireturn, 1) := by decide +kernel
theorem d_X_endOutstanding_0 : decode prog_1_method_26_code 0 = .ok (.aload_n 0, 1) := by decide +kernel
theorem d_X_endOutstanding_1 : decode prog_1_method_26_code 1 = .ok (.iload_n 1, 1) := by decide +kernel
theorem d_X_endOutstanding_2 : decode prog_1_method_26_code 2 = .ok (.invokevirtual 68, 3) := by decide +kernel
theorem d_X_endOutstanding_5 : decode prog_1_method_26_code 5 = .ok (.astore_n 3, 1) := by decide +kernel
theorem d_X_endOutstanding_6 : decode prog_1_method_26_code 6 = .ok (.aload_n 3, 1) := by decide +kernel
theorem d_X_endOutstanding_7 : decode prog_1_method_26_code 7 = .ok (.ifnull 10, 3) := by decide +kernel
theorem d_X_endOutstanding_10 : decode prog_1_method_26_code 10 = .ok (.aload_n 3, 1) := by decide +kernel
theorem d_X_endOutstanding_11 : decode prog_1_method_26_code 11 = .ok (.getfield 79, 3) := by decide +kernel
theorem d_X_endOutstanding_14 : decode prog_1_method_26_code 14 = .ok (.ifnonnull 4, 3) := by decide +kernel
theorem d_X_endOutstanding_17 : decode prog_1_method_26_code 17 = .ok (.return_, 1) := by decide +kernel
theorem d_X_endOutstanding_18 : decode prog_1_method_26_code 18 = .ok (.aload_n 3, 1) := by decide +kernel
theorem d_X_endOutstanding_19 : decode prog_1_method_26_code 19 = .ok (.getfield 79, 3) := by decide +kernel
theorem d_X_endOutstanding_22 : decode prog_1_method_26_code 22 = .ok (.iconst 0, 1) := by decide +kernel
theorem d_X_endOutstanding_23 : decode prog_1_method_26_code 23 = .ok (.putfield 219, 3) := by decide +kernel
theorem d_X_endOutstanding_26 : decode prog_1_method_26_code 26 = .ok (.iload_n 2, 1) := by decide +kernel
theorem d_X_endOutstanding_27 : decode prog_1_method_26_code 27 = .ok (.ifCond .eq 20, 3) := by decide +kernel
theorem d_X_endOutstanding_30 : decode prog_1_method_26_code 30 = .ok (.aload_n 0, 1) := by decide +kernel
theorem d_X_endOutstanding_31 : decode prog_1_method_26_code 31 = .ok (.getfield 12, 3) := by decide +kernel
theorem d_X_endOutstanding_34 : decode prog_1_method_26_code 34 = .ok (.getfield 103, 3) := by decide +kernel
theorem d_X_endOutstanding_37 : decode prog_1_method_26_code 37 = .ok (.aload_n 3, 1) := by decide +kernel
theorem d_X_endOutstanding_38 : decode prog_1_method_26_code 38 = .ok (.getfield 79, 3) := by decide +kernel
theorem d_X_endOutstanding_41 : decode prog_1_method_26_code 41 = .ok (.getfield 222, 3) := by decide +kernel
theorem d_X_endOutstanding_44 : decode prog_1_method_26_code 44 = .ok (.invokevirtual 225, 3) := by decide +kernel
theorem d_X_endOutstanding_47 : decode prog_1_method_26_code 47 = .ok (.return_, 1) := by decide +kernel
theorem d_X_feedback_0 : decode prog_1_method_9_code 0 = .ok (.aload_n 0, 1) := by decide +kernel
theorem d_X_feedback_1 : decode prog_1_method_9_code 1 = .ok (.getfield 26, 3) := by decide +kernel
theorem d_X_feedback_4 : decode prog_1_method_9_code 4 = .ok (.invokevirtual 116, 3) := by decide +kernel
theorem d_X_feedback_7 : decode prog_1_method_9_code 7 = .ok (.istore_n 1, 1) := by decide +kernel
theorem d_X_feedback_8 : decode prog_1_method_9_code 8 = .ok (.iload_n 1, 1) := by decide +kernel
theorem d_X_feedback_9 : decode prog_1_method_9_code 9 = .ok (.iconst (-1), 1) := by decide +kernel
theorem d_X_feedback_10 : decode prog_1_method_9_code 10 = .ok (.if_icmp .ne 5, 3) := by decide +kernel
theorem d_X_feedback_13 : decode prog_1_method_9_code 13 = .ok (.iconst (-1), 1) := by decide +kernel
theorem d_X_feedback_14 : decode prog_1_method_9_code 14 = .ok (.ireturn, 1) := by decide +kernel
theorem d_X_feedback_15 : decode prog_1_method_9_code 15 = .ok (.aload_n 0, 1) := by decide +kernel
theorem d_X_feedback_16 : decode prog_1_method_9_code 16 = .ok (.getfield 26, 3) := by decide +kernel
theorem d_X_feedback_19 : decode prog_1_method_9_code 19 = .ok (.invokevirtual 119, 3) := by decide +kernel
theorem d_X_feedback_22 : decode prog_1_method_9_code 22 = .ok (.istore_n 2, 1) := by decide +kernel
theorem d_X_feedback_23 : decode prog_1_method_9_code 23 = .ok (.aload_n 0, 1) := by decide +kernel
theorem d_X_feedback_24 : decode prog_1_method_9_code 24 = .ok (.getfield 26, 3) := by decide +kernel
theorem d_X_feedback_27 : decode prog_1_method_9_code 27 = .ok (.invokevirtual 122, 3) := by decide +kernel
theorem d_X_feedback_30 : decode prog_1_method_9_code 30 = .ok (.iload_n 1, 1) := by decide +kernel
theorem d_X_feedback_31 : decode prog_1_method_9_code 31 = .ok (.iconst 2, 1) := by decide +kernel
theorem d_X_feedback_32 : decode prog_1_method_9_code 32 = .ok (.if_icmp .ne 22, 3) := by decide +kernel
theorem d_X_feedback_35 : decode prog_1_method_9_code 35 = .ok (.aload_n 0, 1) := by decide +kernel
theorem d_X_feedback_36 : decode prog_1_method_9_code 36 = .ok (.getfield 12, 3) := by decide +kernel
theorem d_X_feedback_39 : decode prog_1_method_9_code 39 = .ok (.getfield 103, 3) := by decide +kernel
theorem d_X_feedback_42 : decode prog_1_method_9_code 42 = .ok (.dup, 1) := by decide +kernel
theorem d_X_feedback_43 : decode prog_1_method_9_code 43 = .ok (.getfield 125, 3) := by decide +kernel
theorem d_X_feedback_46 : decode prog_1_method_9_code 46 = .ok (.iload_n 2, 1) := by decide +kernel
theorem d_X_feedback_47 : decode prog_1_method_9_code 47 = .ok (.iadd, 1) := by decide +kernel
theorem d_X_feedback_48 : decode prog_1_method_9_code 48 = .ok (.putfield 125, 3) := by decide +kernel
theorem d_X_feedback_51 : decode prog_1_method_9_code 51 = .ok (.goto 17, 3) := by decide +kernel
theorem d_X_feedback_54 : decode prog_1_method_9_code 54 = .ok (.aload_n 0, 1) := by decide +kernel
theorem d_X_feedback_55 : decode prog_1_method_9_code 55 = .ok (.iload_n 2, 1) := by decide +kernel
theorem d_X_feedback_56 : decode prog_1_method_9_code 56 = .ok (.iload_n 1, 1) := by decide +kernel
theorem d_X_feedback_57 : decode prog_1_method_9_code 57 = .ok (.ifCond .ne 7, 3) := by decide +kernel
theorem d_X_feedback_60 : decode prog_1_method_9_code 60 = .ok (.iconst 1, 1) := by decide +kernel
theorem d_X_feedback_61 : decode prog_1_method_9_code 61 = .ok (.goto 4, 3) := by decide +kernel
theorem d_X_feedback_64 : decode prog_1_method_9_code 64 = .ok (.iconst 0, 1) := by decide +kernel
theorem d_X_feedback_65 : decode prog_1_method_9_code 65 = .ok (.invokevirtual 128, 3) := by decide +kernel
theorem d_X_feedback_68 : decode prog_1_method_9_code 68 = .ok (.iload_n 1, 1) := by decide +kernel
theorem d_X_feedback_69 : decode prog_1_method_9_code 69 = .ok (.ireturn, 1) := by decide +kernel
theorem d_X_report_0 : decode prog_1_method_10_code 0 = .ok (.aload_n 0, 1) := by decide +kernel
theorem d_X_report_1 : decode prog_1_method_10_code 1 = .ok (.getfield 19, 3) := by decide +kernel
theorem d_X_report_4 : decode prog_1_method_10_code 4 = .ok (.getfield 100, 3) := by decide +kernel
theorem d_X_report_7 : decode prog_1_method_10_code 7 = .ok (.aload_n 0, 1) := by decide +kernel
theorem d_X_report_8 : decode prog_1_method_10_code 8 = .ok (.getfield 19, 3) := by decide +kernel
theorem d_X_report_11 : decode prog_1_method_10_code 11 = .ok (.getfield 132, 3) := by decide +kernel
theorem d_X_report_14 : decode prog_1_method_10_code 14 = .ok (.isub, 1) := by decide +kernel
theorem d_X_report_15 : decode prog_1_method_10_code 15 = .ok (.istore_n 1, 1) := by decide +kernel
theorem d_X_report_16 : decode prog_1_method_10_code 16 = .ok (.iload_n 1, 1) := by decide +kernel
theorem d_X_report_17 : decode prog_1_method_10_code 17 = .ok (.ifCond .gt 5, 3) := by decide +kernel
theorem d_X_report_20 : decode prog_1_method_10_code 20 = .ok (.iconst 0, 1) := by decide +kernel
theorem d_X_report_21 : decode prog_1_method_10_code 21 = .ok (.ireturn, 1) := by decide +kernel
theorem d_X_report_22 : decode prog_1_method_10_code 22 = .ok (.aload_n 0, 1) := by decide +kernel
theorem d_X_report_23 : decode prog_1_method_10_code 23 = .ok (.getfield 26, 3) := by decide +kernel
theorem d_X_report_26 : decode prog_1_method_10_code 26 = .ok (.iconst 2, 1) := by decide +kernel
theorem d_X_report_27 : decode prog_1_method_10_code 27 = .ok (.iload_n 1, 1) := by decide +kernel
theorem d_X_report_28 : decode prog_1_method_10_code 28 = .ok (.invokevirtual 135, 3) := by decide +kernel
theorem d_X_report_31 : decode prog_1_method_10_code 31 = .ok (.aload_n 0, 1) := by decide +kernel
theorem d_X_report_32 : decode prog_1_method_10_code 32 = .ok (.getfield 19, 3) := by decide +kernel
theorem d_X_report_35 : decode prog_1_method_10_code 35 = .ok (.aload_n 0, 1) := by decide +kernel
theorem d_X_report_36 : decode prog_1_method_10_code 36 = .ok (.getfield 19, 3) := by decide +kernel
theorem d_X_report_39 : decode prog_1_method_10_code 39 = .ok (.getfield 100, 3) := by decide +kernel
theorem d_X_report_42 : decode prog_1_method_10_code 42 = .ok (.putfield 132, 3) := by decide +kernel
theorem d_X_report_45 : decode prog_1_method_10_code 45 = .ok (.iconst 1, 1) := by decide +kernel
theorem d_X_report_46 : decode prog_1_method_10_code 46 = .ok (.ireturn, 1) := by decide +kernel
theorem d_X_goaway_0 : decode prog_1_method_11_code 0 = .ok (.aload_n 0, 1) := by decide +kernel
theorem d_X_goaway_1 : decode prog_1_method_11_code 1 = .ok (.getfield 12, 3) := by decide +kernel
theorem d_X_goaway_4 : decode prog_1_method_11_code 4 = .ok (.invokevirtual 139, 3) := by decide +kernel
theorem d_X_goaway_7 : decode prog_1_method_11_code 7 = .ok (.aload_n 0, 1) := by decide +kernel
theorem d_X_goaway_8 : decode prog_1_method_11_code 8 = .ok (.getfield 12, 3) := by decide +kernel
theorem d_X_goaway_11 : decode prog_1_method_11_code 11 = .ok (.getfield 142, 3) := by decide +kernel
theorem d_X_goaway_14 : decode prog_1_method_11_code 14 = .ok (.ireturn, 1) := by decide +kernel
theorem d_X_refuseFrom_0 : decode prog_1_method_27_code 0 = .ok (.iconst 0, 1) := by decide +kernel
theorem d_X_refuseFrom_1 : decode prog_1_method_27_code 1 = .ok (.istore_n 2, 1) := by decide +kernel
theorem d_X_refuseFrom_2 : decode prog_1_method_27_code 2 = .ok (.iload_n 1, 1) := by decide +kernel
theorem d_X_refuseFrom_3 : decode prog_1_method_27_code 3 = .ok (.istore_n 3, 1) := by decide +kernel
theorem d_X_refuseFrom_4 : decode prog_1_method_27_code 4 = .ok (.iload_n 3, 1) := by decide +kernel
theorem d_X_refuseFrom_5 : decode prog_1_method_27_code 5 = .ok (.aload_n 0, 1) := by decide +kernel
theorem d_X_refuseFrom_6 : decode prog_1_method_27_code 6 = .ok (.getfield 36, 3) := by decide +kernel
theorem d_X_refuseFrom_9 : decode prog_1_method_27_code 9 = .ok (.if_icmp .ge 46, 3) := by decide +kernel
theorem d_X_refuseFrom_12 : decode prog_1_method_27_code 12 = .ok (.aload_n 0, 1) := by decide +kernel
theorem d_X_refuseFrom_13 : decode prog_1_method_27_code 13 = .ok (.iload_n 3, 1) := by decide +kernel
theorem d_X_refuseFrom_14 : decode prog_1_method_27_code 14 = .ok (.invokevirtual 68, 3) := by decide +kernel
theorem d_X_refuseFrom_17 : decode prog_1_method_27_code 17 = .ok (.astore 4, 2) := by decide +kernel
theorem d_X_refuseFrom_19 : decode prog_1_method_27_code 19 = .ok (.aload 4, 2) := by decide +kernel
theorem d_X_refuseFrom_21 : decode prog_1_method_27_code 21 = .ok (.ifnull 28, 3) := by decide +kernel
theorem d_X_refuseFrom_24 : decode prog_1_method_27_code 24 = .ok (.aload 4, 2) := by decide +kernel
theorem d_X_refuseFrom_26 : decode prog_1_method_27_code 26 = .ok (.getfield 97, 3) := by decide +kernel
theorem d_X_refuseFrom_29 : decode prog_1_method_27_code 29 = .ok (.ifCond .ne 20, 3) := by decide +kernel
theorem d_X_refuseFrom_32 : decode prog_1_method_27_code 32 = .ok (.aload 4, 2) := by decide +kernel
theorem d_X_refuseFrom_34 : decode prog_1_method_27_code 34 = .ok (.bipush 7, 2) := by decide +kernel
theorem d_X_refuseFrom_36 : decode prog_1_method_27_code 36 = .ok (.iconst 0, 1) := by decide +kernel
theorem d_X_refuseFrom_37 : decode prog_1_method_27_code 37 = .ok (.invokevirtual 155, 3) := by decide +kernel
theorem d_X_refuseFrom_40 : decode prog_1_method_27_code 40 = .ok (.aload 4, 2) := by decide +kernel
theorem d_X_refuseFrom_42 : decode prog_1_method_27_code 42 = .ok (.iconst 0, 1) := by decide +kernel
theorem d_X_refuseFrom_43 : decode prog_1_method_27_code 43 = .ok (.putfield 72, 3) := by decide +kernel
theorem d_X_refuseFrom_46 : decode prog_1_method_27_code 46 = .ok (.iinc 2 1, 3) := by decide +kernel
theorem d_X_refuseFrom_49 : decode prog_1_method_27_code 49 = .ok (.iinc 3 1, 3) := by decide +kernel
theorem d_X_refuseFrom_52 : decode prog_1_method_27_code 52 = .ok (.goto (-48), 3) := by decide +kernel
theorem d_X_refuseFrom_55 : decode prog_1_method_27_code 55 = .ok (.iload_n 2, 1) := by decide +kernel
theorem d_X_refuseFrom_56 : decode prog_1_method_27_code 56 = .ok (.ireturn, 1) := by decide +kernel
theorem d_X_notice_0 : decode prog_1_method_12_code 0 = .ok (.aload_n 0, 1) := by decide +kernel
theorem d_X_notice_1 : decode prog_1_method_12_code 1 = .ok (.getfield 12, 3) := by decide +kernel
theorem d_X_notice_4 : decode prog_1_method_12_code 4 = .ok (.getfield 145, 3) := by decide +kernel
theorem d_X_notice_7 : decode prog_1_method_12_code 7 = .ok (.ifCond .eq 13, 3) := by decide +kernel
theorem d_X_notice_10 : decode prog_1_method_12_code 10 = .ok (.aload_n 0, 1) := by decide +kernel
theorem d_X_notice_11 : decode prog_1_method_12_code 11 = .ok (.getfield 19, 3) := by decide +kernel
theorem d_X_notice_14 : decode prog_1_method_12_code 14 = .ok (.getfield 148, 3) := by decide +kernel
theorem d_X_notice_17 : decode prog_1_method_12_code 17 = .ok (.ifCond .eq 5, 3) := by decide +kernel
theorem d_X_notice_20 : decode prog_1_method_12_code 20 = .ok (.iconst (-1), 1) := by decide +kernel
theorem d_X_notice_21 : decode prog_1_method_12_code 21 = .ok (.ireturn, 1) := by decide +kernel
theorem d_X_notice_22 : decode prog_1_method_12_code 22 = .ok (.aload_n 0, 1) := by decide +kernel
theorem d_X_notice_23 : decode prog_1_method_12_code 23 = .ok (.getfield 19, 3) := by decide +kernel
theorem d_X_notice_26 : decode prog_1_method_12_code 26 = .ok (.iconst 1, 1) := by decide +kernel
theorem d_X_notice_27 : decode prog_1_method_12_code 27 = .ok (.putfield 148, 3) := by decide +kernel
theorem d_X_notice_30 : decode prog_1_method_12_code 30 = .ok (.aload_n 0, 1) := by decide +kernel
theorem d_X_notice_31 : decode prog_1_method_12_code 31 = .ok (.aload_n 0, 1) := by decide +kernel
theorem d_X_notice_32 : decode prog_1_method_12_code 32 = .ok (.getfield 12, 3) := by decide +kernel
theorem d_X_notice_35 : decode prog_1_method_12_code 35 = .ok (.getfield 142, 3) := by decide +kernel
theorem d_X_notice_38 : decode prog_1_method_12_code 38 = .ok (.invokevirtual 151, 3) := by decide +kernel
theorem d_X_notice_41 : decode prog_1_method_12_code 41 = .ok (.ireturn, 1) := by decide +kernel
theorem d_X_cancel_0 : decode prog_1_method_13_code 0 = .ok (.aload_n 0, 1) := by decide +kernel
theorem d_X_cancel_1 : decode prog_1_method_13_code 1 = .ok (.iload_n 1, 1) := by decide +kernel
theorem d_X_cancel_2 : decode prog_1_method_13_code 2 = .ok (.invokevirtual 68, 3) := by decide +kernel
theorem d_X_cancel_5 : decode prog_1_method_13_code 5 = .ok (.astore_n 2, 1) := by decide +kernel
theorem d_X_cancel_6 : decode prog_1_method_13_code 6 = .ok (.aload_n 2, 1) := by decide +kernel
theorem d_X_cancel_7 : decode prog_1_method_13_code 7 = .ok (.ifnull 10, 3) := by decide +kernel
theorem d_X_cancel_10 : decode prog_1_method_13_code 10 = .ok (.aload_n 2, 1) := by decide +kernel
theorem d_X_cancel_11 : decode prog_1_method_13_code 11 = .ok (.getfield 97, 3) := by decide +kernel
theorem d_X_cancel_14 : decode prog_1_method_13_code 14 = .ok (.ifCond .eq 5, 3) := by decide +kernel
theorem d_X_cancel_17 : decode prog_1_method_13_code 17 = .ok (.iconst 0, 1) := by decide +kernel
theorem d_X_cancel_18 : decode prog_1_method_13_code 18 = .ok (.ireturn, 1) := by decide +kernel
theorem d_X_cancel_19 : decode prog_1_method_13_code 19 = .ok (.aload_n 2, 1) := by decide +kernel
theorem d_X_cancel_20 : decode prog_1_method_13_code 20 = .ok (.bipush 6, 2) := by decide +kernel
theorem d_X_cancel_22 : decode prog_1_method_13_code 22 = .ok (.iconst 0, 1) := by decide +kernel
theorem d_X_cancel_23 : decode prog_1_method_13_code 23 = .ok (.invokevirtual 155, 3) := by decide +kernel
theorem d_X_cancel_26 : decode prog_1_method_13_code 26 = .ok (.aload_n 2, 1) := by decide +kernel
theorem d_X_cancel_27 : decode prog_1_method_13_code 27 = .ok (.iconst 0, 1) := by decide +kernel
theorem d_X_cancel_28 : decode prog_1_method_13_code 28 = .ok (.putfield 72, 3) := by decide +kernel
theorem d_X_cancel_31 : decode prog_1_method_13_code 31 = .ok (.aload_n 2, 1) := by decide +kernel
theorem d_X_cancel_32 : decode prog_1_method_13_code 32 = .ok (.getfield 79, 3) := by decide +kernel
theorem d_X_cancel_35 : decode prog_1_method_13_code 35 = .ok (.ifnull 19, 3) := by decide +kernel
theorem d_X_cancel_38 : decode prog_1_method_13_code 38 = .ok (.aload_n 2, 1) := by decide +kernel
theorem d_X_cancel_39 : decode prog_1_method_13_code 39 = .ok (.getfield 79, 3) := by decide +kernel
theorem d_X_cancel_42 : decode prog_1_method_13_code 42 = .ok (.iconst 0, 1) := by decide +kernel
theorem d_X_cancel_43 : decode prog_1_method_13_code 43 = .ok (.putfield 83, 3) := by decide +kernel
theorem d_X_cancel_46 : decode prog_1_method_13_code 46 = .ok (.aload_n 2, 1) := by decide +kernel
theorem d_X_cancel_47 : decode prog_1_method_13_code 47 = .ok (.getfield 79, 3) := by decide +kernel
theorem d_X_cancel_50 : decode prog_1_method_13_code 50 = .ok (.iconst 0, 1) := by decide +kernel
theorem d_X_cancel_51 : decode prog_1_method_13_code 51 = .ok (.putfield 90, 3) := by decide +kernel
theorem d_X_cancel_54 : decode prog_1_method_13_code 54 = .ok (.aload_n 0, 1) := by decide +kernel
theorem d_X_cancel_55 : decode prog_1_method_13_code 55 = .ok (.getfield 26, 3) := by decide +kernel
theorem d_X_cancel_58 : decode prog_1_method_13_code 58 = .ok (.iconst 1, 1) := by decide +kernel
theorem d_X_cancel_59 : decode prog_1_method_13_code 59 = .ok (.aload_n 2, 1) := by decide +kernel
theorem d_X_cancel_60 : decode prog_1_method_13_code 60 = .ok (.getfield 158, 3) := by decide +kernel
theorem d_X_cancel_63 : decode prog_1_method_13_code 63 = .ok (.invokevirtual 135, 3) := by decide +kernel
theorem d_X_cancel_66 : decode prog_1_method_13_code 66 = .ok (.iconst 1, 1) := by decide +kernel
theorem d_X_cancel_67 : decode prog_1_method_13_code 67 = .ok (.ireturn, 1) := by decide +kernel
theorem d_X_tick_0 : decode prog_1_method_14_code 0 = .ok (.iload_n 1, 1) := by decide +kernel
theorem d_X_tick_1 : decode prog_1_method_14_code 1 = .ok (.ifCond .lt 10, 3) := by decide +kernel
theorem d_X_tick_4 : decode prog_1_method_14_code 4 = .ok (.iload_n 1, 1) := by decide +kernel
theorem d_X_tick_5 : decode prog_1_method_14_code 5 = .ok (.sipush 1000, 3) := by decide +kernel
theorem d_X_tick_8 : decode prog_1_method_14_code 8 = .ok (.if_icmp .le 5, 3) := by decide +kernel
theorem d_X_tick_11 : decode prog_1_method_14_code 11 = .ok (.iconst 0, 1) := by decide +kernel
theorem d_X_tick_12 : decode prog_1_method_14_code 12 = .ok (.ireturn, 1) := by decide +kernel
theorem d_X_tick_13 : decode prog_1_method_14_code 13 = .ok (.aload_n 0, 1) := by decide +kernel
theorem d_X_tick_14 : decode prog_1_method_14_code 14 = .ok (.dup, 1) := by decide +kernel
theorem d_X_tick_15 : decode prog_1_method_14_code 15 = .ok (.getfield 40, 3) := by decide +kernel
theorem d_X_tick_18 : decode prog_1_method_14_code 18 = .ok (.iload_n 1, 1) := by decide +kernel
theorem d_X_tick_19 : decode prog_1_method_14_code 19 = .ok (.iadd, 1) := by decide +kernel
theorem d_X_tick_20 : decode prog_1_method_14_code 20 = .ok (.putfield 40, 3) := by decide +kernel
theorem d_X_tick_23 : decode prog_1_method_14_code 23 = .ok (.iconst 1, 1) := by decide +kernel
theorem d_X_tick_24 : decode prog_1_method_14_code 24 = .ok (.ireturn, 1) := by decide +kernel
theorem d_X_outcome_0 : decode prog_1_method_15_code 0 = .ok (.aload_n 0, 1) := by decide +kernel
theorem d_X_outcome_1 : decode prog_1_method_15_code 1 = .ok (.iload_n 1, 1) := by decide +kernel
theorem d_X_outcome_2 : decode prog_1_method_15_code 2 = .ok (.invokevirtual 68, 3) := by decide +kernel
theorem d_X_outcome_5 : decode prog_1_method_15_code 5 = .ok (.astore_n 2, 1) := by decide +kernel
theorem d_X_outcome_6 : decode prog_1_method_15_code 6 = .ok (.aload_n 2, 1) := by decide +kernel
theorem d_X_outcome_7 : decode prog_1_method_15_code 7 = .ok (.ifnonnull 7, 3) := by decide +kernel
theorem d_X_outcome_10 : decode prog_1_method_15_code 10 = .ok (.iconst (-1), 1) := by decide +kernel
theorem d_X_outcome_11 : decode prog_1_method_15_code 11 = .ok (.goto 7, 3) := by decide +kernel
theorem d_X_outcome_14 : decode prog_1_method_15_code 14 = .ok (.aload_n 2, 1) := by decide +kernel
theorem d_X_outcome_15 : decode prog_1_method_15_code 15 = .ok (.getfield 97, 3) := by decide +kernel
theorem d_X_outcome_18 : decode prog_1_method_15_code 18 = .ok (.ireturn, 1) := by decide +kernel
theorem d_X_content_0 : decode prog_1_method_16_code 0 = .ok (.aload_n 0, 1) := by decide +kernel
theorem d_X_content_1 : decode prog_1_method_16_code 1 = .ok (.iload_n 1, 1) := by decide +kernel
theorem d_X_content_2 : decode prog_1_method_16_code 2 = .ok (.invokevirtual 68, 3) := by decide +kernel
theorem d_X_content_5 : decode prog_1_method_16_code 5 = .ok (.astore_n 2, 1) := by decide +kernel
theorem d_X_content_6 : decode prog_1_method_16_code 6 = .ok (.aload_n 2, 1) := by decide +kernel
theorem d_X_content_7 : decode prog_1_method_16_code 7 = .ok (.ifnonnull 7, 3) := by decide +kernel
theorem d_X_content_10 : decode prog_1_method_16_code 10 = .ok (.iconst (-1), 1) := by decide +kernel
theorem d_X_content_11 : decode prog_1_method_16_code 11 = .ok (.goto 7, 3) := by decide +kernel
theorem d_X_content_14 : decode prog_1_method_16_code 14 = .ok (.aload_n 2, 1) := by decide +kernel
theorem d_X_content_15 : decode prog_1_method_16_code 15 = .ok (.getfield 161, 3) := by decide +kernel
theorem d_X_content_18 : decode prog_1_method_16_code 18 = .ok (.ireturn, 1) := by decide +kernel
theorem d_X_stored_0 : decode prog_1_method_17_code 0 = .ok (.aload_n 0, 1) := by decide +kernel
theorem d_X_stored_1 : decode prog_1_method_17_code 1 = .ok (.getfield 19, 3) := by decide +kernel
theorem d_X_stored_4 : decode prog_1_method_17_code 4 = .ok (.iload_n 1, 1) := by decide +kernel
theorem d_X_stored_5 : decode prog_1_method_17_code 5 = .ok (.invokevirtual 164, 3) := by decide +kernel
theorem d_X_stored_8 : decode prog_1_method_17_code 8 = .ok (.astore_n 3, 1) := by decide +kernel
theorem d_X_stored_9 : decode prog_1_method_17_code 9 = .ok (.aload_n 3, 1) := by decide +kernel
theorem d_X_stored_10 : decode prog_1_method_17_code 10 = .ok (.ifnull 10, 3) := by decide +kernel
theorem d_X_stored_13 : decode prog_1_method_17_code 13 = .ok (.aload_n 3, 1) := by decide +kernel
theorem d_X_stored_14 : decode prog_1_method_17_code 14 = .ok (.getfield 168, 3) := by decide +kernel
theorem d_X_stored_17 : decode prog_1_method_17_code 17 = .ok (.ifCond .ne 5, 3) := by decide +kernel
theorem d_X_stored_20 : decode prog_1_method_17_code 20 = .ok (.iconst (-1), 1) := by decide +kernel
theorem d_X_stored_21 : decode prog_1_method_17_code 21 = .ok (.ireturn, 1) := by decide +kernel
theorem d_X_stored_22 : decode prog_1_method_17_code 22 = .ok (.iload_n 2, 1) := by decide +kernel
theorem d_X_stored_23 : decode prog_1_method_17_code 23 = .ok (.tableswitch 53 0 3 #[29, 34, 39, 44], 29) := by decide +kernel
theorem d_X_stored_52 : decode prog_1_method_17_code 52 = .ok (.aload_n 3, 1) := by decide +kernel
theorem d_X_stored_53 : decode prog_1_method_17_code 53 = .ok (.getfield 171, 3) := by decide +kernel
theorem d_X_stored_56 : decode prog_1_method_17_code 56 = .ok (.ireturn, 1) := by decide +kernel
theorem d_X_stored_57 : decode prog_1_method_17_code 57 = .ok (.aload_n 3, 1) := by decide +kernel
theorem d_X_stored_58 : decode prog_1_method_17_code 58 = .ok (.getfield 172, 3) := by decide +kernel
theorem d_X_stored_61 : decode prog_1_method_17_code 61 = .ok (.ireturn, 1) := by decide +kernel
theorem d_X_stored_62 : decode prog_1_method_17_code 62 = .ok (.aload_n 3, 1) := by decide +kernel
theorem d_X_stored_63 : decode prog_1_method_17_code 63 = .ok (.getfield 175, 3) := by decide +kernel
theorem d_X_stored_66 : decode prog_1_method_17_code 66 = .ok (.ireturn, 1) := by decide +kernel
theorem d_X_stored_67 : decode prog_1_method_17_code 67 = .ok (.aload_n 3, 1) := by decide +kernel
theorem d_X_stored_68 : decode prog_1_method_17_code 68 = .ok (.aload_n 0, 1) := by decide +kernel
theorem d_X_stored_69 : decode prog_1_method_17_code 69 = .ok (.getfield 40, 3) := by decide +kernel
theorem d_X_stored_72 : decode prog_1_method_17_code 72 = .ok (.invokevirtual 178, 3) := by decide +kernel
theorem d_X_stored_75 : decode prog_1_method_17_code 75 = .ok (.ireturn, 1) := by decide +kernel
theorem d_X_stored_76 : decode prog_1_method_17_code 76 = .ok (.iconst (-1), 1) := by decide +kernel
theorem d_X_stored_77 : decode prog_1_method_17_code 77 = .ok (.ireturn, 1) := by decide +kernel
theorem d_X_entry_0 : decode prog_1_method_18_code 0 = .ok (.aload_n 0, 1) := by decide +kernel
theorem d_X_entry_1 : decode prog_1_method_18_code 1 = .ok (.getfield 12, 3) := by decide +kernel
theorem d_X_entry_4 : decode prog_1_method_18_code 4 = .ok (.getfield 103, 3) := by decide +kernel
theorem d_X_entry_7 : decode prog_1_method_18_code 7 = .ok (.astore_n 3, 1) := by decide +kernel
theorem d_X_entry_8 : decode prog_1_method_18_code 8 = .ok (.iload_n 1, 1) := by decide +kernel
theorem d_X_entry_9 : decode prog_1_method_18_code 9 = .ok (.ifCond .lt 11, 3) := by decide +kernel
theorem d_X_entry_12 : decode prog_1_method_18_code 12 = .ok (.iload_n 1, 1) := by decide +kernel
theorem d_X_entry_13 : decode prog_1_method_18_code 13 = .ok (.aload_n 3, 1) := by decide +kernel
theorem d_X_entry_14 : decode prog_1_method_18_code 14 = .ok (.invokevirtual 181, 3) := by decide +kernel
theorem d_X_entry_17 : decode prog_1_method_18_code 17 = .ok (.if_icmp .lt 5, 3) := by decide +kernel
theorem d_X_entry_20 : decode prog_1_method_18_code 20 = .ok (.iconst (-1), 1) := by decide +kernel
theorem d_X_entry_21 : decode prog_1_method_18_code 21 = .ok (.ireturn, 1) := by decide +kernel
theorem d_X_entry_22 : decode prog_1_method_18_code 22 = .ok (.aload_n 3, 1) := by decide +kernel
theorem d_X_entry_23 : decode prog_1_method_18_code 23 = .ok (.getfield 107, 3) := by decide +kernel
theorem d_X_entry_26 : decode prog_1_method_18_code 26 = .ok (.iconst 1, 1) := by decide +kernel
theorem d_X_entry_27 : decode prog_1_method_18_code 27 = .ok (.isub, 1) := by decide +kernel
theorem d_X_entry_28 : decode prog_1_method_18_code 28 = .ok (.iload_n 1, 1) := by decide +kernel
theorem d_X_entry_29 : decode prog_1_method_18_code 29 = .ok (.isub, 1) := by decide +kernel
theorem d_X_entry_30 : decode prog_1_method_18_code 30 = .ok (.istore 4, 2) := by decide +kernel
theorem d_X_entry_32 : decode prog_1_method_18_code 32 = .ok (.iload_n 2, 1) := by decide +kernel
theorem d_X_entry_33 : decode prog_1_method_18_code 33 = .ok (.tableswitch 48 0 2 #[27, 34, 41], 27) := by decide +kernel
theorem d_X_entry_60 : decode prog_1_method_18_code 60 = .ok (.aload_n 3, 1) := by decide +kernel
theorem d_X_entry_61 : decode prog_1_method_18_code 61 = .ok (.iload 4, 2) := by decide +kernel
theorem d_X_entry_63 : decode prog_1_method_18_code 63 = .ok (.invokevirtual 184, 3) := by decide +kernel
theorem d_X_entry_66 : decode prog_1_method_18_code 66 = .ok (.ireturn, 1) := by decide +kernel
theorem d_X_entry_67 : decode prog_1_method_18_code 67 = .ok (.aload_n 3, 1) := by decide +kernel
theorem d_X_entry_68 : decode prog_1_method_18_code 68 = .ok (.iload 4, 2) := by decide +kernel
theorem d_X_entry_70 : decode prog_1_method_18_code 70 = .ok (.invokevirtual 187, 3) := by decide +kernel
theorem d_X_entry_73 : decode prog_1_method_18_code 73 = .ok (.ireturn, 1) := by decide +kernel
theorem d_X_entry_74 : decode prog_1_method_18_code 74 = .ok (.aload_n 3, 1) := by decide +kernel
theorem d_X_entry_75 : decode prog_1_method_18_code 75 = .ok (.iload 4, 2) := by decide +kernel
theorem d_X_entry_77 : decode prog_1_method_18_code 77 = .ok (.invokevirtual 190, 3) := by decide +kernel
theorem d_X_entry_80 : decode prog_1_method_18_code 80 = .ok (.ireturn, 1) := by decide +kernel
theorem d_X_entry_81 : decode prog_1_method_18_code 81 = .ok (.iconst (-1), 1) := by decide +kernel
theorem d_X_entry_82 : decode prog_1_method_18_code 82 = .ok (.ireturn, 1) := by decide +kernel
theorem d_X_blockedAnswers_0 : decode prog_1_method_25_code 0 = .ok (.iconst 0, 1) := by decide +kernel
theorem d_X_blockedAnswers_1 : decode prog_1_method_25_code 1 = .ok (.istore_n 1, 1) := by decide +kernel
theorem d_X_blockedAnswers_2 : decode prog_1_method_25_code 2 = .ok (.iconst 0, 1) := by decide +kernel
theorem d_X_blockedAnswers_3 : decode prog_1_method_25_code 3 = .ok (.istore_n 2, 1) := by decide +kernel
theorem d_X_blockedAnswers_4 : decode prog_1_method_25_code 4 = .ok (.iload_n 2, 1) := by decide +kernel
theorem d_X_blockedAnswers_5 : decode prog_1_method_25_code 5 = .ok (.aload_n 0, 1) := by decide +kernel
theorem d_X_blockedAnswers_6 : decode prog_1_method_25_code 6 = .ok (.getfield 36, 3) := by decide +kernel
theorem d_X_blockedAnswers_9 : decode prog_1_method_25_code 9 = .ok (.if_icmp .ge 23, 3) := by decide +kernel
theorem d_X_blockedAnswers_12 : decode prog_1_method_25_code 12 = .ok (.aload_n 0, 1) := by decide +kernel
theorem d_X_blockedAnswers_13 : decode prog_1_method_25_code 13 = .ok (.iload_n 2, 1) := by decide +kernel
theorem d_X_blockedAnswers_14 : decode prog_1_method_25_code 14 = .ok (.invokevirtual 68, 3) := by decide +kernel
theorem d_X_blockedAnswers_17 : decode prog_1_method_25_code 17 = .ok (.invokestatic 215, 3) := by decide +kernel
theorem d_X_blockedAnswers_20 : decode prog_1_method_25_code 20 = .ok (.ifCond .eq 6, 3) := by decide +kernel
theorem d_X_blockedAnswers_23 : decode prog_1_method_25_code 23 = .ok (.iinc 1 1, 3) := by decide +kernel
theorem d_X_blockedAnswers_26 : decode prog_1_method_25_code 26 = .ok (.iinc 2 1, 3) := by decide +kernel
theorem d_X_blockedAnswers_29 : decode prog_1_method_25_code 29 = .ok (.goto (-25), 3) := by decide +kernel
theorem d_X_blockedAnswers_32 : decode prog_1_method_25_code 32 = .ok (.iload_n 1, 1) := by decide +kernel
theorem d_X_blockedAnswers_33 : decode prog_1_method_25_code 33 = .ok (.ireturn, 1) := by decide +kernel
theorem d_X_count_0 : decode prog_1_method_19_code 0 = .ok (.aload_n 0, 1) := by decide +kernel
theorem d_X_count_1 : decode prog_1_method_19_code 1 = .ok (.getfield 12, 3) := by decide +kernel
theorem d_X_count_4 : decode prog_1_method_19_code 4 = .ok (.getfield 103, 3) := by decide +kernel
theorem d_X_count_7 : decode prog_1_method_19_code 7 = .ok (.astore_n 2, 1) := by decide +kernel
theorem d_X_count_8 : decode prog_1_method_19_code 8 = .ok (.iload_n 1, 1) := by decide +kernel
theorem d_X_count_9 : decode prog_1_method_19_code 9 = .ok (.tableswitch 103 0 8 #[51, 56, 61, 69, 77, 82, 87, 93, 98], 51) := by decide +kernel
theorem d_X_count_60 : decode prog_1_method_19_code 60 = .ok (.aload_n 2, 1) := by decide +kernel
theorem d_X_count_61 : decode prog_1_method_19_code 61 = .ok (.getfield 107, 3) := by decide +kernel
theorem d_X_count_64 : decode prog_1_method_19_code 64 = .ok (.ireturn, 1) := by decide +kernel
theorem d_X_count_65 : decode prog_1_method_19_code 65 = .ok (.aload_n 2, 1) := by decide +kernel
theorem d_X_count_66 : decode prog_1_method_19_code 66 = .ok (.getfield 125, 3) := by decide +kernel
theorem d_X_count_69 : decode prog_1_method_19_code 69 = .ok (.ireturn, 1) := by decide +kernel
theorem d_X_count_70 : decode prog_1_method_19_code 70 = .ok (.aload_n 0, 1) := by decide +kernel
theorem d_X_count_71 : decode prog_1_method_19_code 71 = .ok (.getfield 19, 3) := by decide +kernel
theorem d_X_count_74 : decode prog_1_method_19_code 74 = .ok (.getfield 100, 3) := by decide +kernel
theorem d_X_count_77 : decode prog_1_method_19_code 77 = .ok (.ireturn, 1) := by decide +kernel
theorem d_X_count_78 : decode prog_1_method_19_code 78 = .ok (.aload_n 0, 1) := by decide +kernel
theorem d_X_count_79 : decode prog_1_method_19_code 79 = .ok (.getfield 19, 3) := by decide +kernel
theorem d_X_count_82 : decode prog_1_method_19_code 82 = .ok (.getfield 132, 3) := by decide +kernel
theorem d_X_count_85 : decode prog_1_method_19_code 85 = .ok (.ireturn, 1) := by decide +kernel
theorem d_X_count_86 : decode prog_1_method_19_code 86 = .ok (.aload_n 2, 1) := by decide +kernel
theorem d_X_count_87 : decode prog_1_method_19_code 87 = .ok (.getfield 193, 3) := by decide +kernel
theorem d_X_count_90 : decode prog_1_method_19_code 90 = .ok (.ireturn, 1) := by decide +kernel
theorem d_X_count_91 : decode prog_1_method_19_code 91 = .ok (.aload_n 2, 1) := by decide +kernel
theorem d_X_count_92 : decode prog_1_method_19_code 92 = .ok (.getfield 196, 3) := by decide +kernel
theorem d_X_count_95 : decode prog_1_method_19_code 95 = .ok (.ireturn, 1) := by decide +kernel
theorem d_X_count_96 : decode prog_1_method_19_code 96 = .ok (.aload_n 2, 1) := by decide +kernel
theorem d_X_count_97 : decode prog_1_method_19_code 97 = .ok (.iconst 0, 1) := by decide +kernel
theorem d_X_count_98 : decode prog_1_method_19_code 98 = .ok (.invokevirtual 199, 3) := by decide +kernel
theorem d_X_count_101 : decode prog_1_method_19_code 101 = .ok (.ireturn, 1) := by decide +kernel
theorem d_X_count_102 : decode prog_1_method_19_code 102 = .ok (.aload_n 2, 1) := by decide +kernel
theorem d_X_count_103 : decode prog_1_method_19_code 103 = .ok (.invokevirtual 202, 3) := by decide +kernel
theorem d_X_count_106 : decode prog_1_method_19_code 106 = .ok (.ireturn, 1) := by decide +kernel
theorem d_X_count_107 : decode prog_1_method_19_code 107 = .ok (.aload_n 0, 1) := by decide +kernel
theorem d_X_count_108 : decode prog_1_method_19_code 108 = .ok (.invokevirtual 205, 3) := by decide +kernel
theorem d_X_count_111 : decode prog_1_method_19_code 111 = .ok (.ireturn, 1) := by decide +kernel
theorem d_X_count_112 : decode prog_1_method_19_code 112 = .ok (.iconst (-1), 1) := by decide +kernel
theorem d_X_count_113 : decode prog_1_method_19_code 113 = .ok (.ireturn, 1) := by decide +kernel
end
section
theorem d_Y_init_0 : decode prog_11_method_1_code 0 = .ok (.aload_n 0, 1) := by decide +kernel
theorem d_Y_init_1 : decode prog_11_method_1_code 1 = .ok (.invokespecial 1, 3) := by decide +kernel
theorem d_Y_init_4 : decode prog_11_method_1_code 4 = .ok (.aload_n 0, 1) := by decide +kernel
theorem d_Y_init_5 : decode prog_11_method_1_code 5 = .ok (.bipush 6, 2) := by decide +kernel
theorem d_Y_init_7 : decode prog_11_method_1_code 7 = .ok (.newarray .boolean, 2) := by decide +kernel
theorem d_Y_init_9 : decode prog_11_method_1_code 9 = .ok (.putfield 7, 3) := by decide +kernel
theorem d_Y_init_12 : decode prog_11_method_1_code 12 = .ok (.aload_n 0, 1) := by decide +kernel
theorem d_Y_init_13 : decode prog_11_method_1_code 13 = .ok (.bipush 6, 2) := by decide +kernel
theorem d_Y_init_15 : decode prog_11_method_1_code 15 = .ok (.newarray .int, 2) := by decide +kernel
theorem d_Y_init_17 : decode prog_11_method_1_code 17 = .ok (.putfield 13, 3) := by decide +kernel
theorem d_Y_init_20 : decode prog_11_method_1_code 20 = .ok (.aload_n 0, 1) := by decide +kernel
theorem d_Y_init_21 : decode prog_11_method_1_code 21 = .ok (.bipush 6, 2) := by decide +kernel
theorem d_Y_init_23 : decode prog_11_method_1_code 23 = .ok (.newarray .int, 2) := by decide +kernel
theorem d_Y_init_25 : decode prog_11_method_1_code 25 = .ok (.putfield 17, 3) := by decide +kernel
theorem d_Y_init_28 : decode prog_11_method_1_code 28 = .ok (.aload_n 0, 1) := by decide +kernel
theorem d_Y_init_29 : decode prog_11_method_1_code 29 = .ok (.bipush 6, 2) := by decide +kernel
theorem d_Y_init_31 : decode prog_11_method_1_code 31 = .ok (.newarray .int, 2) := by decide +kernel
theorem d_Y_init_33 : decode prog_11_method_1_code 33 = .ok (.putfield 20, 3) := by decide +kernel
theorem d_Y_init_36 : decode prog_11_method_1_code 36 = .ok (.aload_n 0, 1) := by decide +kernel
theorem d_Y_init_37 : decode prog_11_method_1_code 37 = .ok (.bipush 60, 2) := by decide +kernel
theorem d_Y_init_39 : decode prog_11_method_1_code 39 = .ok (.newarray .boolean, 2) := by decide +kernel
theorem d_Y_init_41 : decode prog_11_method_1_code 41 = .ok (.putfield 23, 3) := by decide +kernel
theorem d_Y_init_44 : decode prog_11_method_1_code 44 = .ok (.aload_n 0, 1) := by decide +kernel
theorem d_Y_init_45 : decode prog_11_method_1_code 45 = .ok (.bipush 60, 2) := by decide +kernel
theorem d_Y_init_47 : decode prog_11_method_1_code 47 = .ok (.newarray .int, 2) := by decide +kernel
theorem d_Y_init_49 : decode prog_11_method_1_code 49 = .ok (.putfield 26, 3) := by decide +kernel
theorem d_Y_init_52 : decode prog_11_method_1_code 52 = .ok (.aload_n 0, 1) := by decide +kernel
theorem d_Y_init_53 : decode prog_11_method_1_code 53 = .ok (.bipush 60, 2) := by decide +kernel
theorem d_Y_init_55 : decode prog_11_method_1_code 55 = .ok (.newarray .int, 2) := by decide +kernel
theorem d_Y_init_57 : decode prog_11_method_1_code 57 = .ok (.putfield 29, 3) := by decide +kernel
theorem d_Y_init_60 : decode prog_11_method_1_code 60 = .ok (.aload_n 0, 1) := by decide +kernel
theorem d_Y_init_61 : decode prog_11_method_1_code 61 = .ok (.bipush 60, 2) := by decide +kernel
theorem d_Y_init_63 : decode prog_11_method_1_code 63 = .ok (.newarray .int, 2) := by decide +kernel
theorem d_Y_init_65 : decode prog_11_method_1_code 65 = .ok (.putfield 32, 3) := by decide +kernel
theorem d_Y_init_68 : decode prog_11_method_1_code 68 = .ok (.aload_n 0, 1) := by decide +kernel
theorem d_Y_init_69 : decode prog_11_method_1_code 69 = .ok (.bipush 60, 2) := by decide +kernel
theorem d_Y_init_71 : decode prog_11_method_1_code 71 = .ok (.newarray .int, 2) := by decide +kernel
theorem d_Y_init_73 : decode prog_11_method_1_code 73 = .ok (.putfield 35, 3) := by decide +kernel
theorem d_Y_init_76 : decode prog_11_method_1_code 76 = .ok (.aload_n 0, 1) := by decide +kernel
theorem d_Y_init_77 : decode prog_11_method_1_code 77 = .ok (.bipush 60, 2) := by decide +kernel
theorem d_Y_init_79 : decode prog_11_method_1_code 79 = .ok (.newarray .int, 2) := by decide +kernel
theorem d_Y_init_81 : decode prog_11_method_1_code 81 = .ok (.putfield 38, 3) := by decide +kernel
theorem d_Y_init_84 : decode prog_11_method_1_code 84 = .ok (.aload_n 0, 1) := by decide +kernel
theorem d_Y_init_85 : decode prog_11_method_1_code 85 = .ok (.bipush 60, 2) := by decide +kernel
theorem d_Y_init_87 : decode prog_11_method_1_code 87 = .ok (.newarray .int, 2) := by decide +kernel
theorem d_Y_init_89 : decode prog_11_method_1_code 89 = .ok (.putfield 41, 3) := by decide +kernel
theorem d_Y_init_92 : decode prog_11_method_1_code 92 = .ok (.aload_n 0, 1) := by decide +kernel
theorem d_Y_init_93 : decode prog_11_method_1_code 93 = .ok (.bipush 60, 2) := by decide +kernel
theorem d_Y_init_95 : decode prog_11_method_1_code 95 = .ok (.newarray .int, 2) := by decide +kernel
theorem d_Y_init_97 : decode prog_11_method_1_code 97 = .ok (.putfield 44, 3) := by decide +kernel
theorem d_Y_init_100 : decode prog_11_method_1_code 100 = .ok (.aload_n 0, 1) := by decide +kernel
theorem d_Y_init_101 : decode prog_11_method_1_code 101 = .ok (.bipush 60, 2) := by decide +kernel
theorem d_Y_init_103 : decode prog_11_method_1_code 103 = .ok (.newarray .int, 2) := by decide +kernel
theorem d_Y_init_105 : decode prog_11_method_1_code 105 = .ok (.putfield 47, 3) := by decide +kernel
theorem d_Y_init_108 : decode prog_11_method_1_code 108 = .ok (.aload_n 0, 1) := by decide +kernel
theorem d_Y_init_109 : decode prog_11_method_1_code 109 = .ok (.bipush 60, 2) := by decide +kernel
theorem d_Y_init_111 : decode prog_11_method_1_code 111 = .ok (.newarray .int, 2) := by decide +kernel
theorem d_Y_init_113 : decode prog_11_method_1_code 113 = .ok (.putfield 50, 3) := by decide +kernel
theorem d_Y_init_116 : decode prog_11_method_1_code 116 = .ok (.aload_n 0, 1) := by decide +kernel
theorem d_Y_init_117 : decode prog_11_method_1_code 117 = .ok (.bipush 60, 2) := by decide +kernel
theorem d_Y_init_119 : decode prog_11_method_1_code 119 = .ok (.newarray .int, 2) := by decide +kernel
theorem d_Y_init_121 : decode prog_11_method_1_code 121 = .ok (.putfield 53, 3) := by decide +kernel
theorem d_Y_init_124 : decode prog_11_method_1_code 124 = .ok (.aload_n 0, 1) := by decide +kernel
theorem d_Y_init_125 : decode prog_11_method_1_code 125 = .ok (.bipush 60, 2) := by decide +kernel
theorem d_Y_init_127 : decode prog_11_method_1_code 127 = .ok (.newarray .int, 2) := by decide +kernel
theorem d_Y_init_129 : decode prog_11_method_1_code 129 = .ok (.putfield 56, 3) := by decide +kernel
theorem d_Y_init_132 : decode prog_11_method_1_code 132 = .ok (.aload_n 0, 1) := by decide +kernel
theorem d_Y_init_133 : decode prog_11_method_1_code 133 = .ok (.bipush 60, 2) := by decide +kernel
theorem d_Y_init_135 : decode prog_11_method_1_code 135 = .ok (.newarray .int, 2) := by decide +kernel
theorem d_Y_init_137 : decode prog_11_method_1_code 137 = .ok (.putfield 59, 3) := by decide +kernel
theorem d_Y_init_140 : decode prog_11_method_1_code 140 = .ok (.aload_n 0, 1) := by decide +kernel
theorem d_Y_init_141 : decode prog_11_method_1_code 141 = .ok (.sipush 180, 3) := by decide +kernel
theorem d_Y_init_144 : decode prog_11_method_1_code 144 = .ok (.newarray .int, 2) := by decide +kernel
theorem d_Y_init_146 : decode prog_11_method_1_code 146 = .ok (.putfield 62, 3) := by decide +kernel
theorem d_Y_init_149 : decode prog_11_method_1_code 149 = .ok (.aload_n 0, 1) := by decide +kernel
theorem d_Y_init_150 : decode prog_11_method_1_code 150 = .ok (.bipush 6, 2) := by decide +kernel
theorem d_Y_init_152 : decode prog_11_method_1_code 152 = .ok (.newarray .int, 2) := by decide +kernel
theorem d_Y_init_154 : decode prog_11_method_1_code 154 = .ok (.putfield 65, 3) := by decide +kernel
theorem d_Y_init_157 : decode prog_11_method_1_code 157 = .ok (.aload_n 0, 1) := by decide +kernel
theorem d_Y_init_158 : decode prog_11_method_1_code 158 = .ok (.bipush 6, 2) := by decide +kernel
theorem d_Y_init_160 : decode prog_11_method_1_code 160 = .ok (.newarray .int, 2) := by decide +kernel
theorem d_Y_init_162 : decode prog_11_method_1_code 162 = .ok (.putfield 68, 3) := by decide +kernel
theorem d_Y_init_165 : decode prog_11_method_1_code 165 = .ok (.aload_n 0, 1) := by decide +kernel
theorem d_Y_init_166 : decode prog_11_method_1_code 166 = .ok (.bipush 6, 2) := by decide +kernel
theorem d_Y_init_168 : decode prog_11_method_1_code 168 = .ok (.newarray .int, 2) := by decide +kernel
theorem d_Y_init_170 : decode prog_11_method_1_code 170 = .ok (.putfield 71, 3) := by decide +kernel
theorem d_Y_init_173 : decode prog_11_method_1_code 173 = .ok (.aload_n 0, 1) := by decide +kernel
theorem d_Y_init_174 : decode prog_11_method_1_code 174 = .ok (.bipush 6, 2) := by decide +kernel
theorem d_Y_init_176 : decode prog_11_method_1_code 176 = .ok (.newarray .int, 2) := by decide +kernel
theorem d_Y_init_178 : decode prog_11_method_1_code 178 = .ok (.putfield 74, 3) := by decide +kernel
theorem d_Y_init_181 : decode prog_11_method_1_code 181 = .ok (.aload_n 0, 1) := by decide +kernel
theorem d_Y_init_182 : decode prog_11_method_1_code 182 = .ok (.bipush 6, 2) := by decide +kernel
theorem d_Y_init_184 : decode prog_11_method_1_code 184 = .ok (.newarray .int, 2) := by decide +kernel
theorem d_Y_init_186 : decode prog_11_method_1_code 186 = .ok (.putfield 77, 3) := by decide +kernel
theorem d_Y_init_189 : decode prog_11_method_1_code 189 = .ok (.aload_n 0, 1) := by decide +kernel
theorem d_Y_init_190 : decode prog_11_method_1_code 190 = .ok (.sipush 180, 3) := by decide +kernel
theorem d_Y_init_193 : decode prog_11_method_1_code 193 = .ok (.newarray .int, 2) := by decide +kernel
theorem d_Y_init_195 : decode prog_11_method_1_code 195 = .ok (.putfield 80, 3) := by decide +kernel
theorem d_Y_init_198 : decode prog_11_method_1_code 198 = .ok (.aload_n 0, 1) := by decide +kernel
theorem d_Y_init_199 : decode prog_11_method_1_code 199 = .ok (.sipush 180, 3) := by decide +kernel
theorem d_Y_init_202 : decode prog_11_method_1_code 202 = .ok (.newarray .int, 2) := by decide +kernel
theorem d_Y_init_204 : decode prog_11_method_1_code 204 = .ok (.putfield 83, 3) := by decide +kernel
theorem d_Y_init_207 : decode prog_11_method_1_code 207 = .ok (.aload_n 0, 1) := by decide +kernel
theorem d_Y_init_208 : decode prog_11_method_1_code 208 = .ok (.sipush 572, 3) := by decide +kernel
theorem d_Y_init_211 : decode prog_11_method_1_code 211 = .ok (.newarray .int, 2) := by decide +kernel
theorem d_Y_init_213 : decode prog_11_method_1_code 213 = .ok (.putfield 86, 3) := by decide +kernel
theorem d_Y_init_216 : decode prog_11_method_1_code 216 = .ok (.aload_n 0, 1) := by decide +kernel
theorem d_Y_init_217 : decode prog_11_method_1_code 217 = .ok (.sipush 572, 3) := by decide +kernel
theorem d_Y_init_220 : decode prog_11_method_1_code 220 = .ok (.newarray .int, 2) := by decide +kernel
theorem d_Y_init_222 : decode prog_11_method_1_code 222 = .ok (.putfield 89, 3) := by decide +kernel
theorem d_Y_init_225 : decode prog_11_method_1_code 225 = .ok (.iconst 0, 1) := by decide +kernel
theorem d_Y_init_226 : decode prog_11_method_1_code 226 = .ok (.istore_n 1, 1) := by decide +kernel
theorem d_Y_init_227 : decode prog_11_method_1_code 227 = .ok (.iload_n 1, 1) := by decide +kernel
theorem d_Y_init_228 : decode prog_11_method_1_code 228 = .ok (.sipush 180, 3) := by decide +kernel
theorem d_Y_init_231 : decode prog_11_method_1_code 231 = .ok (.if_icmp .ge 16, 3) := by decide +kernel
theorem d_Y_init_234 : decode prog_11_method_1_code 234 = .ok (.aload_n 0, 1) := by decide +kernel
theorem d_Y_init_235 : decode prog_11_method_1_code 235 = .ok (.getfield 62, 3) := by decide +kernel
theorem d_Y_init_238 : decode prog_11_method_1_code 238 = .ok (.iload_n 1, 1) := by decide +kernel
theorem d_Y_init_239 : decode prog_11_method_1_code 239 = .ok (.iconst (-1), 1) := by decide +kernel
theorem d_Y_init_240 : decode prog_11_method_1_code 240 = .ok (.iastore, 1) := by decide +kernel
theorem d_Y_init_241 : decode prog_11_method_1_code 241 = .ok (.iinc 1 1, 3) := by decide +kernel
theorem d_Y_init_244 : decode prog_11_method_1_code 244 = .ok (.goto (-17), 3) := by decide +kernel
theorem d_Y_init_247 : decode prog_11_method_1_code 247 = .ok (.iconst 0, 1) := by decide +kernel
theorem d_Y_init_248 : decode prog_11_method_1_code 248 = .ok (.istore_n 1, 1) := by decide +kernel
theorem d_Y_init_249 : decode prog_11_method_1_code 249 = .ok (.iload_n 1, 1) := by decide +kernel
theorem d_Y_init_250 : decode prog_11_method_1_code 250 = .ok (.bipush 6, 2) := by decide +kernel
theorem d_Y_init_252 : decode prog_11_method_1_code 252 = .ok (.if_icmp .ge 16, 3) := by decide +kernel
theorem d_Y_init_255 : decode prog_11_method_1_code 255 = .ok (.aload_n 0, 1) := by decide +kernel
theorem d_Y_init_256 : decode prog_11_method_1_code 256 = .ok (.getfield 65, 3) := by decide +kernel
theorem d_Y_init_259 : decode prog_11_method_1_code 259 = .ok (.iload_n 1, 1) := by decide +kernel
theorem d_Y_init_260 : decode prog_11_method_1_code 260 = .ok (.iconst (-1), 1) := by decide +kernel
theorem d_Y_init_261 : decode prog_11_method_1_code 261 = .ok (.iastore, 1) := by decide +kernel
theorem d_Y_init_262 : decode prog_11_method_1_code 262 = .ok (.iinc 1 1, 3) := by decide +kernel
theorem d_Y_init_265 : decode prog_11_method_1_code 265 = .ok (.goto (-16), 3) := by decide +kernel
theorem d_Y_init_268 : decode prog_11_method_1_code 268 = .ok (.return_, 1) := by decide +kernel
theorem d_Y_within_0 : decode prog_11_method_2_code 0 = .ok (.iload_n 0, 1) := by decide +kernel
theorem d_Y_within_1 : decode prog_11_method_2_code 1 = .ok (.ifCond .lt 12, 3) := by decide +kernel
theorem d_Y_within_4 : decode prog_11_method_2_code 4 = .ok (.iload_n 0, 1) := by decide +kernel
theorem d_Y_within_5 : decode prog_11_method_2_code 5 = .ok (.iload_n 1, 1) := by decide +kernel
theorem d_Y_within_6 : decode prog_11_method_2_code 6 = .ok (.if_icmp .gt 7, 3) := by decide +kernel
theorem d_Y_within_9 : decode prog_11_method_2_code 9 = .ok (.iconst 1, 1) := by decide +kernel
theorem d_Y_within_10 : decode prog_11_method_2_code 10 = .ok (.goto 4, 3) := by decide +kernel
theorem d_Y_within_13 : decode prog_11_method_2_code 13 = .ok (.iconst 0, 1) := by decide +kernel
theorem d_Y_within_14 : decode prog_11_method_2_code 14 = .ok (.ireturn, 1) := by decide +kernel
theorem d_Y_need_0 : decode prog_11_method_4_code 0 = .ok (.iconst 0, 1) := by decide +kernel
theorem d_Y_need_1 : decode prog_11_method_4_code 1 = .ok (.istore_n 2, 1) := by decide +kernel
theorem d_Y_need_2 : decode prog_11_method_4_code 2 = .ok (.iconst 3, 1) := by decide +kernel
theorem d_Y_need_3 : decode prog_11_method_4_code 3 = .ok (.iload_n 1, 1) := by decide +kernel
theorem d_Y_need_4 : decode prog_11_method_4_code 4 = .ok (.imul, 1) := by decide +kernel
theorem d_Y_need_5 : decode prog_11_method_4_code 5 = .ok (.istore_n 3, 1) := by decide +kernel
theorem d_Y_need_6 : decode prog_11_method_4_code 6 = .ok (.iload_n 3, 1) := by decide +kernel
theorem d_Y_need_7 : decode prog_11_method_4_code 7 = .ok (.iconst 3, 1) := by decide +kernel
theorem d_Y_need_8 : decode prog_11_method_4_code 8 = .ok (.iload_n 1, 1) := by decide +kernel
theorem d_Y_need_9 : decode prog_11_method_4_code 9 = .ok (.imul, 1) := by decide +kernel
theorem d_Y_need_10 : decode prog_11_method_4_code 10 = .ok (.iconst 3, 1) := by decide +kernel
theorem d_Y_need_11 : decode prog_11_method_4_code 11 = .ok (.iadd, 1) := by decide +kernel
theorem d_Y_need_12 : decode prog_11_method_4_code 12 = .ok (.if_icmp .ge 34, 3) := by decide +kernel
theorem d_Y_need_15 : decode prog_11_method_4_code 15 = .ok (.aload_n 0, 1) := by decide +kernel
theorem d_Y_need_16 : decode prog_11_method_4_code 16 = .ok (.getfield 62, 3) := by decide +kernel
theorem d_Y_need_19 : decode prog_11_method_4_code 19 = .ok (.iload_n 3, 1) := by decide +kernel
theorem d_Y_need_20 : decode prog_11_method_4_code 20 = .ok (.iaload, 1) := by decide +kernel
theorem d_Y_need_21 : decode prog_11_method_4_code 21 = .ok (.iconst 1, 1) := by decide +kernel
theorem d_Y_need_22 : decode prog_11_method_4_code 22 = .ok (.iadd, 1) := by decide +kernel
theorem d_Y_need_23 : decode prog_11_method_4_code 23 = .ok (.iload_n 2, 1) := by decide +kernel
theorem d_Y_need_24 : decode prog_11_method_4_code 24 = .ok (.if_icmp .le 14, 3) := by decide +kernel
theorem d_Y_need_27 : decode prog_11_method_4_code 27 = .ok (.aload_n 0, 1) := by decide +kernel
theorem d_Y_need_28 : decode prog_11_method_4_code 28 = .ok (.getfield 62, 3) := by decide +kernel
theorem d_Y_need_31 : decode prog_11_method_4_code 31 = .ok (.iload_n 3, 1) := by decide +kernel
theorem d_Y_need_32 : decode prog_11_method_4_code 32 = .ok (.iaload, 1) := by decide +kernel
theorem d_Y_need_33 : decode prog_11_method_4_code 33 = .ok (.iconst 1, 1) := by decide +kernel
theorem d_Y_need_34 : decode prog_11_method_4_code 34 = .ok (.iadd, 1) := by decide +kernel
theorem d_Y_need_35 : decode prog_11_method_4_code 35 = .ok (.goto 4, 3) := by decide +kernel
theorem d_Y_need_38 : decode prog_11_method_4_code 38 = .ok (.iload_n 2, 1) := by decide +kernel
theorem d_Y_need_39 : decode prog_11_method_4_code 39 = .ok (.istore_n 2, 1) := by decide +kernel
theorem d_Y_need_40 : decode prog_11_method_4_code 40 = .ok (.iinc 3 1, 3) := by decide +kernel
theorem d_Y_need_43 : decode prog_11_method_4_code 43 = .ok (.goto (-37), 3) := by decide +kernel
theorem d_Y_need_46 : decode prog_11_method_4_code 46 = .ok (.iload_n 2, 1) := by decide +kernel
theorem d_Y_need_47 : decode prog_11_method_4_code 47 = .ok (.ireturn, 1) := by decide +kernel
theorem d_Y_after_0 : decode prog_11_method_3_code 0 = .ok (.iconst 0, 1) := by decide +kernel
theorem d_Y_after_1 : decode prog_11_method_3_code 1 = .ok (.istore_n 2, 1) := by decide +kernel
theorem d_Y_after_2 : decode prog_11_method_3_code 2 = .ok (.iconst 0, 1) := by decide +kernel
theorem d_Y_after_3 : decode prog_11_method_3_code 3 = .ok (.istore_n 3, 1) := by decide +kernel
theorem d_Y_after_4 : decode prog_11_method_3_code 4 = .ok (.iload_n 3, 1) := by decide +kernel
theorem d_Y_after_5 : decode prog_11_method_3_code 5 = .ok (.iload_n 1, 1) := by decide +kernel
theorem d_Y_after_6 : decode prog_11_method_3_code 6 = .ok (.if_icmp .ge 65, 3) := by decide +kernel
theorem d_Y_after_9 : decode prog_11_method_3_code 9 = .ok (.aload_n 0, 1) := by decide +kernel
theorem d_Y_after_10 : decode prog_11_method_3_code 10 = .ok (.getfield 86, 3) := by decide +kernel
theorem d_Y_after_13 : decode prog_11_method_3_code 13 = .ok (.iload_n 3, 1) := by decide +kernel
theorem d_Y_after_14 : decode prog_11_method_3_code 14 = .ok (.iaload, 1) := by decide +kernel
theorem d_Y_after_15 : decode prog_11_method_3_code 15 = .ok (.iconst 2, 1) := by decide +kernel
theorem d_Y_after_16 : decode prog_11_method_3_code 16 = .ok (.if_icmp .ne 15, 3) := by decide +kernel
theorem d_Y_after_19 : decode prog_11_method_3_code 19 = .ok (.iload_n 2, 1) := by decide +kernel
theorem d_Y_after_20 : decode prog_11_method_3_code 20 = .ok (.aload_n 0, 1) := by decide +kernel
theorem d_Y_after_21 : decode prog_11_method_3_code 21 = .ok (.getfield 89, 3) := by decide +kernel
theorem d_Y_after_24 : decode prog_11_method_3_code 24 = .ok (.iload_n 3, 1) := by decide +kernel
theorem d_Y_after_25 : decode prog_11_method_3_code 25 = .ok (.iaload, 1) := by decide +kernel
theorem d_Y_after_26 : decode prog_11_method_3_code 26 = .ok (.iadd, 1) := by decide +kernel
theorem d_Y_after_27 : decode prog_11_method_3_code 27 = .ok (.istore_n 2, 1) := by decide +kernel
theorem d_Y_after_28 : decode prog_11_method_3_code 28 = .ok (.goto 37, 3) := by decide +kernel
theorem d_Y_after_31 : decode prog_11_method_3_code 31 = .ok (.aload_n 0, 1) := by decide +kernel
theorem d_Y_after_32 : decode prog_11_method_3_code 32 = .ok (.getfield 86, 3) := by decide +kernel
theorem d_Y_after_35 : decode prog_11_method_3_code 35 = .ok (.iload_n 3, 1) := by decide +kernel
theorem d_Y_after_36 : decode prog_11_method_3_code 36 = .ok (.iaload, 1) := by decide +kernel
theorem d_Y_after_37 : decode prog_11_method_3_code 37 = .ok (.ifCond .ne 28, 3) := by decide +kernel
theorem d_Y_after_40 : decode prog_11_method_3_code 40 = .ok (.aload_n 0, 1) := by decide +kernel
theorem d_Y_after_41 : decode prog_11_method_3_code 41 = .ok (.aload_n 0, 1) := by decide +kernel
theorem d_Y_after_42 : decode prog_11_method_3_code 42 = .ok (.getfield 89, 3) := by decide +kernel
theorem d_Y_after_45 : decode prog_11_method_3_code 45 = .ok (.iload_n 3, 1) := by decide +kernel
theorem d_Y_after_46 : decode prog_11_method_3_code 46 = .ok (.iaload, 1) := by decide +kernel
theorem d_Y_after_47 : decode prog_11_method_3_code 47 = .ok (.invokevirtual 92, 3) := by decide +kernel
theorem d_Y_after_50 : decode prog_11_method_3_code 50 = .ok (.istore 4, 2) := by decide +kernel
theorem d_Y_after_52 : decode prog_11_method_3_code 52 = .ok (.iload 4, 2) := by decide +kernel
theorem d_Y_after_54 : decode prog_11_method_3_code 54 = .ok (.iload_n 2, 1) := by decide +kernel
theorem d_Y_after_55 : decode prog_11_method_3_code 55 = .ok (.if_icmp .le 8, 3) := by decide +kernel
theorem d_Y_after_58 : decode prog_11_method_3_code 58 = .ok (.iload 4, 2) := by decide +kernel
theorem d_Y_after_60 : decode prog_11_method_3_code 60 = .ok (.goto 4, 3) := by decide +kernel
theorem d_Y_after_63 : decode prog_11_method_3_code 63 = .ok (.iload_n 2, 1) := by decide +kernel
theorem d_Y_after_64 : decode prog_11_method_3_code 64 = .ok (.istore_n 2, 1) := by decide +kernel
theorem d_Y_after_65 : decode prog_11_method_3_code 65 = .ok (.iinc 3 1, 3) := by decide +kernel
theorem d_Y_after_68 : decode prog_11_method_3_code 68 = .ok (.goto (-64), 3) := by decide +kernel
theorem d_Y_after_71 : decode prog_11_method_3_code 71 = .ok (.iload_n 2, 1) := by decide +kernel
theorem d_Y_after_72 : decode prog_11_method_3_code 72 = .ok (.ireturn, 1) := by decide +kernel
theorem d_Y_outstanding_0 : decode prog_11_method_5_code 0 = .ok (.aload_n 0, 1) := by decide +kernel
theorem d_Y_outstanding_1 : decode prog_11_method_5_code 1 = .ok (.getfield 50, 3) := by decide +kernel
theorem d_Y_outstanding_4 : decode prog_11_method_5_code 4 = .ok (.iload_n 1, 1) := by decide +kernel
theorem d_Y_outstanding_5 : decode prog_11_method_5_code 5 = .ok (.iaload, 1) := by decide +kernel
theorem d_Y_outstanding_6 : decode prog_11_method_5_code 6 = .ok (.ifCond .le 15, 3) := by decide +kernel
theorem d_Y_outstanding_9 : decode prog_11_method_5_code 9 = .ok (.aload_n 0, 1) := by decide +kernel
theorem d_Y_outstanding_10 : decode prog_11_method_5_code 10 = .ok (.iload_n 1, 1) := by decide +kernel
theorem d_Y_outstanding_11 : decode prog_11_method_5_code 11 = .ok (.invokevirtual 92, 3) := by decide +kernel
theorem d_Y_outstanding_14 : decode prog_11_method_5_code 14 = .ok (.ifCond .le 7, 3) := by decide +kernel
theorem d_Y_outstanding_17 : decode prog_11_method_5_code 17 = .ok (.iconst 1, 1) := by decide +kernel
theorem d_Y_outstanding_18 : decode prog_11_method_5_code 18 = .ok (.goto 4, 3) := by decide +kernel
theorem d_Y_outstanding_21 : decode prog_11_method_5_code 21 = .ok (.iconst 0, 1) := by decide +kernel
theorem d_Y_outstanding_22 : decode prog_11_method_5_code 22 = .ok (.istore_n 2, 1) := by decide +kernel
theorem d_Y_outstanding_23 : decode prog_11_method_5_code 23 = .ok (.iconst 0, 1) := by decide +kernel
theorem d_Y_outstanding_24 : decode prog_11_method_5_code 24 = .ok (.istore_n 3, 1) := by decide +kernel
theorem d_Y_outstanding_25 : decode prog_11_method_5_code 25 = .ok (.iload_n 3, 1) := by decide +kernel
theorem d_Y_outstanding_26 : decode prog_11_method_5_code 26 = .ok (.aload_n 0, 1) := by decide +kernel
theorem d_Y_outstanding_27 : decode prog_11_method_5_code 27 = .ok (.getfield 96, 3) := by decide +kernel
theorem d_Y_outstanding_30 : decode prog_11_method_5_code 30 = .ok (.if_icmp .ge 39, 3) := by decide +kernel
theorem d_Y_outstanding_33 : decode prog_11_method_5_code 33 = .ok (.iload_n 2, 1) := by decide +kernel
theorem d_Y_outstanding_34 : decode prog_11_method_5_code 34 = .ok (.ifCond .eq 35, 3) := by decide +kernel
theorem d_Y_outstanding_37 : decode prog_11_method_5_code 37 = .ok (.aload_n 0, 1) := by decide +kernel
theorem d_Y_outstanding_38 : decode prog_11_method_5_code 38 = .ok (.getfield 86, 3) := by decide +kernel
theorem d_Y_outstanding_41 : decode prog_11_method_5_code 41 = .ok (.iload_n 3, 1) := by decide +kernel
theorem d_Y_outstanding_42 : decode prog_11_method_5_code 42 = .ok (.iaload, 1) := by decide +kernel
theorem d_Y_outstanding_43 : decode prog_11_method_5_code 43 = .ok (.iconst 2, 1) := by decide +kernel
theorem d_Y_outstanding_44 : decode prog_11_method_5_code 44 = .ok (.if_icmp .eq 13, 3) := by decide +kernel
theorem d_Y_outstanding_47 : decode prog_11_method_5_code 47 = .ok (.aload_n 0, 1) := by decide +kernel
theorem d_Y_outstanding_48 : decode prog_11_method_5_code 48 = .ok (.getfield 89, 3) := by decide +kernel
theorem d_Y_outstanding_51 : decode prog_11_method_5_code 51 = .ok (.iload_n 3, 1) := by decide +kernel
theorem d_Y_outstanding_52 : decode prog_11_method_5_code 52 = .ok (.iaload, 1) := by decide +kernel
theorem d_Y_outstanding_53 : decode prog_11_method_5_code 53 = .ok (.iload_n 1, 1) := by decide +kernel
theorem d_Y_outstanding_54 : decode prog_11_method_5_code 54 = .ok (.if_icmp .eq 7, 3) := by decide +kernel
theorem d_Y_outstanding_57 : decode prog_11_method_5_code 57 = .ok (.iconst 1, 1) := by decide +kernel
theorem d_Y_outstanding_58 : decode prog_11_method_5_code 58 = .ok (.goto 4, 3) := by decide +kernel
theorem d_Y_outstanding_61 : decode prog_11_method_5_code 61 = .ok (.iconst 0, 1) := by decide +kernel
theorem d_Y_outstanding_62 : decode prog_11_method_5_code 62 = .ok (.istore_n 2, 1) := by decide +kernel
theorem d_Y_outstanding_63 : decode prog_11_method_5_code 63 = .ok (.iinc 3 1, 3) := by decide +kernel
theorem d_Y_outstanding_66 : decode prog_11_method_5_code 66 = .ok (.goto (-41), 3) := by decide +kernel
theorem d_Y_outstanding_69 : decode prog_11_method_5_code 69 = .ok (.iload_n 2, 1) := by decide +kernel
theorem d_Y_outstanding_70 : decode prog_11_method_5_code 70 = .ok (.ireturn, 1) := by decide +kernel
theorem d_Y_risky_0 : decode prog_11_method_6_code 0 = .ok (.iconst 0, 1) := by decide +kernel
theorem d_Y_risky_1 : decode prog_11_method_6_code 1 = .ok (.istore_n 3, 1) := by decide +kernel
theorem d_Y_risky_2 : decode prog_11_method_6_code 2 = .ok (.iconst 0, 1) := by decide +kernel
theorem d_Y_risky_3 : decode prog_11_method_6_code 3 = .ok (.istore 4, 2) := by decide +kernel
theorem d_Y_risky_5 : decode prog_11_method_6_code 5 = .ok (.iload 4, 2) := by decide +kernel
theorem d_Y_risky_7 : decode prog_11_method_6_code 7 = .ok (.aload_n 0, 1) := by decide +kernel
theorem d_Y_risky_8 : decode prog_11_method_6_code 8 = .ok (.getfield 100, 3) := by decide +kernel
theorem d_Y_risky_11 : decode prog_11_method_6_code 11 = .ok (.if_icmp .ge 42, 3) := by decide +kernel
theorem d_Y_risky_14 : decode prog_11_method_6_code 14 = .ok (.iload 4, 2) := by decide +kernel
theorem d_Y_risky_16 : decode prog_11_method_6_code 16 = .ok (.iload_n 2, 1) := by decide +kernel
theorem d_Y_risky_17 : decode prog_11_method_6_code 17 = .ok (.if_icmp .eq 28, 3) := by decide +kernel
theorem d_Y_risky_20 : decode prog_11_method_6_code 20 = .ok (.aload_n 0, 1) := by decide +kernel
theorem d_Y_risky_21 : decode prog_11_method_6_code 21 = .ok (.iload 4, 2) := by decide +kernel
theorem d_Y_risky_23 : decode prog_11_method_6_code 23 = .ok (.invokevirtual 92, 3) := by decide +kernel
theorem d_Y_risky_26 : decode prog_11_method_6_code 26 = .ok (.iload_n 1, 1) := by decide +kernel
theorem d_Y_risky_27 : decode prog_11_method_6_code 27 = .ok (.if_icmp .le 18, 3) := by decide +kernel
theorem d_Y_risky_30 : decode prog_11_method_6_code 30 = .ok (.aload_n 0, 1) := by decide +kernel
theorem d_Y_risky_31 : decode prog_11_method_6_code 31 = .ok (.iload 4, 2) := by decide +kernel
theorem d_Y_risky_33 : decode prog_11_method_6_code 33 = .ok (.invokevirtual 103, 3) := by decide +kernel
theorem d_Y_risky_36 : decode prog_11_method_6_code 36 = .ok (.ifCond .eq 9, 3) := by decide +kernel
theorem d_Y_risky_39 : decode prog_11_method_6_code 39 = .ok (.iload_n 3, 1) := by decide +kernel
theorem d_Y_risky_40 : decode prog_11_method_6_code 40 = .ok (.iconst 1, 1) := by decide +kernel
theorem d_Y_risky_41 : decode prog_11_method_6_code 41 = .ok (.iadd, 1) := by decide +kernel
theorem d_Y_risky_42 : decode prog_11_method_6_code 42 = .ok (.goto 4, 3) := by decide +kernel
theorem d_Y_risky_45 : decode prog_11_method_6_code 45 = .ok (.iload_n 3, 1) := by decide +kernel
theorem d_Y_risky_46 : decode prog_11_method_6_code 46 = .ok (.istore_n 3, 1) := by decide +kernel
theorem d_Y_risky_47 : decode prog_11_method_6_code 47 = .ok (.iinc 4 1, 3) := by decide +kernel
theorem d_Y_risky_50 : decode prog_11_method_6_code 50 = .ok (.goto (-45), 3) := by decide +kernel
theorem d_Y_risky_53 : decode prog_11_method_6_code 53 = .ok (.iload_n 3, 1) := by decide +kernel
theorem d_Y_risky_54 : decode prog_11_method_6_code 54 = .ok (.ireturn, 1) := by decide +kernel
theorem d_Y_uses_0 : decode prog_11_method_7_code 0 = .ok (.iconst 0, 1) := by decide +kernel
theorem d_Y_uses_1 : decode prog_11_method_7_code 1 = .ok (.istore_n 3, 1) := by decide +kernel
theorem d_Y_uses_2 : decode prog_11_method_7_code 2 = .ok (.iconst 0, 1) := by decide +kernel
theorem d_Y_uses_3 : decode prog_11_method_7_code 3 = .ok (.istore 4, 2) := by decide +kernel
theorem d_Y_uses_5 : decode prog_11_method_7_code 5 = .ok (.iload 4, 2) := by decide +kernel
theorem d_Y_uses_7 : decode prog_11_method_7_code 7 = .ok (.aload_n 0, 1) := by decide +kernel
theorem d_Y_uses_8 : decode prog_11_method_7_code 8 = .ok (.getfield 100, 3) := by decide +kernel
theorem d_Y_uses_11 : decode prog_11_method_7_code 11 = .ok (.if_icmp .ge 78, 3) := by decide +kernel
theorem d_Y_uses_14 : decode prog_11_method_7_code 14 = .ok (.iload 4, 2) := by decide +kernel
theorem d_Y_uses_16 : decode prog_11_method_7_code 16 = .ok (.iload_n 2, 1) := by decide +kernel
theorem d_Y_uses_17 : decode prog_11_method_7_code 17 = .ok (.if_icmp .eq 12, 3) := by decide +kernel
theorem d_Y_uses_20 : decode prog_11_method_7_code 20 = .ok (.aload_n 0, 1) := by decide +kernel
theorem d_Y_uses_21 : decode prog_11_method_7_code 21 = .ok (.iload 4, 2) := by decide +kernel
theorem d_Y_uses_23 : decode prog_11_method_7_code 23 = .ok (.invokevirtual 103, 3) := by decide +kernel
theorem d_Y_uses_26 : decode prog_11_method_7_code 26 = .ok (.ifCond .eq 7, 3) := by decide +kernel
theorem d_Y_uses_29 : decode prog_11_method_7_code 29 = .ok (.iconst 1, 1) := by decide +kernel
theorem d_Y_uses_30 : decode prog_11_method_7_code 30 = .ok (.goto 4, 3) := by decide +kernel
theorem d_Y_uses_33 : decode prog_11_method_7_code 33 = .ok (.iconst 0, 1) := by decide +kernel
theorem d_Y_uses_34 : decode prog_11_method_7_code 34 = .ok (.istore 5, 2) := by decide +kernel
theorem d_Y_uses_36 : decode prog_11_method_7_code 36 = .ok (.iconst 3, 1) := by decide +kernel
theorem d_Y_uses_37 : decode prog_11_method_7_code 37 = .ok (.iload 4, 2) := by decide +kernel
theorem d_Y_uses_39 : decode prog_11_method_7_code 39 = .ok (.imul, 1) := by decide +kernel
theorem d_Y_uses_40 : decode prog_11_method_7_code 40 = .ok (.istore 6, 2) := by decide +kernel
theorem d_Y_uses_42 : decode prog_11_method_7_code 42 = .ok (.iload 6, 2) := by decide +kernel
theorem d_Y_uses_44 : decode prog_11_method_7_code 44 = .ok (.iconst 3, 1) := by decide +kernel
theorem d_Y_uses_45 : decode prog_11_method_7_code 45 = .ok (.iload 4, 2) := by decide +kernel
theorem d_Y_uses_47 : decode prog_11_method_7_code 47 = .ok (.imul, 1) := by decide +kernel
theorem d_Y_uses_48 : decode prog_11_method_7_code 48 = .ok (.iconst 3, 1) := by decide +kernel
theorem d_Y_uses_49 : decode prog_11_method_7_code 49 = .ok (.iadd, 1) := by decide +kernel
theorem d_Y_uses_50 : decode prog_11_method_7_code 50 = .ok (.if_icmp .ge 33, 3) := by decide +kernel
theorem d_Y_uses_53 : decode prog_11_method_7_code 53 = .ok (.iload 5, 2) := by decide +kernel
theorem d_Y_uses_55 : decode prog_11_method_7_code 55 = .ok (.ifCond .eq 28, 3) := by decide +kernel
theorem d_Y_uses_58 : decode prog_11_method_7_code 58 = .ok (.aload_n 0, 1) := by decide +kernel
theorem d_Y_uses_59 : decode prog_11_method_7_code 59 = .ok (.getfield 62, 3) := by decide +kernel
theorem d_Y_uses_62 : decode prog_11_method_7_code 62 = .ok (.iload 6, 2) := by decide +kernel
theorem d_Y_uses_64 : decode prog_11_method_7_code 64 = .ok (.iaload, 1) := by decide +kernel
theorem d_Y_uses_65 : decode prog_11_method_7_code 65 = .ok (.iload_n 1, 1) := by decide +kernel
theorem d_Y_uses_66 : decode prog_11_method_7_code 66 = .ok (.if_icmp .ne 9, 3) := by decide +kernel
theorem d_Y_uses_69 : decode prog_11_method_7_code 69 = .ok (.iload_n 3, 1) := by decide +kernel
theorem d_Y_uses_70 : decode prog_11_method_7_code 70 = .ok (.iconst 1, 1) := by decide +kernel
theorem d_Y_uses_71 : decode prog_11_method_7_code 71 = .ok (.iadd, 1) := by decide +kernel
theorem d_Y_uses_72 : decode prog_11_method_7_code 72 = .ok (.goto 4, 3) := by decide +kernel
theorem d_Y_uses_75 : decode prog_11_method_7_code 75 = .ok (.iload_n 3, 1) := by decide +kernel
theorem d_Y_uses_76 : decode prog_11_method_7_code 76 = .ok (.istore_n 3, 1) := by decide +kernel
theorem d_Y_uses_77 : decode prog_11_method_7_code 77 = .ok (.iinc 6 1, 3) := by decide +kernel
theorem d_Y_uses_80 : decode prog_11_method_7_code 80 = .ok (.goto (-38), 3) := by decide +kernel
theorem d_Y_uses_83 : decode prog_11_method_7_code 83 = .ok (.iinc 4 1, 3) := by decide +kernel
theorem d_Y_uses_86 : decode prog_11_method_7_code 86 = .ok (.goto (-81), 3) := by decide +kernel
theorem d_Y_uses_89 : decode prog_11_method_7_code 89 = .ok (.iload_n 3, 1) := by decide +kernel
theorem d_Y_uses_90 : decode prog_11_method_7_code 90 = .ok (.ireturn, 1) := by decide +kernel
theorem d_Y_oldest_0 : decode prog_11_method_8_code 0 = .ok (.aload_n 0, 1) := by decide +kernel
theorem d_Y_oldest_1 : decode prog_11_method_8_code 1 = .ok (.getfield 107, 3) := by decide +kernel
theorem d_Y_oldest_4 : decode prog_11_method_8_code 4 = .ok (.iconst 5, 1) := by decide +kernel
theorem d_Y_oldest_5 : decode prog_11_method_8_code 5 = .ok (.if_icmp .le 12, 3) := by decide +kernel
theorem d_Y_oldest_8 : decode prog_11_method_8_code 8 = .ok (.aload_n 0, 1) := by decide +kernel
theorem d_Y_oldest_9 : decode prog_11_method_8_code 9 = .ok (.getfield 107, 3) := by decide +kernel
theorem d_Y_oldest_12 : decode prog_11_method_8_code 12 = .ok (.iconst 5, 1) := by decide +kernel
theorem d_Y_oldest_13 : decode prog_11_method_8_code 13 = .ok (.isub, 1) := by decide +kernel
theorem d_Y_oldest_14 : decode prog_11_method_8_code 14 = .ok (.goto 4, 3) := by decide +kernel
theorem d_Y_oldest_17 : decode prog_11_method_8_code 17 = .ok (.iconst 0, 1) := by decide +kernel
theorem d_Y_oldest_18 : decode prog_11_method_8_code 18 = .ok (.ireturn, 1) := by decide +kernel
theorem d_Y_tell_0 : decode prog_11_method_9_code 0 = .ok (.aload_n 0, 1) := by decide +kernel
theorem d_Y_tell_1 : decode prog_11_method_9_code 1 = .ok (.getfield 86, 3) := by decide +kernel
theorem d_Y_tell_4 : decode prog_11_method_9_code 4 = .ok (.aload_n 0, 1) := by decide +kernel
theorem d_Y_tell_5 : decode prog_11_method_9_code 5 = .ok (.getfield 110, 3) := by decide +kernel
theorem d_Y_tell_8 : decode prog_11_method_9_code 8 = .ok (.iload_n 1, 1) := by decide +kernel
theorem d_Y_tell_9 : decode prog_11_method_9_code 9 = .ok (.iastore, 1) := by decide +kernel
theorem d_Y_tell_10 : decode prog_11_method_9_code 10 = .ok (.aload_n 0, 1) := by decide +kernel
theorem d_Y_tell_11 : decode prog_11_method_9_code 11 = .ok (.getfield 89, 3) := by decide +kernel
theorem d_Y_tell_14 : decode prog_11_method_9_code 14 = .ok (.aload_n 0, 1) := by decide +kernel
theorem d_Y_tell_15 : decode prog_11_method_9_code 15 = .ok (.getfield 110, 3) := by decide +kernel
theorem d_Y_tell_18 : decode prog_11_method_9_code 18 = .ok (.iload_n 2, 1) := by decide +kernel
theorem d_Y_tell_19 : decode prog_11_method_9_code 19 = .ok (.iastore, 1) := by decide +kernel
theorem d_Y_tell_20 : decode prog_11_method_9_code 20 = .ok (.aload_n 0, 1) := by decide +kernel
theorem d_Y_tell_21 : decode prog_11_method_9_code 21 = .ok (.dup, 1) := by decide +kernel
theorem d_Y_tell_22 : decode prog_11_method_9_code 22 = .ok (.getfield 110, 3) := by decide +kernel
theorem d_Y_tell_25 : decode prog_11_method_9_code 25 = .ok (.iconst 1, 1) := by decide +kernel
theorem d_Y_tell_26 : decode prog_11_method_9_code 26 = .ok (.iadd, 1) := by decide +kernel
theorem d_Y_tell_27 : decode prog_11_method_9_code 27 = .ok (.putfield 110, 3) := by decide +kernel
theorem d_Y_tell_30 : decode prog_11_method_9_code 30 = .ok (.return_, 1) := by decide +kernel
theorem d_Y_write_0 : decode prog_11_method_10_code 0 = .ok (.aload_n 0, 1) := by decide +kernel
theorem d_Y_write_1 : decode prog_11_method_10_code 1 = .ok (.dup, 1) := by decide +kernel
theorem d_Y_write_2 : decode prog_11_method_10_code 2 = .ok (.getfield 113, 3) := by decide +kernel
theorem d_Y_write_5 : decode prog_11_method_10_code 5 = .ok (.iconst 1, 1) := by decide +kernel
theorem d_Y_write_6 : decode prog_11_method_10_code 6 = .ok (.iadd, 1) := by decide +kernel
theorem d_Y_write_7 : decode prog_11_method_10_code 7 = .ok (.putfield 113, 3) := by decide +kernel
theorem d_Y_write_10 : decode prog_11_method_10_code 10 = .ok (.aload_n 0, 1) := by decide +kernel
theorem d_Y_write_11 : decode prog_11_method_10_code 11 = .ok (.getfield 7, 3) := by decide +kernel
theorem d_Y_write_14 : decode prog_11_method_10_code 14 = .ok (.iload_n 1, 1) := by decide +kernel
theorem d_Y_write_15 : decode prog_11_method_10_code 15 = .ok (.iconst 1, 1) := by decide +kernel
theorem d_Y_write_16 : decode prog_11_method_10_code 16 = .ok (.bastore, 1) := by decide +kernel
theorem d_Y_write_17 : decode prog_11_method_10_code 17 = .ok (.aload_n 0, 1) := by decide +kernel
theorem d_Y_write_18 : decode prog_11_method_10_code 18 = .ok (.getfield 13, 3) := by decide +kernel
theorem d_Y_write_21 : decode prog_11_method_10_code 21 = .ok (.iload_n 1, 1) := by decide +kernel
theorem d_Y_write_22 : decode prog_11_method_10_code 22 = .ok (.iload_n 2, 1) := by decide +kernel
theorem d_Y_write_23 : decode prog_11_method_10_code 23 = .ok (.iastore, 1) := by decide +kernel
theorem d_Y_write_24 : decode prog_11_method_10_code 24 = .ok (.aload_n 0, 1) := by decide +kernel
theorem d_Y_write_25 : decode prog_11_method_10_code 25 = .ok (.getfield 17, 3) := by decide +kernel
theorem d_Y_write_28 : decode prog_11_method_10_code 28 = .ok (.iload_n 1, 1) := by decide +kernel
theorem d_Y_write_29 : decode prog_11_method_10_code 29 = .ok (.iload_n 3, 1) := by decide +kernel
theorem d_Y_write_30 : decode prog_11_method_10_code 30 = .ok (.iastore, 1) := by decide +kernel
theorem d_Y_write_31 : decode prog_11_method_10_code 31 = .ok (.aload_n 0, 1) := by decide +kernel
theorem d_Y_write_32 : decode prog_11_method_10_code 32 = .ok (.getfield 20, 3) := by decide +kernel
theorem d_Y_write_35 : decode prog_11_method_10_code 35 = .ok (.iload_n 1, 1) := by decide +kernel
theorem d_Y_write_36 : decode prog_11_method_10_code 36 = .ok (.aload_n 0, 1) := by decide +kernel
theorem d_Y_write_37 : decode prog_11_method_10_code 37 = .ok (.getfield 113, 3) := by decide +kernel
theorem d_Y_write_40 : decode prog_11_method_10_code 40 = .ok (.iastore, 1) := by decide +kernel
theorem d_Y_write_41 : decode prog_11_method_10_code 41 = .ok (.aload_n 0, 1) := by decide +kernel
theorem d_Y_write_42 : decode prog_11_method_10_code 42 = .ok (.getfield 113, 3) := by decide +kernel
theorem d_Y_write_45 : decode prog_11_method_10_code 45 = .ok (.ireturn, 1) := by decide +kernel
theorem d_Y_put_0 : decode prog_11_method_11_code 0 = .ok (.iload_n 1, 1) := by decide +kernel
theorem d_Y_put_1 : decode prog_11_method_11_code 1 = .ok (.iconst 5, 1) := by decide +kernel
theorem d_Y_put_2 : decode prog_11_method_11_code 2 = .ok (.invokestatic 116, 3) := by decide +kernel
theorem d_Y_put_5 : decode prog_11_method_11_code 5 = .ok (.ifCond .eq 23, 3) := by decide +kernel
theorem d_Y_put_8 : decode prog_11_method_11_code 8 = .ok (.iload_n 3, 1) := by decide +kernel
theorem d_Y_put_9 : decode prog_11_method_11_code 9 = .ok (.sipush 1000, 3) := by decide +kernel
theorem d_Y_put_12 : decode prog_11_method_11_code 12 = .ok (.invokestatic 116, 3) := by decide +kernel
theorem d_Y_put_15 : decode prog_11_method_11_code 15 = .ok (.ifCond .eq 13, 3) := by decide +kernel
theorem d_Y_put_18 : decode prog_11_method_11_code 18 = .ok (.aload_n 0, 1) := by decide +kernel
theorem d_Y_put_19 : decode prog_11_method_11_code 19 = .ok (.iload_n 1, 1) := by decide +kernel
theorem d_Y_put_20 : decode prog_11_method_11_code 20 = .ok (.iload_n 2, 1) := by decide +kernel
theorem d_Y_put_21 : decode prog_11_method_11_code 21 = .ok (.iload_n 3, 1) := by decide +kernel
theorem d_Y_put_22 : decode prog_11_method_11_code 22 = .ok (.invokevirtual 120, 3) := by decide +kernel
theorem d_Y_put_25 : decode prog_11_method_11_code 25 = .ok (.goto 4, 3) := by decide +kernel
theorem d_Y_put_28 : decode prog_11_method_11_code 28 = .ok (.iconst (-1), 1) := by decide +kernel
theorem d_Y_put_29 : decode prog_11_method_11_code 29 = .ok (.ireturn, 1) := by decide +kernel
theorem d_Y_drop_0 : decode prog_11_method_12_code 0 = .ok (.iload_n 1, 1) := by decide +kernel
theorem d_Y_drop_1 : decode prog_11_method_12_code 1 = .ok (.iconst 5, 1) := by decide +kernel
theorem d_Y_drop_2 : decode prog_11_method_12_code 2 = .ok (.invokestatic 116, 3) := by decide +kernel
theorem d_Y_drop_5 : decode prog_11_method_12_code 5 = .ok (.ifCond .eq 12, 3) := by decide +kernel
theorem d_Y_drop_8 : decode prog_11_method_12_code 8 = .ok (.aload_n 0, 1) := by decide +kernel
theorem d_Y_drop_9 : decode prog_11_method_12_code 9 = .ok (.getfield 7, 3) := by decide +kernel
theorem d_Y_drop_12 : decode prog_11_method_12_code 12 = .ok (.iload_n 1, 1) := by decide +kernel
theorem d_Y_drop_13 : decode prog_11_method_12_code 13 = .ok (.baload, 1) := by decide +kernel
theorem d_Y_drop_14 : decode prog_11_method_12_code 14 = .ok (.ifCond .ne 5, 3) := by decide +kernel
theorem d_Y_drop_17 : decode prog_11_method_12_code 17 = .ok (.iconst 0, 1) := by decide +kernel
theorem d_Y_drop_18 : decode prog_11_method_12_code 18 = .ok (.ireturn, 1) := by decide +kernel
theorem d_Y_drop_19 : decode prog_11_method_12_code 19 = .ok (.aload_n 0, 1) := by decide +kernel
theorem d_Y_drop_20 : decode prog_11_method_12_code 20 = .ok (.getfield 7, 3) := by decide +kernel
theorem d_Y_drop_23 : decode prog_11_method_12_code 23 = .ok (.iload_n 1, 1) := by decide +kernel
theorem d_Y_drop_24 : decode prog_11_method_12_code 24 = .ok (.iconst 0, 1) := by decide +kernel
theorem d_Y_drop_25 : decode prog_11_method_12_code 25 = .ok (.bastore, 1) := by decide +kernel
theorem d_Y_drop_26 : decode prog_11_method_12_code 26 = .ok (.iconst 1, 1) := by decide +kernel
theorem d_Y_drop_27 : decode prog_11_method_12_code 27 = .ok (.ireturn, 1) := by decide +kernel
theorem d_Y_field_0 : decode prog_11_method_13_code 0 = .ok (.aload_n 0, 1) := by decide +kernel
theorem d_Y_field_1 : decode prog_11_method_13_code 1 = .ok (.aload_n 0, 1) := by decide +kernel
theorem d_Y_field_2 : decode prog_11_method_13_code 2 = .ok (.getfield 96, 3) := by decide +kernel
theorem d_Y_field_5 : decode prog_11_method_13_code 5 = .ok (.invokevirtual 124, 3) := by decide +kernel
theorem d_Y_field_8 : decode prog_11_method_13_code 8 = .ok (.istore 4, 2) := by decide +kernel
theorem d_Y_field_10 : decode prog_11_method_13_code 10 = .ok (.aload_n 0, 1) := by decide +kernel
theorem d_Y_field_11 : decode prog_11_method_13_code 11 = .ok (.iload_n 1, 1) := by decide +kernel
theorem d_Y_field_12 : decode prog_11_method_13_code 12 = .ok (.invokevirtual 92, 3) := by decide +kernel
theorem d_Y_field_15 : decode prog_11_method_13_code 15 = .ok (.iload 4, 2) := by decide +kernel
theorem d_Y_field_17 : decode prog_11_method_13_code 17 = .ok (.if_icmp .gt 14, 3) := by decide +kernel
theorem d_Y_field_20 : decode prog_11_method_13_code 20 = .ok (.aload_n 0, 1) := by decide +kernel
theorem d_Y_field_21 : decode prog_11_method_13_code 21 = .ok (.iload 4, 2) := by decide +kernel
theorem d_Y_field_23 : decode prog_11_method_13_code 23 = .ok (.iload_n 1, 1) := by decide +kernel
theorem d_Y_field_24 : decode prog_11_method_13_code 24 = .ok (.invokevirtual 127, 3) := by decide +kernel
theorem d_Y_field_27 : decode prog_11_method_13_code 27 = .ok (.iconst 2, 1) := by decide +kernel
theorem d_Y_field_28 : decode prog_11_method_13_code 28 = .ok (.if_icmp .ge 7, 3) := by decide +kernel
theorem d_Y_field_31 : decode prog_11_method_13_code 31 = .ok (.iconst 1, 1) := by decide +kernel
theorem d_Y_field_32 : decode prog_11_method_13_code 32 = .ok (.goto 4, 3) := by decide +kernel
theorem d_Y_field_35 : decode prog_11_method_13_code 35 = .ok (.iconst 0, 1) := by decide +kernel
theorem d_Y_field_36 : decode prog_11_method_13_code 36 = .ok (.istore 5, 2) := by decide +kernel
theorem d_Y_field_38 : decode prog_11_method_13_code 38 = .ok (.iconst (-1), 1) := by decide +kernel
theorem d_Y_field_39 : decode prog_11_method_13_code 39 = .ok (.istore 6, 2) := by decide +kernel
theorem d_Y_field_41 : decode prog_11_method_13_code 41 = .ok (.aload_n 0, 1) := by decide +kernel
theorem d_Y_field_42 : decode prog_11_method_13_code 42 = .ok (.invokevirtual 131, 3) := by decide +kernel
theorem d_Y_field_45 : decode prog_11_method_13_code 45 = .ok (.istore 7, 2) := by decide +kernel
theorem d_Y_field_47 : decode prog_11_method_13_code 47 = .ok (.iload 7, 2) := by decide +kernel
theorem d_Y_field_49 : decode prog_11_method_13_code 49 = .ok (.aload_n 0, 1) := by decide +kernel
theorem d_Y_field_50 : decode prog_11_method_13_code 50 = .ok (.getfield 107, 3) := by decide +kernel
theorem d_Y_field_53 : decode prog_11_method_13_code 53 = .ok (.if_icmp .ge 40, 3) := by decide +kernel
theorem d_Y_field_56 : decode prog_11_method_13_code 56 = .ok (.aload_n 0, 1) := by decide +kernel
theorem d_Y_field_57 : decode prog_11_method_13_code 57 = .ok (.getfield 80, 3) := by decide +kernel
theorem d_Y_field_60 : decode prog_11_method_13_code 60 = .ok (.iload 7, 2) := by decide +kernel
theorem d_Y_field_62 : decode prog_11_method_13_code 62 = .ok (.iaload, 1) := by decide +kernel
theorem d_Y_field_63 : decode prog_11_method_13_code 63 = .ok (.iload_n 2, 1) := by decide +kernel
theorem d_Y_field_64 : decode prog_11_method_13_code 64 = .ok (.if_icmp .ne 19, 3) := by decide +kernel
theorem d_Y_field_67 : decode prog_11_method_13_code 67 = .ok (.aload_n 0, 1) := by decide +kernel
theorem d_Y_field_68 : decode prog_11_method_13_code 68 = .ok (.getfield 83, 3) := by decide +kernel
theorem d_Y_field_71 : decode prog_11_method_13_code 71 = .ok (.iload 7, 2) := by decide +kernel
theorem d_Y_field_73 : decode prog_11_method_13_code 73 = .ok (.iaload, 1) := by decide +kernel
theorem d_Y_field_74 : decode prog_11_method_13_code 74 = .ok (.iload_n 3, 1) := by decide +kernel
theorem d_Y_field_75 : decode prog_11_method_13_code 75 = .ok (.if_icmp .ne 8, 3) := by decide +kernel
theorem d_Y_field_78 : decode prog_11_method_13_code 78 = .ok (.iload 7, 2) := by decide +kernel
theorem d_Y_field_80 : decode prog_11_method_13_code 80 = .ok (.goto 5, 3) := by decide +kernel
theorem d_Y_field_83 : decode prog_11_method_13_code 83 = .ok (.iload 6, 2) := by decide +kernel
theorem d_Y_field_85 : decode prog_11_method_13_code 85 = .ok (.istore 6, 2) := by decide +kernel
theorem d_Y_field_87 : decode prog_11_method_13_code 87 = .ok (.iinc 7 1, 3) := by decide +kernel
theorem d_Y_field_90 : decode prog_11_method_13_code 90 = .ok (.goto (-43), 3) := by decide +kernel
theorem d_Y_field_93 : decode prog_11_method_13_code 93 = .ok (.aload_n 0, 1) := by decide +kernel
theorem d_Y_field_94 : decode prog_11_method_13_code 94 = .ok (.invokevirtual 131, 3) := by decide +kernel
theorem d_Y_field_97 : decode prog_11_method_13_code 97 = .ok (.istore 7, 2) := by decide +kernel
theorem d_Y_field_99 : decode prog_11_method_13_code 99 = .ok (.aload_n 0, 1) := by decide +kernel
theorem d_Y_field_100 : decode prog_11_method_13_code 100 = .ok (.getfield 107, 3) := by decide +kernel
theorem d_Y_field_103 : decode prog_11_method_13_code 103 = .ok (.iconst 5, 1) := by decide +kernel
theorem d_Y_field_104 : decode prog_11_method_13_code 104 = .ok (.if_icmp .lt 20, 3) := by decide +kernel
theorem d_Y_field_107 : decode prog_11_method_13_code 107 = .ok (.iload 7, 2) := by decide +kernel
theorem d_Y_field_109 : decode prog_11_method_13_code 109 = .ok (.iload 4, 2) := by decide +kernel
theorem d_Y_field_111 : decode prog_11_method_13_code 111 = .ok (.if_icmp .ge 17, 3) := by decide +kernel
theorem d_Y_field_114 : decode prog_11_method_13_code 114 = .ok (.aload_n 0, 1) := by decide +kernel
theorem d_Y_field_115 : decode prog_11_method_13_code 115 = .ok (.iload 7, 2) := by decide +kernel
theorem d_Y_field_117 : decode prog_11_method_13_code 117 = .ok (.iload_n 1, 1) := by decide +kernel
theorem d_Y_field_118 : decode prog_11_method_13_code 118 = .ok (.invokevirtual 135, 3) := by decide +kernel
theorem d_Y_field_121 : decode prog_11_method_13_code 121 = .ok (.ifCond .ne 7, 3) := by decide +kernel
theorem d_Y_field_124 : decode prog_11_method_13_code 124 = .ok (.iconst 1, 1) := by decide +kernel
theorem d_Y_field_125 : decode prog_11_method_13_code 125 = .ok (.goto 4, 3) := by decide +kernel
theorem d_Y_field_128 : decode prog_11_method_13_code 128 = .ok (.iconst 0, 1) := by decide +kernel
theorem d_Y_field_129 : decode prog_11_method_13_code 129 = .ok (.istore 8, 2) := by decide +kernel
theorem d_Y_field_131 : decode prog_11_method_13_code 131 = .ok (.iload 6, 2) := by decide +kernel
theorem d_Y_field_133 : decode prog_11_method_13_code 133 = .ok (.ifCond .lt 40, 3) := by decide +kernel
theorem d_Y_field_136 : decode prog_11_method_13_code 136 = .ok (.iload 6, 2) := by decide +kernel
theorem d_Y_field_138 : decode prog_11_method_13_code 138 = .ok (.iload 4, 2) := by decide +kernel
theorem d_Y_field_140 : decode prog_11_method_13_code 140 = .ok (.if_icmp .lt 8, 3) := by decide +kernel
theorem d_Y_field_143 : decode prog_11_method_13_code 143 = .ok (.iload 5, 2) := by decide +kernel
theorem d_Y_field_145 : decode prog_11_method_13_code 145 = .ok (.ifCond .eq 28, 3) := by decide +kernel
theorem d_Y_field_148 : decode prog_11_method_13_code 148 = .ok (.aload_n 0, 1) := by decide +kernel
theorem d_Y_field_149 : decode prog_11_method_13_code 149 = .ok (.getfield 62, 3) := by decide +kernel
theorem d_Y_field_152 : decode prog_11_method_13_code 152 = .ok (.iconst 3, 1) := by decide +kernel
theorem d_Y_field_153 : decode prog_11_method_13_code 153 = .ok (.iload_n 1, 1) := by decide +kernel
theorem d_Y_field_154 : decode prog_11_method_13_code 154 = .ok (.imul, 1) := by decide +kernel
theorem d_Y_field_155 : decode prog_11_method_13_code 155 = .ok (.iload_n 2, 1) := by decide +kernel
theorem d_Y_field_156 : decode prog_11_method_13_code 156 = .ok (.iadd, 1) := by decide +kernel
theorem d_Y_field_157 : decode prog_11_method_13_code 157 = .ok (.iload 6, 2) := by decide +kernel
theorem d_Y_field_159 : decode prog_11_method_13_code 159 = .ok (.iastore, 1) := by decide +kernel
theorem d_Y_field_160 : decode prog_11_method_13_code 160 = .ok (.aload_n 0, 1) := by decide +kernel
theorem d_Y_field_161 : decode prog_11_method_13_code 161 = .ok (.dup, 1) := by decide +kernel
theorem d_Y_field_162 : decode prog_11_method_13_code 162 = .ok (.getfield 138, 3) := by decide +kernel
theorem d_Y_field_165 : decode prog_11_method_13_code 165 = .ok (.iconst 1, 1) := by decide +kernel
theorem d_Y_field_166 : decode prog_11_method_13_code 166 = .ok (.iadd, 1) := by decide +kernel
theorem d_Y_field_167 : decode prog_11_method_13_code 167 = .ok (.putfield 138, 3) := by decide +kernel
theorem d_Y_field_170 : decode prog_11_method_13_code 170 = .ok (.goto 85, 3) := by decide +kernel
theorem d_Y_field_173 : decode prog_11_method_13_code 173 = .ok (.iload 6, 2) := by decide +kernel
theorem d_Y_field_175 : decode prog_11_method_13_code 175 = .ok (.ifCond .ge 70, 3) := by decide +kernel
theorem d_Y_field_178 : decode prog_11_method_13_code 178 = .ok (.iload 5, 2) := by decide +kernel
theorem d_Y_field_180 : decode prog_11_method_13_code 180 = .ok (.ifCond .eq 65, 3) := by decide +kernel
theorem d_Y_field_183 : decode prog_11_method_13_code 183 = .ok (.iload 8, 2) := by decide +kernel
theorem d_Y_field_185 : decode prog_11_method_13_code 185 = .ok (.ifCond .eq 60, 3) := by decide +kernel
theorem d_Y_field_188 : decode prog_11_method_13_code 188 = .ok (.aload_n 0, 1) := by decide +kernel
theorem d_Y_field_189 : decode prog_11_method_13_code 189 = .ok (.getfield 80, 3) := by decide +kernel
theorem d_Y_field_192 : decode prog_11_method_13_code 192 = .ok (.aload_n 0, 1) := by decide +kernel
theorem d_Y_field_193 : decode prog_11_method_13_code 193 = .ok (.getfield 107, 3) := by decide +kernel
theorem d_Y_field_196 : decode prog_11_method_13_code 196 = .ok (.iload_n 2, 1) := by decide +kernel
theorem d_Y_field_197 : decode prog_11_method_13_code 197 = .ok (.iastore, 1) := by decide +kernel
theorem d_Y_field_198 : decode prog_11_method_13_code 198 = .ok (.aload_n 0, 1) := by decide +kernel
theorem d_Y_field_199 : decode prog_11_method_13_code 199 = .ok (.getfield 83, 3) := by decide +kernel
theorem d_Y_field_202 : decode prog_11_method_13_code 202 = .ok (.aload_n 0, 1) := by decide +kernel
theorem d_Y_field_203 : decode prog_11_method_13_code 203 = .ok (.getfield 107, 3) := by decide +kernel
theorem d_Y_field_206 : decode prog_11_method_13_code 206 = .ok (.iload_n 3, 1) := by decide +kernel
theorem d_Y_field_207 : decode prog_11_method_13_code 207 = .ok (.iastore, 1) := by decide +kernel
theorem d_Y_field_208 : decode prog_11_method_13_code 208 = .ok (.aload_n 0, 1) := by decide +kernel
theorem d_Y_field_209 : decode prog_11_method_13_code 209 = .ok (.getfield 62, 3) := by decide +kernel
theorem d_Y_field_212 : decode prog_11_method_13_code 212 = .ok (.iconst 3, 1) := by decide +kernel
theorem d_Y_field_213 : decode prog_11_method_13_code 213 = .ok (.iload_n 1, 1) := by decide +kernel
theorem d_Y_field_214 : decode prog_11_method_13_code 214 = .ok (.imul, 1) := by decide +kernel
theorem d_Y_field_215 : decode prog_11_method_13_code 215 = .ok (.iload_n 2, 1) := by decide +kernel
theorem d_Y_field_216 : decode prog_11_method_13_code 216 = .ok (.iadd, 1) := by decide +kernel
theorem d_Y_field_217 : decode prog_11_method_13_code 217 = .ok (.aload_n 0, 1) := by decide +kernel
theorem d_Y_field_218 : decode prog_11_method_13_code 218 = .ok (.getfield 107, 3) := by decide +kernel
theorem d_Y_field_221 : decode prog_11_method_13_code 221 = .ok (.iastore, 1) := by decide +kernel
theorem d_Y_field_222 : decode prog_11_method_13_code 222 = .ok (.aload_n 0, 1) := by decide +kernel
theorem d_Y_field_223 : decode prog_11_method_13_code 223 = .ok (.dup, 1) := by decide +kernel
theorem d_Y_field_224 : decode prog_11_method_13_code 224 = .ok (.getfield 107, 3) := by decide +kernel
theorem d_Y_field_227 : decode prog_11_method_13_code 227 = .ok (.iconst 1, 1) := by decide +kernel
theorem d_Y_field_228 : decode prog_11_method_13_code 228 = .ok (.iadd, 1) := by decide +kernel
theorem d_Y_field_229 : decode prog_11_method_13_code 229 = .ok (.putfield 107, 3) := by decide +kernel
theorem d_Y_field_232 : decode prog_11_method_13_code 232 = .ok (.aload_n 0, 1) := by decide +kernel
theorem d_Y_field_233 : decode prog_11_method_13_code 233 = .ok (.dup, 1) := by decide +kernel
theorem d_Y_field_234 : decode prog_11_method_13_code 234 = .ok (.getfield 138, 3) := by decide +kernel
theorem d_Y_field_237 : decode prog_11_method_13_code 237 = .ok (.iconst 1, 1) := by decide +kernel
theorem d_Y_field_238 : decode prog_11_method_13_code 238 = .ok (.iadd, 1) := by decide +kernel
theorem d_Y_field_239 : decode prog_11_method_13_code 239 = .ok (.putfield 138, 3) := by decide +kernel
theorem d_Y_field_242 : decode prog_11_method_13_code 242 = .ok (.goto 13, 3) := by decide +kernel
theorem d_Y_field_245 : decode prog_11_method_13_code 245 = .ok (.aload_n 0, 1) := by decide +kernel
theorem d_Y_field_246 : decode prog_11_method_13_code 246 = .ok (.dup, 1) := by decide +kernel
theorem d_Y_field_247 : decode prog_11_method_13_code 247 = .ok (.getfield 141, 3) := by decide +kernel
theorem d_Y_field_250 : decode prog_11_method_13_code 250 = .ok (.iconst 1, 1) := by decide +kernel
theorem d_Y_field_251 : decode prog_11_method_13_code 251 = .ok (.iadd, 1) := by decide +kernel
theorem d_Y_field_252 : decode prog_11_method_13_code 252 = .ok (.putfield 141, 3) := by decide +kernel
theorem d_Y_field_255 : decode prog_11_method_13_code 255 = .ok (.return_, 1) := by decide +kernel
theorem d_Y_decide_0 : decode prog_11_method_14_code 0 = .ok (.aload_n 0, 1) := by decide +kernel
theorem d_Y_decide_1 : decode prog_11_method_14_code 1 = .ok (.getfield 26, 3) := by decide +kernel
theorem d_Y_decide_4 : decode prog_11_method_14_code 4 = .ok (.iload_n 1, 1) := by decide +kernel
theorem d_Y_decide_5 : decode prog_11_method_14_code 5 = .ok (.iaload, 1) := by decide +kernel
theorem d_Y_decide_6 : decode prog_11_method_14_code 6 = .ok (.istore_n 2, 1) := by decide +kernel
theorem d_Y_decide_7 : decode prog_11_method_14_code 7 = .ok (.aload_n 0, 1) := by decide +kernel
theorem d_Y_decide_8 : decode prog_11_method_14_code 8 = .ok (.getfield 23, 3) := by decide +kernel
theorem d_Y_decide_11 : decode prog_11_method_14_code 11 = .ok (.iload_n 1, 1) := by decide +kernel
theorem d_Y_decide_12 : decode prog_11_method_14_code 12 = .ok (.baload, 1) := by decide +kernel
theorem d_Y_decide_13 : decode prog_11_method_14_code 13 = .ok (.ifCond .ne 43, 3) := by decide +kernel
theorem d_Y_decide_16 : decode prog_11_method_14_code 16 = .ok (.aload_n 0, 1) := by decide +kernel
theorem d_Y_decide_17 : decode prog_11_method_14_code 17 = .ok (.getfield 7, 3) := by decide +kernel
theorem d_Y_decide_20 : decode prog_11_method_14_code 20 = .ok (.iload_n 2, 1) := by decide +kernel
theorem d_Y_decide_21 : decode prog_11_method_14_code 21 = .ok (.baload, 1) := by decide +kernel
theorem d_Y_decide_22 : decode prog_11_method_14_code 22 = .ok (.ifCond .ne 9, 3) := by decide +kernel
theorem d_Y_decide_25 : decode prog_11_method_14_code 25 = .ok (.sipush 404, 3) := by decide +kernel
theorem d_Y_decide_28 : decode prog_11_method_14_code 28 = .ok (.goto 27, 3) := by decide +kernel
theorem d_Y_decide_31 : decode prog_11_method_14_code 31 = .ok (.aload_n 0, 1) := by decide +kernel
theorem d_Y_decide_32 : decode prog_11_method_14_code 32 = .ok (.getfield 38, 3) := by decide +kernel
theorem d_Y_decide_35 : decode prog_11_method_14_code 35 = .ok (.iload_n 1, 1) := by decide +kernel
theorem d_Y_decide_36 : decode prog_11_method_14_code 36 = .ok (.iaload, 1) := by decide +kernel
theorem d_Y_decide_37 : decode prog_11_method_14_code 37 = .ok (.aload_n 0, 1) := by decide +kernel
theorem d_Y_decide_38 : decode prog_11_method_14_code 38 = .ok (.getfield 20, 3) := by decide +kernel
theorem d_Y_decide_41 : decode prog_11_method_14_code 41 = .ok (.iload_n 2, 1) := by decide +kernel
theorem d_Y_decide_42 : decode prog_11_method_14_code 42 = .ok (.iaload, 1) := by decide +kernel
theorem d_Y_decide_43 : decode prog_11_method_14_code 43 = .ok (.if_icmp .ne 9, 3) := by decide +kernel
theorem d_Y_decide_46 : decode prog_11_method_14_code 46 = .ok (.sipush 304, 3) := by decide +kernel
theorem d_Y_decide_49 : decode prog_11_method_14_code 49 = .ok (.goto 6, 3) := by decide +kernel
theorem d_Y_decide_52 : decode prog_11_method_14_code 52 = .ok (.sipush 200, 3) := by decide +kernel
theorem d_Y_decide_55 : decode prog_11_method_14_code 55 = .ok (.ireturn, 1) := by decide +kernel
theorem d_Y_decide_56 : decode prog_11_method_14_code 56 = .ok (.aload_n 0, 1) := by decide +kernel
theorem d_Y_decide_57 : decode prog_11_method_14_code 57 = .ok (.getfield 38, 3) := by decide +kernel
theorem d_Y_decide_60 : decode prog_11_method_14_code 60 = .ok (.iload_n 1, 1) := by decide +kernel
theorem d_Y_decide_61 : decode prog_11_method_14_code 61 = .ok (.iaload, 1) := by decide +kernel
theorem d_Y_decide_62 : decode prog_11_method_14_code 62 = .ok (.ifCond .le 31, 3) := by decide +kernel
theorem d_Y_decide_65 : decode prog_11_method_14_code 65 = .ok (.aload_n 0, 1) := by decide +kernel
theorem d_Y_decide_66 : decode prog_11_method_14_code 66 = .ok (.getfield 7, 3) := by decide +kernel
theorem d_Y_decide_69 : decode prog_11_method_14_code 69 = .ok (.iload_n 2, 1) := by decide +kernel
theorem d_Y_decide_70 : decode prog_11_method_14_code 70 = .ok (.baload, 1) := by decide +kernel
theorem d_Y_decide_71 : decode prog_11_method_14_code 71 = .ok (.ifCond .eq 18, 3) := by decide +kernel
theorem d_Y_decide_74 : decode prog_11_method_14_code 74 = .ok (.aload_n 0, 1) := by decide +kernel
theorem d_Y_decide_75 : decode prog_11_method_14_code 75 = .ok (.getfield 20, 3) := by decide +kernel
theorem d_Y_decide_78 : decode prog_11_method_14_code 78 = .ok (.iload_n 2, 1) := by decide +kernel
theorem d_Y_decide_79 : decode prog_11_method_14_code 79 = .ok (.iaload, 1) := by decide +kernel
theorem d_Y_decide_80 : decode prog_11_method_14_code 80 = .ok (.aload_n 0, 1) := by decide +kernel
theorem d_Y_decide_81 : decode prog_11_method_14_code 81 = .ok (.getfield 38, 3) := by decide +kernel
theorem d_Y_decide_84 : decode prog_11_method_14_code 84 = .ok (.iload_n 1, 1) := by decide +kernel
theorem d_Y_decide_85 : decode prog_11_method_14_code 85 = .ok (.iaload, 1) := by decide +kernel
theorem d_Y_decide_86 : decode prog_11_method_14_code 86 = .ok (.if_icmp .eq 7, 3) := by decide +kernel
theorem d_Y_decide_89 : decode prog_11_method_14_code 89 = .ok (.sipush 412, 3) := by decide +kernel
theorem d_Y_decide_92 : decode prog_11_method_14_code 92 = .ok (.ireturn, 1) := by decide +kernel
theorem d_Y_decide_93 : decode prog_11_method_14_code 93 = .ok (.aload_n 0, 1) := by decide +kernel
theorem d_Y_decide_94 : decode prog_11_method_14_code 94 = .ok (.iload_n 2, 1) := by decide +kernel
theorem d_Y_decide_95 : decode prog_11_method_14_code 95 = .ok (.aload_n 0, 1) := by decide +kernel
theorem d_Y_decide_96 : decode prog_11_method_14_code 96 = .ok (.getfield 32, 3) := by decide +kernel
theorem d_Y_decide_99 : decode prog_11_method_14_code 99 = .ok (.iload_n 1, 1) := by decide +kernel
theorem d_Y_decide_100 : decode prog_11_method_14_code 100 = .ok (.iaload, 1) := by decide +kernel
theorem d_Y_decide_101 : decode prog_11_method_14_code 101 = .ok (.aload_n 0, 1) := by decide +kernel
theorem d_Y_decide_102 : decode prog_11_method_14_code 102 = .ok (.getfield 35, 3) := by decide +kernel
theorem d_Y_decide_105 : decode prog_11_method_14_code 105 = .ok (.iload_n 1, 1) := by decide +kernel
theorem d_Y_decide_106 : decode prog_11_method_14_code 106 = .ok (.iaload, 1) := by decide +kernel
theorem d_Y_decide_107 : decode prog_11_method_14_code 107 = .ok (.invokevirtual 120, 3) := by decide +kernel
theorem d_Y_decide_110 : decode prog_11_method_14_code 110 = .ok (.pop, 1) := by decide +kernel
theorem d_Y_decide_111 : decode prog_11_method_14_code 111 = .ok (.sipush 200, 3) := by decide +kernel
theorem d_Y_decide_114 : decode prog_11_method_14_code 114 = .ok (.ireturn, 1) := by decide +kernel
theorem d_Y_arrive_0 : decode prog_11_method_15_code 0 = .ok (.iload_n 1, 1) := by decide +kernel
theorem d_Y_arrive_1 : decode prog_11_method_15_code 1 = .ok (.aload_n 0, 1) := by decide +kernel
theorem d_Y_arrive_2 : decode prog_11_method_15_code 2 = .ok (.getfield 100, 3) := by decide +kernel
theorem d_Y_arrive_5 : decode prog_11_method_15_code 5 = .ok (.iconst 1, 1) := by decide +kernel
theorem d_Y_arrive_6 : decode prog_11_method_15_code 6 = .ok (.isub, 1) := by decide +kernel
theorem d_Y_arrive_7 : decode prog_11_method_15_code 7 = .ok (.invokestatic 116, 3) := by decide +kernel
theorem d_Y_arrive_10 : decode prog_11_method_15_code 10 = .ok (.ifCond .eq 13, 3) := by decide +kernel
theorem d_Y_arrive_13 : decode prog_11_method_15_code 13 = .ok (.aload_n 0, 1) := by decide +kernel
theorem d_Y_arrive_14 : decode prog_11_method_15_code 14 = .ok (.getfield 47, 3) := by decide +kernel
theorem d_Y_arrive_17 : decode prog_11_method_15_code 17 = .ok (.iload_n 1, 1) := by decide +kernel
theorem d_Y_arrive_18 : decode prog_11_method_15_code 18 = .ok (.iaload, 1) := by decide +kernel
theorem d_Y_arrive_19 : decode prog_11_method_15_code 19 = .ok (.iconst 1, 1) := by decide +kernel
theorem d_Y_arrive_20 : decode prog_11_method_15_code 20 = .ok (.if_icmp .eq 5, 3) := by decide +kernel
theorem d_Y_arrive_23 : decode prog_11_method_15_code 23 = .ok (.iconst (-1), 1) := by decide +kernel
theorem d_Y_arrive_24 : decode prog_11_method_15_code 24 = .ok (.ireturn, 1) := by decide +kernel
theorem d_Y_arrive_25 : decode prog_11_method_15_code 25 = .ok (.aload_n 0, 1) := by decide +kernel
theorem d_Y_arrive_26 : decode prog_11_method_15_code 26 = .ok (.getfield 47, 3) := by decide +kernel
theorem d_Y_arrive_29 : decode prog_11_method_15_code 29 = .ok (.iload_n 1, 1) := by decide +kernel
theorem d_Y_arrive_30 : decode prog_11_method_15_code 30 = .ok (.iconst 0, 1) := by decide +kernel
theorem d_Y_arrive_31 : decode prog_11_method_15_code 31 = .ok (.iastore, 1) := by decide +kernel
theorem d_Y_arrive_32 : decode prog_11_method_15_code 32 = .ok (.aload_n 0, 1) := by decide +kernel
theorem d_Y_arrive_33 : decode prog_11_method_15_code 33 = .ok (.getfield 144, 3) := by decide +kernel
theorem d_Y_arrive_36 : decode prog_11_method_15_code 36 = .ok (.ifCond .eq 13, 3) := by decide +kernel
theorem d_Y_arrive_39 : decode prog_11_method_15_code 39 = .ok (.iload_n 1, 1) := by decide +kernel
theorem d_Y_arrive_40 : decode prog_11_method_15_code 40 = .ok (.aload_n 0, 1) := by decide +kernel
theorem d_Y_arrive_41 : decode prog_11_method_15_code 41 = .ok (.getfield 148, 3) := by decide +kernel
theorem d_Y_arrive_44 : decode prog_11_method_15_code 44 = .ok (.if_icmp .lt 5, 3) := by decide +kernel
theorem d_Y_arrive_47 : decode prog_11_method_15_code 47 = .ok (.iconst 0, 1) := by decide +kernel
theorem d_Y_arrive_48 : decode prog_11_method_15_code 48 = .ok (.ireturn, 1) := by decide +kernel
theorem d_Y_arrive_49 : decode prog_11_method_15_code 49 = .ok (.aload_n 0, 1) := by decide +kernel
theorem d_Y_arrive_50 : decode prog_11_method_15_code 50 = .ok (.getfield 26, 3) := by decide +kernel
theorem d_Y_arrive_53 : decode prog_11_method_15_code 53 = .ok (.iload_n 1, 1) := by decide +kernel
theorem d_Y_arrive_54 : decode prog_11_method_15_code 54 = .ok (.iaload, 1) := by decide +kernel
theorem d_Y_arrive_55 : decode prog_11_method_15_code 55 = .ok (.istore_n 2, 1) := by decide +kernel
theorem d_Y_arrive_56 : decode prog_11_method_15_code 56 = .ok (.aload_n 0, 1) := by decide +kernel
theorem d_Y_arrive_57 : decode prog_11_method_15_code 57 = .ok (.iload_n 1, 1) := by decide +kernel
theorem d_Y_arrive_58 : decode prog_11_method_15_code 58 = .ok (.invokevirtual 151, 3) := by decide +kernel
theorem d_Y_arrive_61 : decode prog_11_method_15_code 61 = .ok (.istore_n 3, 1) := by decide +kernel
theorem d_Y_arrive_62 : decode prog_11_method_15_code 62 = .ok (.aload_n 0, 1) := by decide +kernel
theorem d_Y_arrive_63 : decode prog_11_method_15_code 63 = .ok (.getfield 53, 3) := by decide +kernel
theorem d_Y_arrive_66 : decode prog_11_method_15_code 66 = .ok (.iload_n 1, 1) := by decide +kernel
theorem d_Y_arrive_67 : decode prog_11_method_15_code 67 = .ok (.aload_n 0, 1) := by decide +kernel
theorem d_Y_arrive_68 : decode prog_11_method_15_code 68 = .ok (.getfield 20, 3) := by decide +kernel
theorem d_Y_arrive_71 : decode prog_11_method_15_code 71 = .ok (.iload_n 2, 1) := by decide +kernel
theorem d_Y_arrive_72 : decode prog_11_method_15_code 72 = .ok (.iaload, 1) := by decide +kernel
theorem d_Y_arrive_73 : decode prog_11_method_15_code 73 = .ok (.iastore, 1) := by decide +kernel
theorem d_Y_arrive_74 : decode prog_11_method_15_code 74 = .ok (.aload_n 0, 1) := by decide +kernel
theorem d_Y_arrive_75 : decode prog_11_method_15_code 75 = .ok (.getfield 56, 3) := by decide +kernel
theorem d_Y_arrive_78 : decode prog_11_method_15_code 78 = .ok (.iload_n 1, 1) := by decide +kernel
theorem d_Y_arrive_79 : decode prog_11_method_15_code 79 = .ok (.aload_n 0, 1) := by decide +kernel
theorem d_Y_arrive_80 : decode prog_11_method_15_code 80 = .ok (.getfield 17, 3) := by decide +kernel
theorem d_Y_arrive_83 : decode prog_11_method_15_code 83 = .ok (.iload_n 2, 1) := by decide +kernel
theorem d_Y_arrive_84 : decode prog_11_method_15_code 84 = .ok (.iaload, 1) := by decide +kernel
theorem d_Y_arrive_85 : decode prog_11_method_15_code 85 = .ok (.iastore, 1) := by decide +kernel
theorem d_Y_arrive_86 : decode prog_11_method_15_code 86 = .ok (.aload_n 0, 1) := by decide +kernel
theorem d_Y_arrive_87 : decode prog_11_method_15_code 87 = .ok (.getfield 59, 3) := by decide +kernel
theorem d_Y_arrive_90 : decode prog_11_method_15_code 90 = .ok (.iload_n 1, 1) := by decide +kernel
theorem d_Y_arrive_91 : decode prog_11_method_15_code 91 = .ok (.aload_n 0, 1) := by decide +kernel
theorem d_Y_arrive_92 : decode prog_11_method_15_code 92 = .ok (.getfield 13, 3) := by decide +kernel
theorem d_Y_arrive_95 : decode prog_11_method_15_code 95 = .ok (.iload_n 2, 1) := by decide +kernel
theorem d_Y_arrive_96 : decode prog_11_method_15_code 96 = .ok (.iaload, 1) := by decide +kernel
theorem d_Y_arrive_97 : decode prog_11_method_15_code 97 = .ok (.iastore, 1) := by decide +kernel
theorem d_Y_arrive_98 : decode prog_11_method_15_code 98 = .ok (.iload_n 3, 1) := by decide +kernel
theorem d_Y_arrive_99 : decode prog_11_method_15_code 99 = .ok (.sipush 400, 3) := by decide +kernel
theorem d_Y_arrive_102 : decode prog_11_method_15_code 102 = .ok (.if_icmp .ge 15, 3) := by decide +kernel
theorem d_Y_arrive_105 : decode prog_11_method_15_code 105 = .ok (.aload_n 0, 1) := by decide +kernel
theorem d_Y_arrive_106 : decode prog_11_method_15_code 106 = .ok (.iload_n 1, 1) := by decide +kernel
theorem d_Y_arrive_107 : decode prog_11_method_15_code 107 = .ok (.iconst 0, 1) := by decide +kernel
theorem d_Y_arrive_108 : decode prog_11_method_15_code 108 = .ok (.aload_n 0, 1) := by decide +kernel
theorem d_Y_arrive_109 : decode prog_11_method_15_code 109 = .ok (.getfield 20, 3) := by decide +kernel
theorem d_Y_arrive_112 : decode prog_11_method_15_code 112 = .ok (.iload_n 2, 1) := by decide +kernel
theorem d_Y_arrive_113 : decode prog_11_method_15_code 113 = .ok (.iaload, 1) := by decide +kernel
theorem d_Y_arrive_114 : decode prog_11_method_15_code 114 = .ok (.invokevirtual 154, 3) := by decide +kernel
theorem d_Y_arrive_117 : decode prog_11_method_15_code 117 = .ok (.iload_n 3, 1) := by decide +kernel
theorem d_Y_arrive_118 : decode prog_11_method_15_code 118 = .ok (.sipush 400, 3) := by decide +kernel
theorem d_Y_arrive_121 : decode prog_11_method_15_code 121 = .ok (.if_icmp .ge 24, 3) := by decide +kernel
theorem d_Y_arrive_124 : decode prog_11_method_15_code 124 = .ok (.aload_n 0, 1) := by decide +kernel
theorem d_Y_arrive_125 : decode prog_11_method_15_code 125 = .ok (.getfield 23, 3) := by decide +kernel
theorem d_Y_arrive_128 : decode prog_11_method_15_code 128 = .ok (.iload_n 1, 1) := by decide +kernel
theorem d_Y_arrive_129 : decode prog_11_method_15_code 129 = .ok (.baload, 1) := by decide +kernel
theorem d_Y_arrive_130 : decode prog_11_method_15_code 130 = .ok (.ifCond .ne 15, 3) := by decide +kernel
theorem d_Y_arrive_133 : decode prog_11_method_15_code 133 = .ok (.aload_n 0, 1) := by decide +kernel
theorem d_Y_arrive_134 : decode prog_11_method_15_code 134 = .ok (.iload_n 1, 1) := by decide +kernel
theorem d_Y_arrive_135 : decode prog_11_method_15_code 135 = .ok (.iconst 1, 1) := by decide +kernel
theorem d_Y_arrive_136 : decode prog_11_method_15_code 136 = .ok (.aload_n 0, 1) := by decide +kernel
theorem d_Y_arrive_137 : decode prog_11_method_15_code 137 = .ok (.getfield 17, 3) := by decide +kernel
theorem d_Y_arrive_140 : decode prog_11_method_15_code 140 = .ok (.iload_n 2, 1) := by decide +kernel
theorem d_Y_arrive_141 : decode prog_11_method_15_code 141 = .ok (.iaload, 1) := by decide +kernel
theorem d_Y_arrive_142 : decode prog_11_method_15_code 142 = .ok (.invokevirtual 154, 3) := by decide +kernel
theorem d_Y_arrive_145 : decode prog_11_method_15_code 145 = .ok (.iload_n 3, 1) := by decide +kernel
theorem d_Y_arrive_146 : decode prog_11_method_15_code 146 = .ok (.sipush 200, 3) := by decide +kernel
theorem d_Y_arrive_149 : decode prog_11_method_15_code 149 = .ok (.if_icmp .ne 24, 3) := by decide +kernel
theorem d_Y_arrive_152 : decode prog_11_method_15_code 152 = .ok (.aload_n 0, 1) := by decide +kernel
theorem d_Y_arrive_153 : decode prog_11_method_15_code 153 = .ok (.getfield 23, 3) := by decide +kernel
theorem d_Y_arrive_156 : decode prog_11_method_15_code 156 = .ok (.iload_n 1, 1) := by decide +kernel
theorem d_Y_arrive_157 : decode prog_11_method_15_code 157 = .ok (.baload, 1) := by decide +kernel
theorem d_Y_arrive_158 : decode prog_11_method_15_code 158 = .ok (.ifCond .ne 15, 3) := by decide +kernel
theorem d_Y_arrive_161 : decode prog_11_method_15_code 161 = .ok (.aload_n 0, 1) := by decide +kernel
theorem d_Y_arrive_162 : decode prog_11_method_15_code 162 = .ok (.iload_n 1, 1) := by decide +kernel
theorem d_Y_arrive_163 : decode prog_11_method_15_code 163 = .ok (.iconst 2, 1) := by decide +kernel
theorem d_Y_arrive_164 : decode prog_11_method_15_code 164 = .ok (.aload_n 0, 1) := by decide +kernel
theorem d_Y_arrive_165 : decode prog_11_method_15_code 165 = .ok (.getfield 13, 3) := by decide +kernel
theorem d_Y_arrive_168 : decode prog_11_method_15_code 168 = .ok (.iload_n 2, 1) := by decide +kernel
theorem d_Y_arrive_169 : decode prog_11_method_15_code 169 = .ok (.iaload, 1) := by decide +kernel
theorem d_Y_arrive_170 : decode prog_11_method_15_code 170 = .ok (.invokevirtual 154, 3) := by decide +kernel
theorem d_Y_arrive_173 : decode prog_11_method_15_code 173 = .ok (.aload_n 0, 1) := by decide +kernel
theorem d_Y_arrive_174 : decode prog_11_method_15_code 174 = .ok (.getfield 50, 3) := by decide +kernel
theorem d_Y_arrive_177 : decode prog_11_method_15_code 177 = .ok (.iload_n 1, 1) := by decide +kernel
theorem d_Y_arrive_178 : decode prog_11_method_15_code 178 = .ok (.iload_n 3, 1) := by decide +kernel
theorem d_Y_arrive_179 : decode prog_11_method_15_code 179 = .ok (.iastore, 1) := by decide +kernel
theorem d_Y_arrive_180 : decode prog_11_method_15_code 180 = .ok (.aload_n 0, 1) := by decide +kernel
theorem d_Y_arrive_181 : decode prog_11_method_15_code 181 = .ok (.getfield 47, 3) := by decide +kernel
theorem d_Y_arrive_184 : decode prog_11_method_15_code 184 = .ok (.iload_n 1, 1) := by decide +kernel
theorem d_Y_arrive_185 : decode prog_11_method_15_code 185 = .ok (.iconst 2, 1) := by decide +kernel
theorem d_Y_arrive_186 : decode prog_11_method_15_code 186 = .ok (.iastore, 1) := by decide +kernel
theorem d_Y_arrive_187 : decode prog_11_method_15_code 187 = .ok (.aload_n 0, 1) := by decide +kernel
theorem d_Y_arrive_188 : decode prog_11_method_15_code 188 = .ok (.iload_n 1, 1) := by decide +kernel
theorem d_Y_arrive_189 : decode prog_11_method_15_code 189 = .ok (.iconst 1, 1) := by decide +kernel
theorem d_Y_arrive_190 : decode prog_11_method_15_code 190 = .ok (.iadd, 1) := by decide +kernel
theorem d_Y_arrive_191 : decode prog_11_method_15_code 191 = .ok (.aload_n 0, 1) := by decide +kernel
theorem d_Y_arrive_192 : decode prog_11_method_15_code 192 = .ok (.getfield 158, 3) := by decide +kernel
theorem d_Y_arrive_195 : decode prog_11_method_15_code 195 = .ok (.if_icmp .le 9, 3) := by decide +kernel
theorem d_Y_arrive_198 : decode prog_11_method_15_code 198 = .ok (.iload_n 1, 1) := by decide +kernel
theorem d_Y_arrive_199 : decode prog_11_method_15_code 199 = .ok (.iconst 1, 1) := by decide +kernel
theorem d_Y_arrive_200 : decode prog_11_method_15_code 200 = .ok (.iadd, 1) := by decide +kernel
theorem d_Y_arrive_201 : decode prog_11_method_15_code 201 = .ok (.goto 7, 3) := by decide +kernel
theorem d_Y_arrive_204 : decode prog_11_method_15_code 204 = .ok (.aload_n 0, 1) := by decide +kernel
theorem d_Y_arrive_205 : decode prog_11_method_15_code 205 = .ok (.getfield 158, 3) := by decide +kernel
theorem d_Y_arrive_208 : decode prog_11_method_15_code 208 = .ok (.putfield 158, 3) := by decide +kernel
theorem d_Y_arrive_211 : decode prog_11_method_15_code 211 = .ok (.iload_n 3, 1) := by decide +kernel
theorem d_Y_arrive_212 : decode prog_11_method_15_code 212 = .ok (.ireturn, 1) := by decide +kernel
theorem d_Y_feedback_0 : decode prog_11_method_16_code 0 = .ok (.aload_n 0, 1) := by decide +kernel
theorem d_Y_feedback_1 : decode prog_11_method_16_code 1 = .ok (.getfield 96, 3) := by decide +kernel
theorem d_Y_feedback_4 : decode prog_11_method_16_code 4 = .ok (.aload_n 0, 1) := by decide +kernel
theorem d_Y_feedback_5 : decode prog_11_method_16_code 5 = .ok (.getfield 110, 3) := by decide +kernel
theorem d_Y_feedback_8 : decode prog_11_method_16_code 8 = .ok (.if_icmp .ne 5, 3) := by decide +kernel
theorem d_Y_feedback_11 : decode prog_11_method_16_code 11 = .ok (.iconst (-1), 1) := by decide +kernel
theorem d_Y_feedback_12 : decode prog_11_method_16_code 12 = .ok (.ireturn, 1) := by decide +kernel
theorem d_Y_feedback_13 : decode prog_11_method_16_code 13 = .ok (.aload_n 0, 1) := by decide +kernel
theorem d_Y_feedback_14 : decode prog_11_method_16_code 14 = .ok (.dup, 1) := by decide +kernel
theorem d_Y_feedback_15 : decode prog_11_method_16_code 15 = .ok (.getfield 96, 3) := by decide +kernel
theorem d_Y_feedback_18 : decode prog_11_method_16_code 18 = .ok (.iconst 1, 1) := by decide +kernel
theorem d_Y_feedback_19 : decode prog_11_method_16_code 19 = .ok (.iadd, 1) := by decide +kernel
theorem d_Y_feedback_20 : decode prog_11_method_16_code 20 = .ok (.putfield 96, 3) := by decide +kernel
theorem d_Y_feedback_23 : decode prog_11_method_16_code 23 = .ok (.aload_n 0, 1) := by decide +kernel
theorem d_Y_feedback_24 : decode prog_11_method_16_code 24 = .ok (.getfield 86, 3) := by decide +kernel
theorem d_Y_feedback_27 : decode prog_11_method_16_code 27 = .ok (.aload_n 0, 1) := by decide +kernel
theorem d_Y_feedback_28 : decode prog_11_method_16_code 28 = .ok (.getfield 96, 3) := by decide +kernel
theorem d_Y_feedback_31 : decode prog_11_method_16_code 31 = .ok (.iconst 1, 1) := by decide +kernel
theorem d_Y_feedback_32 : decode prog_11_method_16_code 32 = .ok (.isub, 1) := by decide +kernel
theorem d_Y_feedback_33 : decode prog_11_method_16_code 33 = .ok (.iaload, 1) := by decide +kernel
theorem d_Y_feedback_34 : decode prog_11_method_16_code 34 = .ok (.ireturn, 1) := by decide +kernel
theorem d_Y_goaway_0 : decode prog_11_method_17_code 0 = .ok (.aload_n 0, 1) := by decide +kernel
theorem d_Y_goaway_1 : decode prog_11_method_17_code 1 = .ok (.getfield 144, 3) := by decide +kernel
theorem d_Y_goaway_4 : decode prog_11_method_17_code 4 = .ok (.ifCond .ne 16, 3) := by decide +kernel
theorem d_Y_goaway_7 : decode prog_11_method_17_code 7 = .ok (.aload_n 0, 1) := by decide +kernel
theorem d_Y_goaway_8 : decode prog_11_method_17_code 8 = .ok (.iconst 1, 1) := by decide +kernel
theorem d_Y_goaway_9 : decode prog_11_method_17_code 9 = .ok (.putfield 144, 3) := by decide +kernel
theorem d_Y_goaway_12 : decode prog_11_method_17_code 12 = .ok (.aload_n 0, 1) := by decide +kernel
theorem d_Y_goaway_13 : decode prog_11_method_17_code 13 = .ok (.aload_n 0, 1) := by decide +kernel
theorem d_Y_goaway_14 : decode prog_11_method_17_code 14 = .ok (.getfield 158, 3) := by decide +kernel
theorem d_Y_goaway_17 : decode prog_11_method_17_code 17 = .ok (.putfield 148, 3) := by decide +kernel
theorem d_Y_goaway_20 : decode prog_11_method_17_code 20 = .ok (.aload_n 0, 1) := by decide +kernel
theorem d_Y_goaway_21 : decode prog_11_method_17_code 21 = .ok (.getfield 148, 3) := by decide +kernel
theorem d_Y_goaway_24 : decode prog_11_method_17_code 24 = .ok (.ireturn, 1) := by decide +kernel
theorem d_Y_ask_0 : decode prog_11_method_18_code 0 = .ok (.aload_n 0, 1) := by decide +kernel
theorem d_Y_ask_1 : decode prog_11_method_18_code 1 = .ok (.getfield 100, 3) := by decide +kernel
theorem d_Y_ask_4 : decode prog_11_method_18_code 4 = .ok (.istore 5, 2) := by decide +kernel
theorem d_Y_ask_6 : decode prog_11_method_18_code 6 = .ok (.aload_n 0, 1) := by decide +kernel
theorem d_Y_ask_7 : decode prog_11_method_18_code 7 = .ok (.dup, 1) := by decide +kernel
theorem d_Y_ask_8 : decode prog_11_method_18_code 8 = .ok (.getfield 100, 3) := by decide +kernel
theorem d_Y_ask_11 : decode prog_11_method_18_code 11 = .ok (.iconst 1, 1) := by decide +kernel
theorem d_Y_ask_12 : decode prog_11_method_18_code 12 = .ok (.iadd, 1) := by decide +kernel
theorem d_Y_ask_13 : decode prog_11_method_18_code 13 = .ok (.putfield 100, 3) := by decide +kernel
theorem d_Y_ask_16 : decode prog_11_method_18_code 16 = .ok (.aload_n 0, 1) := by decide +kernel
theorem d_Y_ask_17 : decode prog_11_method_18_code 17 = .ok (.getfield 23, 3) := by decide +kernel
theorem d_Y_ask_20 : decode prog_11_method_18_code 20 = .ok (.iload 5, 2) := by decide +kernel
theorem d_Y_ask_22 : decode prog_11_method_18_code 22 = .ok (.iload_n 2, 1) := by decide +kernel
theorem d_Y_ask_23 : decode prog_11_method_18_code 23 = .ok (.bastore, 1) := by decide +kernel
theorem d_Y_ask_24 : decode prog_11_method_18_code 24 = .ok (.aload_n 0, 1) := by decide +kernel
theorem d_Y_ask_25 : decode prog_11_method_18_code 25 = .ok (.getfield 26, 3) := by decide +kernel
theorem d_Y_ask_28 : decode prog_11_method_18_code 28 = .ok (.iload 5, 2) := by decide +kernel
theorem d_Y_ask_30 : decode prog_11_method_18_code 30 = .ok (.iload_n 1, 1) := by decide +kernel
theorem d_Y_ask_31 : decode prog_11_method_18_code 31 = .ok (.iastore, 1) := by decide +kernel
theorem d_Y_ask_32 : decode prog_11_method_18_code 32 = .ok (.aload_n 0, 1) := by decide +kernel
theorem d_Y_ask_33 : decode prog_11_method_18_code 33 = .ok (.getfield 32, 3) := by decide +kernel
theorem d_Y_ask_36 : decode prog_11_method_18_code 36 = .ok (.iload 5, 2) := by decide +kernel
theorem d_Y_ask_38 : decode prog_11_method_18_code 38 = .ok (.iload_n 3, 1) := by decide +kernel
theorem d_Y_ask_39 : decode prog_11_method_18_code 39 = .ok (.iastore, 1) := by decide +kernel
theorem d_Y_ask_40 : decode prog_11_method_18_code 40 = .ok (.aload_n 0, 1) := by decide +kernel
theorem d_Y_ask_41 : decode prog_11_method_18_code 41 = .ok (.getfield 35, 3) := by decide +kernel
theorem d_Y_ask_44 : decode prog_11_method_18_code 44 = .ok (.iload 5, 2) := by decide +kernel
theorem d_Y_ask_46 : decode prog_11_method_18_code 46 = .ok (.iload 4, 2) := by decide +kernel
theorem d_Y_ask_48 : decode prog_11_method_18_code 48 = .ok (.iastore, 1) := by decide +kernel
theorem d_Y_ask_49 : decode prog_11_method_18_code 49 = .ok (.aload_n 0, 1) := by decide +kernel
theorem d_Y_ask_50 : decode prog_11_method_18_code 50 = .ok (.getfield 65, 3) := by decide +kernel
theorem d_Y_ask_53 : decode prog_11_method_18_code 53 = .ok (.iload_n 1, 1) := by decide +kernel
theorem d_Y_ask_54 : decode prog_11_method_18_code 54 = .ok (.iaload, 1) := by decide +kernel
theorem d_Y_ask_55 : decode prog_11_method_18_code 55 = .ok (.ifCond .lt 7, 3) := by decide +kernel
theorem d_Y_ask_58 : decode prog_11_method_18_code 58 = .ok (.iconst 1, 1) := by decide +kernel
theorem d_Y_ask_59 : decode prog_11_method_18_code 59 = .ok (.goto 4, 3) := by decide +kernel
theorem d_Y_ask_62 : decode prog_11_method_18_code 62 = .ok (.iconst 0, 1) := by decide +kernel
theorem d_Y_ask_63 : decode prog_11_method_18_code 63 = .ok (.istore 6, 2) := by decide +kernel
theorem d_Y_ask_65 : decode prog_11_method_18_code 65 = .ok (.iload_n 2, 1) := by decide +kernel
theorem d_Y_ask_66 : decode prog_11_method_18_code 66 = .ok (.ifCond .ne 53, 3) := by decide +kernel
theorem d_Y_ask_69 : decode prog_11_method_18_code 69 = .ok (.iload 6, 2) := by decide +kernel
theorem d_Y_ask_71 : decode prog_11_method_18_code 71 = .ok (.ifCond .eq 48, 3) := by decide +kernel
theorem d_Y_ask_74 : decode prog_11_method_18_code 74 = .ok (.aload_n 0, 1) := by decide +kernel
theorem d_Y_ask_75 : decode prog_11_method_18_code 75 = .ok (.getfield 161, 3) := by decide +kernel
theorem d_Y_ask_78 : decode prog_11_method_18_code 78 = .ok (.aload_n 0, 1) := by decide +kernel
theorem d_Y_ask_79 : decode prog_11_method_18_code 79 = .ok (.getfield 77, 3) := by decide +kernel
theorem d_Y_ask_82 : decode prog_11_method_18_code 82 = .ok (.iload_n 1, 1) := by decide +kernel
theorem d_Y_ask_83 : decode prog_11_method_18_code 83 = .ok (.iaload, 1) := by decide +kernel
theorem d_Y_ask_84 : decode prog_11_method_18_code 84 = .ok (.isub, 1) := by decide +kernel
theorem d_Y_ask_85 : decode prog_11_method_18_code 85 = .ok (.aload_n 0, 1) := by decide +kernel
theorem d_Y_ask_86 : decode prog_11_method_18_code 86 = .ok (.getfield 74, 3) := by decide +kernel
theorem d_Y_ask_89 : decode prog_11_method_18_code 89 = .ok (.iload_n 1, 1) := by decide +kernel
theorem d_Y_ask_90 : decode prog_11_method_18_code 90 = .ok (.iaload, 1) := by decide +kernel
theorem d_Y_ask_91 : decode prog_11_method_18_code 91 = .ok (.if_icmp .ge 28, 3) := by decide +kernel
theorem d_Y_ask_94 : decode prog_11_method_18_code 94 = .ok (.aload_n 0, 1) := by decide +kernel
theorem d_Y_ask_95 : decode prog_11_method_18_code 95 = .ok (.getfield 29, 3) := by decide +kernel
theorem d_Y_ask_98 : decode prog_11_method_18_code 98 = .ok (.iload 5, 2) := by decide +kernel
theorem d_Y_ask_100 : decode prog_11_method_18_code 100 = .ok (.bipush 8, 2) := by decide +kernel
theorem d_Y_ask_102 : decode prog_11_method_18_code 102 = .ok (.iastore, 1) := by decide +kernel
theorem d_Y_ask_103 : decode prog_11_method_18_code 103 = .ok (.aload_n 0, 1) := by decide +kernel
theorem d_Y_ask_104 : decode prog_11_method_18_code 104 = .ok (.getfield 44, 3) := by decide +kernel
theorem d_Y_ask_107 : decode prog_11_method_18_code 107 = .ok (.iload 5, 2) := by decide +kernel
theorem d_Y_ask_109 : decode prog_11_method_18_code 109 = .ok (.aload_n 0, 1) := by decide +kernel
theorem d_Y_ask_110 : decode prog_11_method_18_code 110 = .ok (.getfield 71, 3) := by decide +kernel
theorem d_Y_ask_113 : decode prog_11_method_18_code 113 = .ok (.iload_n 1, 1) := by decide +kernel
theorem d_Y_ask_114 : decode prog_11_method_18_code 114 = .ok (.iaload, 1) := by decide +kernel
theorem d_Y_ask_115 : decode prog_11_method_18_code 115 = .ok (.iastore, 1) := by decide +kernel
theorem d_Y_ask_116 : decode prog_11_method_18_code 116 = .ok (.goto 85, 3) := by decide +kernel
theorem d_Y_ask_119 : decode prog_11_method_18_code 119 = .ok (.aload_n 0, 1) := by decide +kernel
theorem d_Y_ask_120 : decode prog_11_method_18_code 120 = .ok (.getfield 164, 3) := by decide +kernel
theorem d_Y_ask_123 : decode prog_11_method_18_code 123 = .ok (.ifCond .eq 15, 3) := by decide +kernel
theorem d_Y_ask_126 : decode prog_11_method_18_code 126 = .ok (.aload_n 0, 1) := by decide +kernel
theorem d_Y_ask_127 : decode prog_11_method_18_code 127 = .ok (.getfield 29, 3) := by decide +kernel
theorem d_Y_ask_130 : decode prog_11_method_18_code 130 = .ok (.iload 5, 2) := by decide +kernel
theorem d_Y_ask_132 : decode prog_11_method_18_code 132 = .ok (.bipush 7, 2) := by decide +kernel
theorem d_Y_ask_134 : decode prog_11_method_18_code 134 = .ok (.iastore, 1) := by decide +kernel
theorem d_Y_ask_135 : decode prog_11_method_18_code 135 = .ok (.goto 66, 3) := by decide +kernel
theorem d_Y_ask_138 : decode prog_11_method_18_code 138 = .ok (.aload_n 0, 1) := by decide +kernel
theorem d_Y_ask_139 : decode prog_11_method_18_code 139 = .ok (.getfield 47, 3) := by decide +kernel
theorem d_Y_ask_142 : decode prog_11_method_18_code 142 = .ok (.iload 5, 2) := by decide +kernel
theorem d_Y_ask_144 : decode prog_11_method_18_code 144 = .ok (.iconst 1, 1) := by decide +kernel
theorem d_Y_ask_145 : decode prog_11_method_18_code 145 = .ok (.iastore, 1) := by decide +kernel
theorem d_Y_ask_146 : decode prog_11_method_18_code 146 = .ok (.aload_n 0, 1) := by decide +kernel
theorem d_Y_ask_147 : decode prog_11_method_18_code 147 = .ok (.getfield 41, 3) := by decide +kernel
theorem d_Y_ask_150 : decode prog_11_method_18_code 150 = .ok (.iload 5, 2) := by decide +kernel
theorem d_Y_ask_152 : decode prog_11_method_18_code 152 = .ok (.aload_n 0, 1) := by decide +kernel
theorem d_Y_ask_153 : decode prog_11_method_18_code 153 = .ok (.getfield 161, 3) := by decide +kernel
theorem d_Y_ask_156 : decode prog_11_method_18_code 156 = .ok (.iastore, 1) := by decide +kernel
theorem d_Y_ask_157 : decode prog_11_method_18_code 157 = .ok (.aload_n 0, 1) := by decide +kernel
theorem d_Y_ask_158 : decode prog_11_method_18_code 158 = .ok (.getfield 38, 3) := by decide +kernel
theorem d_Y_ask_161 : decode prog_11_method_18_code 161 = .ok (.iload 5, 2) := by decide +kernel
theorem d_Y_ask_163 : decode prog_11_method_18_code 163 = .ok (.iload 6, 2) := by decide +kernel
theorem d_Y_ask_165 : decode prog_11_method_18_code 165 = .ok (.ifCond .eq 12, 3) := by decide +kernel
theorem d_Y_ask_168 : decode prog_11_method_18_code 168 = .ok (.aload_n 0, 1) := by decide +kernel
theorem d_Y_ask_169 : decode prog_11_method_18_code 169 = .ok (.getfield 68, 3) := by decide +kernel
theorem d_Y_ask_172 : decode prog_11_method_18_code 172 = .ok (.iload_n 1, 1) := by decide +kernel
theorem d_Y_ask_173 : decode prog_11_method_18_code 173 = .ok (.iaload, 1) := by decide +kernel
theorem d_Y_ask_174 : decode prog_11_method_18_code 174 = .ok (.goto 4, 3) := by decide +kernel
theorem d_Y_ask_177 : decode prog_11_method_18_code 177 = .ok (.iconst 0, 1) := by decide +kernel
theorem d_Y_ask_178 : decode prog_11_method_18_code 178 = .ok (.iastore, 1) := by decide +kernel
theorem d_Y_ask_179 : decode prog_11_method_18_code 179 = .ok (.aload_n 0, 1) := by decide +kernel
theorem d_Y_ask_180 : decode prog_11_method_18_code 180 = .ok (.getfield 44, 3) := by decide +kernel
theorem d_Y_ask_183 : decode prog_11_method_18_code 183 = .ok (.iload 5, 2) := by decide +kernel
theorem d_Y_ask_185 : decode prog_11_method_18_code 185 = .ok (.iload 6, 2) := by decide +kernel
theorem d_Y_ask_187 : decode prog_11_method_18_code 187 = .ok (.ifCond .eq 12, 3) := by decide +kernel
theorem d_Y_ask_190 : decode prog_11_method_18_code 190 = .ok (.aload_n 0, 1) := by decide +kernel
theorem d_Y_ask_191 : decode prog_11_method_18_code 191 = .ok (.getfield 71, 3) := by decide +kernel
theorem d_Y_ask_194 : decode prog_11_method_18_code 194 = .ok (.iload_n 1, 1) := by decide +kernel
theorem d_Y_ask_195 : decode prog_11_method_18_code 195 = .ok (.iaload, 1) := by decide +kernel
theorem d_Y_ask_196 : decode prog_11_method_18_code 196 = .ok (.goto 4, 3) := by decide +kernel
theorem d_Y_ask_199 : decode prog_11_method_18_code 199 = .ok (.iconst 0, 1) := by decide +kernel
theorem d_Y_ask_200 : decode prog_11_method_18_code 200 = .ok (.iastore, 1) := by decide +kernel
theorem d_Y_ask_201 : decode prog_11_method_18_code 201 = .ok (.iload 5, 2) := by decide +kernel
theorem d_Y_ask_203 : decode prog_11_method_18_code 203 = .ok (.ireturn, 1) := by decide +kernel
theorem d_Y_get_0 : decode prog_11_method_19_code 0 = .ok (.iload_n 1, 1) := by decide +kernel
theorem d_Y_get_1 : decode prog_11_method_19_code 1 = .ok (.iconst 5, 1) := by decide +kernel
theorem d_Y_get_2 : decode prog_11_method_19_code 2 = .ok (.invokestatic 116, 3) := by decide +kernel
theorem d_Y_get_5 : decode prog_11_method_19_code 5 = .ok (.ifCond .eq 23, 3) := by decide +kernel
theorem d_Y_get_8 : decode prog_11_method_19_code 8 = .ok (.aload_n 0, 1) := by decide +kernel
theorem d_Y_get_9 : decode prog_11_method_19_code 9 = .ok (.getfield 100, 3) := by decide +kernel
theorem d_Y_get_12 : decode prog_11_method_19_code 12 = .ok (.bipush 60, 2) := by decide +kernel
theorem d_Y_get_14 : decode prog_11_method_19_code 14 = .ok (.if_icmp .ge 14, 3) := by decide +kernel
theorem d_Y_get_17 : decode prog_11_method_19_code 17 = .ok (.aload_n 0, 1) := by decide +kernel
theorem d_Y_get_18 : decode prog_11_method_19_code 18 = .ok (.iload_n 1, 1) := by decide +kernel
theorem d_Y_get_19 : decode prog_11_method_19_code 19 = .ok (.iconst 0, 1) := by decide +kernel
theorem d_Y_get_20 : decode prog_11_method_19_code 20 = .ok (.iconst 0, 1) := by decide +kernel
theorem d_Y_get_21 : decode prog_11_method_19_code 21 = .ok (.iconst 0, 1) := by decide +kernel
theorem d_Y_get_22 : decode prog_11_method_19_code 22 = .ok (.invokevirtual 167, 3) := by decide +kernel
theorem d_Y_get_25 : decode prog_11_method_19_code 25 = .ok (.goto 4, 3) := by decide +kernel
theorem d_Y_get_28 : decode prog_11_method_19_code 28 = .ok (.iconst (-1), 1) := by decide +kernel
theorem d_Y_get_29 : decode prog_11_method_19_code 29 = .ok (.ireturn, 1) := by decide +kernel
theorem d_Y_replace_0 : decode prog_11_method_20_code 0 = .ok (.iload_n 1, 1) := by decide +kernel
theorem d_Y_replace_1 : decode prog_11_method_20_code 1 = .ok (.iconst 5, 1) := by decide +kernel
theorem d_Y_replace_2 : decode prog_11_method_20_code 2 = .ok (.invokestatic 116, 3) := by decide +kernel
theorem d_Y_replace_5 : decode prog_11_method_20_code 5 = .ok (.ifCond .eq 33, 3) := by decide +kernel
theorem d_Y_replace_8 : decode prog_11_method_20_code 8 = .ok (.iload_n 3, 1) := by decide +kernel
theorem d_Y_replace_9 : decode prog_11_method_20_code 9 = .ok (.sipush 1000, 3) := by decide +kernel
theorem d_Y_replace_12 : decode prog_11_method_20_code 12 = .ok (.invokestatic 116, 3) := by decide +kernel
theorem d_Y_replace_15 : decode prog_11_method_20_code 15 = .ok (.ifCond .eq 23, 3) := by decide +kernel
theorem d_Y_replace_18 : decode prog_11_method_20_code 18 = .ok (.aload_n 0, 1) := by decide +kernel
theorem d_Y_replace_19 : decode prog_11_method_20_code 19 = .ok (.getfield 100, 3) := by decide +kernel
theorem d_Y_replace_22 : decode prog_11_method_20_code 22 = .ok (.bipush 60, 2) := by decide +kernel
theorem d_Y_replace_24 : decode prog_11_method_20_code 24 = .ok (.if_icmp .ge 14, 3) := by decide +kernel
theorem d_Y_replace_27 : decode prog_11_method_20_code 27 = .ok (.aload_n 0, 1) := by decide +kernel
theorem d_Y_replace_28 : decode prog_11_method_20_code 28 = .ok (.iload_n 1, 1) := by decide +kernel
theorem d_Y_replace_29 : decode prog_11_method_20_code 29 = .ok (.iconst 1, 1) := by decide +kernel
theorem d_Y_replace_30 : decode prog_11_method_20_code 30 = .ok (.iload_n 2, 1) := by decide +kernel
theorem d_Y_replace_31 : decode prog_11_method_20_code 31 = .ok (.iload_n 3, 1) := by decide +kernel
theorem d_Y_replace_32 : decode prog_11_method_20_code 32 = .ok (.invokevirtual 167, 3) := by decide +kernel
theorem d_Y_replace_35 : decode prog_11_method_20_code 35 = .ok (.goto 4, 3) := by decide +kernel
theorem d_Y_replace_38 : decode prog_11_method_20_code 38 = .ok (.iconst (-1), 1) := by decide +kernel
theorem d_Y_replace_39 : decode prog_11_method_20_code 39 = .ok (.ireturn, 1) := by decide +kernel
theorem d_Y_read_0 : decode prog_11_method_21_code 0 = .ok (.aload_n 0, 1) := by decide +kernel
theorem d_Y_read_1 : decode prog_11_method_21_code 1 = .ok (.getfield 26, 3) := by decide +kernel
theorem d_Y_read_4 : decode prog_11_method_21_code 4 = .ok (.iload_n 1, 1) := by decide +kernel
theorem d_Y_read_5 : decode prog_11_method_21_code 5 = .ok (.iaload, 1) := by decide +kernel
theorem d_Y_read_6 : decode prog_11_method_21_code 6 = .ok (.istore_n 2, 1) := by decide +kernel
theorem d_Y_read_7 : decode prog_11_method_21_code 7 = .ok (.aload_n 0, 1) := by decide +kernel
theorem d_Y_read_8 : decode prog_11_method_21_code 8 = .ok (.getfield 50, 3) := by decide +kernel
theorem d_Y_read_11 : decode prog_11_method_21_code 11 = .ok (.iload_n 1, 1) := by decide +kernel
theorem d_Y_read_12 : decode prog_11_method_21_code 12 = .ok (.iaload, 1) := by decide +kernel
theorem d_Y_read_13 : decode prog_11_method_21_code 13 = .ok (.istore_n 3, 1) := by decide +kernel
theorem d_Y_read_14 : decode prog_11_method_21_code 14 = .ok (.aload_n 0, 1) := by decide +kernel
theorem d_Y_read_15 : decode prog_11_method_21_code 15 = .ok (.getfield 65, 3) := by decide +kernel
theorem d_Y_read_18 : decode prog_11_method_21_code 18 = .ok (.iload_n 2, 1) := by decide +kernel
theorem d_Y_read_19 : decode prog_11_method_21_code 19 = .ok (.iaload, 1) := by decide +kernel
theorem d_Y_read_20 : decode prog_11_method_21_code 20 = .ok (.iload_n 1, 1) := by decide +kernel
theorem d_Y_read_21 : decode prog_11_method_21_code 21 = .ok (.if_icmp .ge 7, 3) := by decide +kernel
theorem d_Y_read_24 : decode prog_11_method_21_code 24 = .ok (.iconst 1, 1) := by decide +kernel
theorem d_Y_read_25 : decode prog_11_method_21_code 25 = .ok (.goto 4, 3) := by decide +kernel
theorem d_Y_read_28 : decode prog_11_method_21_code 28 = .ok (.iconst 0, 1) := by decide +kernel
theorem d_Y_read_29 : decode prog_11_method_21_code 29 = .ok (.istore 4, 2) := by decide +kernel
theorem d_Y_read_31 : decode prog_11_method_21_code 31 = .ok (.aload_n 0, 1) := by decide +kernel
theorem d_Y_read_32 : decode prog_11_method_21_code 32 = .ok (.getfield 47, 3) := by decide +kernel
theorem d_Y_read_35 : decode prog_11_method_21_code 35 = .ok (.iload_n 1, 1) := by decide +kernel
theorem d_Y_read_36 : decode prog_11_method_21_code 36 = .ok (.iconst 0, 1) := by decide +kernel
theorem d_Y_read_37 : decode prog_11_method_21_code 37 = .ok (.iastore, 1) := by decide +kernel
theorem d_Y_read_38 : decode prog_11_method_21_code 38 = .ok (.iload_n 3, 1) := by decide +kernel
theorem d_Y_read_39 : decode prog_11_method_21_code 39 = .ok (.sipush 304, 3) := by decide +kernel
theorem d_Y_read_42 : decode prog_11_method_21_code 42 = .ok (.if_icmp .ne 73, 3) := by decide +kernel
theorem d_Y_read_45 : decode prog_11_method_21_code 45 = .ok (.aload_n 0, 1) := by decide +kernel
theorem d_Y_read_46 : decode prog_11_method_21_code 46 = .ok (.getfield 29, 3) := by decide +kernel
theorem d_Y_read_49 : decode prog_11_method_21_code 49 = .ok (.iload_n 1, 1) := by decide +kernel
theorem d_Y_read_50 : decode prog_11_method_21_code 50 = .ok (.iconst 2, 1) := by decide +kernel
theorem d_Y_read_51 : decode prog_11_method_21_code 51 = .ok (.iastore, 1) := by decide +kernel
theorem d_Y_read_52 : decode prog_11_method_21_code 52 = .ok (.aload_n 0, 1) := by decide +kernel
theorem d_Y_read_53 : decode prog_11_method_21_code 53 = .ok (.getfield 65, 3) := by decide +kernel
theorem d_Y_read_56 : decode prog_11_method_21_code 56 = .ok (.iload_n 2, 1) := by decide +kernel
theorem d_Y_read_57 : decode prog_11_method_21_code 57 = .ok (.iaload, 1) := by decide +kernel
theorem d_Y_read_58 : decode prog_11_method_21_code 58 = .ok (.ifCond .lt 211, 3) := by decide +kernel
theorem d_Y_read_61 : decode prog_11_method_21_code 61 = .ok (.aload_n 0, 1) := by decide +kernel
theorem d_Y_read_62 : decode prog_11_method_21_code 62 = .ok (.getfield 68, 3) := by decide +kernel
theorem d_Y_read_65 : decode prog_11_method_21_code 65 = .ok (.iload_n 2, 1) := by decide +kernel
theorem d_Y_read_66 : decode prog_11_method_21_code 66 = .ok (.iaload, 1) := by decide +kernel
theorem d_Y_read_67 : decode prog_11_method_21_code 67 = .ok (.aload_n 0, 1) := by decide +kernel
theorem d_Y_read_68 : decode prog_11_method_21_code 68 = .ok (.getfield 53, 3) := by decide +kernel
theorem d_Y_read_71 : decode prog_11_method_21_code 71 = .ok (.iload_n 1, 1) := by decide +kernel
theorem d_Y_read_72 : decode prog_11_method_21_code 72 = .ok (.iaload, 1) := by decide +kernel
theorem d_Y_read_73 : decode prog_11_method_21_code 73 = .ok (.if_icmp .ne 196, 3) := by decide +kernel
theorem d_Y_read_76 : decode prog_11_method_21_code 76 = .ok (.iload 4, 2) := by decide +kernel
theorem d_Y_read_78 : decode prog_11_method_21_code 78 = .ok (.ifCond .eq 191, 3) := by decide +kernel
theorem d_Y_read_81 : decode prog_11_method_21_code 81 = .ok (.aload_n 0, 1) := by decide +kernel
theorem d_Y_read_82 : decode prog_11_method_21_code 82 = .ok (.getfield 74, 3) := by decide +kernel
theorem d_Y_read_85 : decode prog_11_method_21_code 85 = .ok (.iload_n 2, 1) := by decide +kernel
theorem d_Y_read_86 : decode prog_11_method_21_code 86 = .ok (.aload_n 0, 1) := by decide +kernel
theorem d_Y_read_87 : decode prog_11_method_21_code 87 = .ok (.getfield 56, 3) := by decide +kernel
theorem d_Y_read_90 : decode prog_11_method_21_code 90 = .ok (.iload_n 1, 1) := by decide +kernel
theorem d_Y_read_91 : decode prog_11_method_21_code 91 = .ok (.iaload, 1) := by decide +kernel
theorem d_Y_read_92 : decode prog_11_method_21_code 92 = .ok (.iastore, 1) := by decide +kernel
theorem d_Y_read_93 : decode prog_11_method_21_code 93 = .ok (.aload_n 0, 1) := by decide +kernel
theorem d_Y_read_94 : decode prog_11_method_21_code 94 = .ok (.getfield 77, 3) := by decide +kernel
theorem d_Y_read_97 : decode prog_11_method_21_code 97 = .ok (.iload_n 2, 1) := by decide +kernel
theorem d_Y_read_98 : decode prog_11_method_21_code 98 = .ok (.aload_n 0, 1) := by decide +kernel
theorem d_Y_read_99 : decode prog_11_method_21_code 99 = .ok (.getfield 41, 3) := by decide +kernel
theorem d_Y_read_102 : decode prog_11_method_21_code 102 = .ok (.iload_n 1, 1) := by decide +kernel
theorem d_Y_read_103 : decode prog_11_method_21_code 103 = .ok (.iaload, 1) := by decide +kernel
theorem d_Y_read_104 : decode prog_11_method_21_code 104 = .ok (.iastore, 1) := by decide +kernel
theorem d_Y_read_105 : decode prog_11_method_21_code 105 = .ok (.aload_n 0, 1) := by decide +kernel
theorem d_Y_read_106 : decode prog_11_method_21_code 106 = .ok (.getfield 65, 3) := by decide +kernel
theorem d_Y_read_109 : decode prog_11_method_21_code 109 = .ok (.iload_n 2, 1) := by decide +kernel
theorem d_Y_read_110 : decode prog_11_method_21_code 110 = .ok (.iload_n 1, 1) := by decide +kernel
theorem d_Y_read_111 : decode prog_11_method_21_code 111 = .ok (.iastore, 1) := by decide +kernel
theorem d_Y_read_112 : decode prog_11_method_21_code 112 = .ok (.goto 157, 3) := by decide +kernel
theorem d_Y_read_115 : decode prog_11_method_21_code 115 = .ok (.iload_n 3, 1) := by decide +kernel
theorem d_Y_read_116 : decode prog_11_method_21_code 116 = .ok (.sipush 200, 3) := by decide +kernel
theorem d_Y_read_119 : decode prog_11_method_21_code 119 = .ok (.if_icmp .ne 94, 3) := by decide +kernel
theorem d_Y_read_122 : decode prog_11_method_21_code 122 = .ok (.aload_n 0, 1) := by decide +kernel
theorem d_Y_read_123 : decode prog_11_method_21_code 123 = .ok (.getfield 23, 3) := by decide +kernel
theorem d_Y_read_126 : decode prog_11_method_21_code 126 = .ok (.iload_n 1, 1) := by decide +kernel
theorem d_Y_read_127 : decode prog_11_method_21_code 127 = .ok (.baload, 1) := by decide +kernel
theorem d_Y_read_128 : decode prog_11_method_21_code 128 = .ok (.ifCond .ne 85, 3) := by decide +kernel
theorem d_Y_read_131 : decode prog_11_method_21_code 131 = .ok (.aload_n 0, 1) := by decide +kernel
theorem d_Y_read_132 : decode prog_11_method_21_code 132 = .ok (.getfield 29, 3) := by decide +kernel
theorem d_Y_read_135 : decode prog_11_method_21_code 135 = .ok (.iload_n 1, 1) := by decide +kernel
theorem d_Y_read_136 : decode prog_11_method_21_code 136 = .ok (.iconst 1, 1) := by decide +kernel
theorem d_Y_read_137 : decode prog_11_method_21_code 137 = .ok (.iastore, 1) := by decide +kernel
theorem d_Y_read_138 : decode prog_11_method_21_code 138 = .ok (.aload_n 0, 1) := by decide +kernel
theorem d_Y_read_139 : decode prog_11_method_21_code 139 = .ok (.getfield 44, 3) := by decide +kernel
theorem d_Y_read_142 : decode prog_11_method_21_code 142 = .ok (.iload_n 1, 1) := by decide +kernel
theorem d_Y_read_143 : decode prog_11_method_21_code 143 = .ok (.aload_n 0, 1) := by decide +kernel
theorem d_Y_read_144 : decode prog_11_method_21_code 144 = .ok (.getfield 59, 3) := by decide +kernel
theorem d_Y_read_147 : decode prog_11_method_21_code 147 = .ok (.iload_n 1, 1) := by decide +kernel
theorem d_Y_read_148 : decode prog_11_method_21_code 148 = .ok (.iaload, 1) := by decide +kernel
theorem d_Y_read_149 : decode prog_11_method_21_code 149 = .ok (.iastore, 1) := by decide +kernel
theorem d_Y_read_150 : decode prog_11_method_21_code 150 = .ok (.iload 4, 2) := by decide +kernel
theorem d_Y_read_152 : decode prog_11_method_21_code 152 = .ok (.ifCond .eq 117, 3) := by decide +kernel
theorem d_Y_read_155 : decode prog_11_method_21_code 155 = .ok (.aload_n 0, 1) := by decide +kernel
theorem d_Y_read_156 : decode prog_11_method_21_code 156 = .ok (.getfield 68, 3) := by decide +kernel
theorem d_Y_read_159 : decode prog_11_method_21_code 159 = .ok (.iload_n 2, 1) := by decide +kernel
theorem d_Y_read_160 : decode prog_11_method_21_code 160 = .ok (.aload_n 0, 1) := by decide +kernel
theorem d_Y_read_161 : decode prog_11_method_21_code 161 = .ok (.getfield 53, 3) := by decide +kernel
theorem d_Y_read_164 : decode prog_11_method_21_code 164 = .ok (.iload_n 1, 1) := by decide +kernel
theorem d_Y_read_165 : decode prog_11_method_21_code 165 = .ok (.iaload, 1) := by decide +kernel
theorem d_Y_read_166 : decode prog_11_method_21_code 166 = .ok (.iastore, 1) := by decide +kernel
theorem d_Y_read_167 : decode prog_11_method_21_code 167 = .ok (.aload_n 0, 1) := by decide +kernel
theorem d_Y_read_168 : decode prog_11_method_21_code 168 = .ok (.getfield 71, 3) := by decide +kernel
theorem d_Y_read_171 : decode prog_11_method_21_code 171 = .ok (.iload_n 2, 1) := by decide +kernel
theorem d_Y_read_172 : decode prog_11_method_21_code 172 = .ok (.aload_n 0, 1) := by decide +kernel
theorem d_Y_read_173 : decode prog_11_method_21_code 173 = .ok (.getfield 59, 3) := by decide +kernel
theorem d_Y_read_176 : decode prog_11_method_21_code 176 = .ok (.iload_n 1, 1) := by decide +kernel
theorem d_Y_read_177 : decode prog_11_method_21_code 177 = .ok (.iaload, 1) := by decide +kernel
theorem d_Y_read_178 : decode prog_11_method_21_code 178 = .ok (.iastore, 1) := by decide +kernel
theorem d_Y_read_179 : decode prog_11_method_21_code 179 = .ok (.aload_n 0, 1) := by decide +kernel
theorem d_Y_read_180 : decode prog_11_method_21_code 180 = .ok (.getfield 74, 3) := by decide +kernel
theorem d_Y_read_183 : decode prog_11_method_21_code 183 = .ok (.iload_n 2, 1) := by decide +kernel
theorem d_Y_read_184 : decode prog_11_method_21_code 184 = .ok (.aload_n 0, 1) := by decide +kernel
theorem d_Y_read_185 : decode prog_11_method_21_code 185 = .ok (.getfield 56, 3) := by decide +kernel
theorem d_Y_read_188 : decode prog_11_method_21_code 188 = .ok (.iload_n 1, 1) := by decide +kernel
theorem d_Y_read_189 : decode prog_11_method_21_code 189 = .ok (.iaload, 1) := by decide +kernel
theorem d_Y_read_190 : decode prog_11_method_21_code 190 = .ok (.iastore, 1) := by decide +kernel
theorem d_Y_read_191 : decode prog_11_method_21_code 191 = .ok (.aload_n 0, 1) := by decide +kernel
theorem d_Y_read_192 : decode prog_11_method_21_code 192 = .ok (.getfield 77, 3) := by decide +kernel
theorem d_Y_read_195 : decode prog_11_method_21_code 195 = .ok (.iload_n 2, 1) := by decide +kernel
theorem d_Y_read_196 : decode prog_11_method_21_code 196 = .ok (.aload_n 0, 1) := by decide +kernel
theorem d_Y_read_197 : decode prog_11_method_21_code 197 = .ok (.getfield 41, 3) := by decide +kernel
theorem d_Y_read_200 : decode prog_11_method_21_code 200 = .ok (.iload_n 1, 1) := by decide +kernel
theorem d_Y_read_201 : decode prog_11_method_21_code 201 = .ok (.iaload, 1) := by decide +kernel
theorem d_Y_read_202 : decode prog_11_method_21_code 202 = .ok (.iastore, 1) := by decide +kernel
theorem d_Y_read_203 : decode prog_11_method_21_code 203 = .ok (.aload_n 0, 1) := by decide +kernel
theorem d_Y_read_204 : decode prog_11_method_21_code 204 = .ok (.getfield 65, 3) := by decide +kernel
theorem d_Y_read_207 : decode prog_11_method_21_code 207 = .ok (.iload_n 2, 1) := by decide +kernel
theorem d_Y_read_208 : decode prog_11_method_21_code 208 = .ok (.iload_n 1, 1) := by decide +kernel
theorem d_Y_read_209 : decode prog_11_method_21_code 209 = .ok (.iastore, 1) := by decide +kernel
theorem d_Y_read_210 : decode prog_11_method_21_code 210 = .ok (.goto 59, 3) := by decide +kernel
theorem d_Y_read_213 : decode prog_11_method_21_code 213 = .ok (.iload_n 3, 1) := by decide +kernel
theorem d_Y_read_214 : decode prog_11_method_21_code 214 = .ok (.sipush 412, 3) := by decide +kernel
theorem d_Y_read_217 : decode prog_11_method_21_code 217 = .ok (.if_icmp .ne 13, 3) := by decide +kernel
theorem d_Y_read_220 : decode prog_11_method_21_code 220 = .ok (.aload_n 0, 1) := by decide +kernel
theorem d_Y_read_221 : decode prog_11_method_21_code 221 = .ok (.getfield 29, 3) := by decide +kernel
theorem d_Y_read_224 : decode prog_11_method_21_code 224 = .ok (.iload_n 1, 1) := by decide +kernel
theorem d_Y_read_225 : decode prog_11_method_21_code 225 = .ok (.iconst 5, 1) := by decide +kernel
theorem d_Y_read_226 : decode prog_11_method_21_code 226 = .ok (.iastore, 1) := by decide +kernel
theorem d_Y_read_227 : decode prog_11_method_21_code 227 = .ok (.goto 42, 3) := by decide +kernel
theorem d_Y_read_230 : decode prog_11_method_21_code 230 = .ok (.aload_n 0, 1) := by decide +kernel
theorem d_Y_read_231 : decode prog_11_method_21_code 231 = .ok (.getfield 29, 3) := by decide +kernel
theorem d_Y_read_234 : decode prog_11_method_21_code 234 = .ok (.iload_n 1, 1) := by decide +kernel
theorem d_Y_read_235 : decode prog_11_method_21_code 235 = .ok (.iload_n 3, 1) := by decide +kernel
theorem d_Y_read_236 : decode prog_11_method_21_code 236 = .ok (.sipush 404, 3) := by decide +kernel
theorem d_Y_read_239 : decode prog_11_method_21_code 239 = .ok (.if_icmp .ne 7, 3) := by decide +kernel
theorem d_Y_read_242 : decode prog_11_method_21_code 242 = .ok (.iconst 3, 1) := by decide +kernel
theorem d_Y_read_243 : decode prog_11_method_21_code 243 = .ok (.goto 4, 3) := by decide +kernel
theorem d_Y_read_246 : decode prog_11_method_21_code 246 = .ok (.iconst 4, 1) := by decide +kernel
theorem d_Y_read_247 : decode prog_11_method_21_code 247 = .ok (.iastore, 1) := by decide +kernel
theorem d_Y_read_248 : decode prog_11_method_21_code 248 = .ok (.aload_n 0, 1) := by decide +kernel
theorem d_Y_read_249 : decode prog_11_method_21_code 249 = .ok (.getfield 65, 3) := by decide +kernel
theorem d_Y_read_252 : decode prog_11_method_21_code 252 = .ok (.iload_n 2, 1) := by decide +kernel
theorem d_Y_read_253 : decode prog_11_method_21_code 253 = .ok (.iload 4, 2) := by decide +kernel
theorem d_Y_read_255 : decode prog_11_method_21_code 255 = .ok (.ifCond .eq 7, 3) := by decide +kernel
theorem d_Y_read_258 : decode prog_11_method_21_code 258 = .ok (.iconst (-1), 1) := by decide +kernel
theorem d_Y_read_259 : decode prog_11_method_21_code 259 = .ok (.goto 9, 3) := by decide +kernel
theorem d_Y_read_262 : decode prog_11_method_21_code 262 = .ok (.aload_n 0, 1) := by decide +kernel
theorem d_Y_read_263 : decode prog_11_method_21_code 263 = .ok (.getfield 65, 3) := by decide +kernel
theorem d_Y_read_266 : decode prog_11_method_21_code 266 = .ok (.iload_n 2, 1) := by decide +kernel
theorem d_Y_read_267 : decode prog_11_method_21_code 267 = .ok (.iaload, 1) := by decide +kernel
theorem d_Y_read_268 : decode prog_11_method_21_code 268 = .ok (.iastore, 1) := by decide +kernel
theorem d_Y_read_269 : decode prog_11_method_21_code 269 = .ok (.aload_n 0, 1) := by decide +kernel
theorem d_Y_read_270 : decode prog_11_method_21_code 270 = .ok (.iload_n 1, 1) := by decide +kernel
theorem d_Y_read_271 : decode prog_11_method_21_code 271 = .ok (.invokevirtual 92, 3) := by decide +kernel
theorem d_Y_read_274 : decode prog_11_method_21_code 274 = .ok (.ifCond .le 9, 3) := by decide +kernel
theorem d_Y_read_277 : decode prog_11_method_21_code 277 = .ok (.aload_n 0, 1) := by decide +kernel
theorem d_Y_read_278 : decode prog_11_method_21_code 278 = .ok (.iconst 0, 1) := by decide +kernel
theorem d_Y_read_279 : decode prog_11_method_21_code 279 = .ok (.iload_n 1, 1) := by decide +kernel
theorem d_Y_read_280 : decode prog_11_method_21_code 280 = .ok (.invokevirtual 171, 3) := by decide +kernel
theorem d_Y_read_283 : decode prog_11_method_21_code 283 = .ok (.aload_n 0, 1) := by decide +kernel
theorem d_Y_read_284 : decode prog_11_method_21_code 284 = .ok (.getfield 29, 3) := by decide +kernel
theorem d_Y_read_287 : decode prog_11_method_21_code 287 = .ok (.iload_n 1, 1) := by decide +kernel
theorem d_Y_read_288 : decode prog_11_method_21_code 288 = .ok (.iaload, 1) := by decide +kernel
theorem d_Y_read_289 : decode prog_11_method_21_code 289 = .ok (.ireturn, 1) := by decide +kernel
theorem d_Y_reply_0 : decode prog_11_method_22_code 0 = .ok (.iload_n 1, 1) := by decide +kernel
theorem d_Y_reply_1 : decode prog_11_method_22_code 1 = .ok (.aload_n 0, 1) := by decide +kernel
theorem d_Y_reply_2 : decode prog_11_method_22_code 2 = .ok (.getfield 100, 3) := by decide +kernel
theorem d_Y_reply_5 : decode prog_11_method_22_code 5 = .ok (.iconst 1, 1) := by decide +kernel
theorem d_Y_reply_6 : decode prog_11_method_22_code 6 = .ok (.isub, 1) := by decide +kernel
theorem d_Y_reply_7 : decode prog_11_method_22_code 7 = .ok (.invokestatic 116, 3) := by decide +kernel
theorem d_Y_reply_10 : decode prog_11_method_22_code 10 = .ok (.ifCond .eq 13, 3) := by decide +kernel
theorem d_Y_reply_13 : decode prog_11_method_22_code 13 = .ok (.aload_n 0, 1) := by decide +kernel
theorem d_Y_reply_14 : decode prog_11_method_22_code 14 = .ok (.getfield 47, 3) := by decide +kernel
theorem d_Y_reply_17 : decode prog_11_method_22_code 17 = .ok (.iload_n 1, 1) := by decide +kernel
theorem d_Y_reply_18 : decode prog_11_method_22_code 18 = .ok (.iaload, 1) := by decide +kernel
theorem d_Y_reply_19 : decode prog_11_method_22_code 19 = .ok (.iconst 2, 1) := by decide +kernel
theorem d_Y_reply_20 : decode prog_11_method_22_code 20 = .ok (.if_icmp .eq 5, 3) := by decide +kernel
theorem d_Y_reply_23 : decode prog_11_method_22_code 23 = .ok (.iconst (-1), 1) := by decide +kernel
theorem d_Y_reply_24 : decode prog_11_method_22_code 24 = .ok (.ireturn, 1) := by decide +kernel
theorem d_Y_reply_25 : decode prog_11_method_22_code 25 = .ok (.aload_n 0, 1) := by decide +kernel
theorem d_Y_reply_26 : decode prog_11_method_22_code 26 = .ok (.iload_n 1, 1) := by decide +kernel
theorem d_Y_reply_27 : decode prog_11_method_22_code 27 = .ok (.invokevirtual 92, 3) := by decide +kernel
theorem d_Y_reply_30 : decode prog_11_method_22_code 30 = .ok (.aload_n 0, 1) := by decide +kernel
theorem d_Y_reply_31 : decode prog_11_method_22_code 31 = .ok (.getfield 175, 3) := by decide +kernel
theorem d_Y_reply_34 : decode prog_11_method_22_code 34 = .ok (.if_icmp .le 12, 3) := by decide +kernel
theorem d_Y_reply_37 : decode prog_11_method_22_code 37 = .ok (.aload_n 0, 1) := by decide +kernel
theorem d_Y_reply_38 : decode prog_11_method_22_code 38 = .ok (.getfield 47, 3) := by decide +kernel
theorem d_Y_reply_41 : decode prog_11_method_22_code 41 = .ok (.iload_n 1, 1) := by decide +kernel
theorem d_Y_reply_42 : decode prog_11_method_22_code 42 = .ok (.iconst 3, 1) := by decide +kernel
theorem d_Y_reply_43 : decode prog_11_method_22_code 43 = .ok (.iastore, 1) := by decide +kernel
theorem d_Y_reply_44 : decode prog_11_method_22_code 44 = .ok (.iconst 0, 1) := by decide +kernel
theorem d_Y_reply_45 : decode prog_11_method_22_code 45 = .ok (.ireturn, 1) := by decide +kernel
theorem d_Y_reply_46 : decode prog_11_method_22_code 46 = .ok (.aload_n 0, 1) := by decide +kernel
theorem d_Y_reply_47 : decode prog_11_method_22_code 47 = .ok (.iload_n 1, 1) := by decide +kernel
theorem d_Y_reply_48 : decode prog_11_method_22_code 48 = .ok (.invokevirtual 178, 3) := by decide +kernel
theorem d_Y_reply_51 : decode prog_11_method_22_code 51 = .ok (.ireturn, 1) := by decide +kernel
theorem d_Y_insert_0 : decode prog_11_method_23_code 0 = .ok (.aload_n 0, 1) := by decide +kernel
theorem d_Y_insert_1 : decode prog_11_method_23_code 1 = .ok (.getfield 175, 3) := by decide +kernel
theorem d_Y_insert_4 : decode prog_11_method_23_code 4 = .ok (.aload_n 0, 1) := by decide +kernel
theorem d_Y_insert_5 : decode prog_11_method_23_code 5 = .ok (.getfield 107, 3) := by decide +kernel
theorem d_Y_insert_8 : decode prog_11_method_23_code 8 = .ok (.if_icmp .ne 5, 3) := by decide +kernel
theorem d_Y_insert_11 : decode prog_11_method_23_code 11 = .ok (.iconst (-1), 1) := by decide +kernel
theorem d_Y_insert_12 : decode prog_11_method_23_code 12 = .ok (.ireturn, 1) := by decide +kernel
theorem d_Y_insert_13 : decode prog_11_method_23_code 13 = .ok (.aload_n 0, 1) := by decide +kernel
theorem d_Y_insert_14 : decode prog_11_method_23_code 14 = .ok (.dup, 1) := by decide +kernel
theorem d_Y_insert_15 : decode prog_11_method_23_code 15 = .ok (.getfield 175, 3) := by decide +kernel
theorem d_Y_insert_18 : decode prog_11_method_23_code 18 = .ok (.iconst 1, 1) := by decide +kernel
theorem d_Y_insert_19 : decode prog_11_method_23_code 19 = .ok (.iadd, 1) := by decide +kernel
theorem d_Y_insert_20 : decode prog_11_method_23_code 20 = .ok (.putfield 175, 3) := by decide +kernel
theorem d_Y_insert_23 : decode prog_11_method_23_code 23 = .ok (.iconst 0, 1) := by decide +kernel
theorem d_Y_insert_24 : decode prog_11_method_23_code 24 = .ok (.istore_n 1, 1) := by decide +kernel
theorem d_Y_insert_25 : decode prog_11_method_23_code 25 = .ok (.iconst 0, 1) := by decide +kernel
theorem d_Y_insert_26 : decode prog_11_method_23_code 26 = .ok (.istore_n 2, 1) := by decide +kernel
theorem d_Y_insert_27 : decode prog_11_method_23_code 27 = .ok (.iload_n 2, 1) := by decide +kernel
theorem d_Y_insert_28 : decode prog_11_method_23_code 28 = .ok (.aload_n 0, 1) := by decide +kernel
theorem d_Y_insert_29 : decode prog_11_method_23_code 29 = .ok (.getfield 100, 3) := by decide +kernel
theorem d_Y_insert_32 : decode prog_11_method_23_code 32 = .ok (.if_icmp .ge 49, 3) := by decide +kernel
theorem d_Y_insert_35 : decode prog_11_method_23_code 35 = .ok (.aload_n 0, 1) := by decide +kernel
theorem d_Y_insert_36 : decode prog_11_method_23_code 36 = .ok (.getfield 47, 3) := by decide +kernel
theorem d_Y_insert_39 : decode prog_11_method_23_code 39 = .ok (.iload_n 2, 1) := by decide +kernel
theorem d_Y_insert_40 : decode prog_11_method_23_code 40 = .ok (.iaload, 1) := by decide +kernel
theorem d_Y_insert_41 : decode prog_11_method_23_code 41 = .ok (.iconst 3, 1) := by decide +kernel
theorem d_Y_insert_42 : decode prog_11_method_23_code 42 = .ok (.if_icmp .ne 33, 3) := by decide +kernel
theorem d_Y_insert_45 : decode prog_11_method_23_code 45 = .ok (.aload_n 0, 1) := by decide +kernel
theorem d_Y_insert_46 : decode prog_11_method_23_code 46 = .ok (.iload_n 2, 1) := by decide +kernel
theorem d_Y_insert_47 : decode prog_11_method_23_code 47 = .ok (.invokevirtual 92, 3) := by decide +kernel
theorem d_Y_insert_50 : decode prog_11_method_23_code 50 = .ok (.aload_n 0, 1) := by decide +kernel
theorem d_Y_insert_51 : decode prog_11_method_23_code 51 = .ok (.getfield 175, 3) := by decide +kernel
theorem d_Y_insert_54 : decode prog_11_method_23_code 54 = .ok (.if_icmp .gt 21, 3) := by decide +kernel
theorem d_Y_insert_57 : decode prog_11_method_23_code 57 = .ok (.aload_n 0, 1) := by decide +kernel
theorem d_Y_insert_58 : decode prog_11_method_23_code 58 = .ok (.iload_n 2, 1) := by decide +kernel
theorem d_Y_insert_59 : decode prog_11_method_23_code 59 = .ok (.invokevirtual 178, 3) := by decide +kernel
theorem d_Y_insert_62 : decode prog_11_method_23_code 62 = .ok (.istore_n 3, 1) := by decide +kernel
theorem d_Y_insert_63 : decode prog_11_method_23_code 63 = .ok (.iload_n 3, 1) := by decide +kernel
theorem d_Y_insert_64 : decode prog_11_method_23_code 64 = .ok (.ifCond .le 9, 3) := by decide +kernel
theorem d_Y_insert_67 : decode prog_11_method_23_code 67 = .ok (.iload_n 1, 1) := by decide +kernel
theorem d_Y_insert_68 : decode prog_11_method_23_code 68 = .ok (.iconst 1, 1) := by decide +kernel
theorem d_Y_insert_69 : decode prog_11_method_23_code 69 = .ok (.iadd, 1) := by decide +kernel
theorem d_Y_insert_70 : decode prog_11_method_23_code 70 = .ok (.goto 4, 3) := by decide +kernel
theorem d_Y_insert_73 : decode prog_11_method_23_code 73 = .ok (.iload_n 1, 1) := by decide +kernel
theorem d_Y_insert_74 : decode prog_11_method_23_code 74 = .ok (.istore_n 1, 1) := by decide +kernel
theorem d_Y_insert_75 : decode prog_11_method_23_code 75 = .ok (.iinc 2 1, 3) := by decide +kernel
theorem d_Y_insert_78 : decode prog_11_method_23_code 78 = .ok (.goto (-51), 3) := by decide +kernel
theorem d_Y_insert_81 : decode prog_11_method_23_code 81 = .ok (.iload_n 1, 1) := by decide +kernel
theorem d_Y_insert_82 : decode prog_11_method_23_code 82 = .ok (.ireturn, 1) := by decide +kernel
theorem d_Y_report_0 : decode prog_11_method_24_code 0 = .ok (.aload_n 0, 1) := by decide +kernel
theorem d_Y_report_1 : decode prog_11_method_24_code 1 = .ok (.aload_n 0, 1) := by decide +kernel
theorem d_Y_report_2 : decode prog_11_method_24_code 2 = .ok (.getfield 110, 3) := by decide +kernel
theorem d_Y_report_5 : decode prog_11_method_24_code 5 = .ok (.invokevirtual 124, 3) := by decide +kernel
theorem d_Y_report_8 : decode prog_11_method_24_code 8 = .ok (.istore_n 1, 1) := by decide +kernel
theorem d_Y_report_9 : decode prog_11_method_24_code 9 = .ok (.aload_n 0, 1) := by decide +kernel
theorem d_Y_report_10 : decode prog_11_method_24_code 10 = .ok (.getfield 175, 3) := by decide +kernel
theorem d_Y_report_13 : decode prog_11_method_24_code 13 = .ok (.iload_n 1, 1) := by decide +kernel
theorem d_Y_report_14 : decode prog_11_method_24_code 14 = .ok (.if_icmp .gt 5, 3) := by decide +kernel
theorem d_Y_report_17 : decode prog_11_method_24_code 17 = .ok (.iconst 0, 1) := by decide +kernel
theorem d_Y_report_18 : decode prog_11_method_24_code 18 = .ok (.ireturn, 1) := by decide +kernel
theorem d_Y_report_19 : decode prog_11_method_24_code 19 = .ok (.aload_n 0, 1) := by decide +kernel
theorem d_Y_report_20 : decode prog_11_method_24_code 20 = .ok (.iconst 2, 1) := by decide +kernel
theorem d_Y_report_21 : decode prog_11_method_24_code 21 = .ok (.aload_n 0, 1) := by decide +kernel
theorem d_Y_report_22 : decode prog_11_method_24_code 22 = .ok (.getfield 175, 3) := by decide +kernel
theorem d_Y_report_25 : decode prog_11_method_24_code 25 = .ok (.iload_n 1, 1) := by decide +kernel
theorem d_Y_report_26 : decode prog_11_method_24_code 26 = .ok (.isub, 1) := by decide +kernel
theorem d_Y_report_27 : decode prog_11_method_24_code 27 = .ok (.invokevirtual 171, 3) := by decide +kernel
theorem d_Y_report_30 : decode prog_11_method_24_code 30 = .ok (.iconst 1, 1) := by decide +kernel
theorem d_Y_report_31 : decode prog_11_method_24_code 31 = .ok (.ireturn, 1) := by decide +kernel
theorem d_Y_notice_0 : decode prog_11_method_25_code 0 = .ok (.aload_n 0, 1) := by decide +kernel
theorem d_Y_notice_1 : decode prog_11_method_25_code 1 = .ok (.getfield 144, 3) := by decide +kernel
theorem d_Y_notice_4 : decode prog_11_method_25_code 4 = .ok (.ifCond .eq 10, 3) := by decide +kernel
theorem d_Y_notice_7 : decode prog_11_method_25_code 7 = .ok (.aload_n 0, 1) := by decide +kernel
theorem d_Y_notice_8 : decode prog_11_method_25_code 8 = .ok (.getfield 164, 3) := by decide +kernel
theorem d_Y_notice_11 : decode prog_11_method_25_code 11 = .ok (.ifCond .eq 5, 3) := by decide +kernel
theorem d_Y_notice_14 : decode prog_11_method_25_code 14 = .ok (.iconst (-1), 1) := by decide +kernel
theorem d_Y_notice_15 : decode prog_11_method_25_code 15 = .ok (.ireturn, 1) := by decide +kernel
theorem d_Y_notice_16 : decode prog_11_method_25_code 16 = .ok (.aload_n 0, 1) := by decide +kernel
theorem d_Y_notice_17 : decode prog_11_method_25_code 17 = .ok (.iconst 1, 1) := by decide +kernel
theorem d_Y_notice_18 : decode prog_11_method_25_code 18 = .ok (.putfield 164, 3) := by decide +kernel
theorem d_Y_notice_21 : decode prog_11_method_25_code 21 = .ok (.iconst 0, 1) := by decide +kernel
theorem d_Y_notice_22 : decode prog_11_method_25_code 22 = .ok (.istore_n 1, 1) := by decide +kernel
theorem d_Y_notice_23 : decode prog_11_method_25_code 23 = .ok (.aload_n 0, 1) := by decide +kernel
theorem d_Y_notice_24 : decode prog_11_method_25_code 24 = .ok (.getfield 148, 3) := by decide +kernel
theorem d_Y_notice_27 : decode prog_11_method_25_code 27 = .ok (.istore_n 2, 1) := by decide +kernel
theorem d_Y_notice_28 : decode prog_11_method_25_code 28 = .ok (.iload_n 2, 1) := by decide +kernel
theorem d_Y_notice_29 : decode prog_11_method_25_code 29 = .ok (.aload_n 0, 1) := by decide +kernel
theorem d_Y_notice_30 : decode prog_11_method_25_code 30 = .ok (.getfield 100, 3) := by decide +kernel
theorem d_Y_notice_33 : decode prog_11_method_25_code 33 = .ok (.if_icmp .ge 36, 3) := by decide +kernel
theorem d_Y_notice_36 : decode prog_11_method_25_code 36 = .ok (.aload_n 0, 1) := by decide +kernel
theorem d_Y_notice_37 : decode prog_11_method_25_code 37 = .ok (.getfield 29, 3) := by decide +kernel
theorem d_Y_notice_40 : decode prog_11_method_25_code 40 = .ok (.iload_n 2, 1) := by decide +kernel
theorem d_Y_notice_41 : decode prog_11_method_25_code 41 = .ok (.iaload, 1) := by decide +kernel
theorem d_Y_notice_42 : decode prog_11_method_25_code 42 = .ok (.ifCond .ne 21, 3) := by decide +kernel
theorem d_Y_notice_45 : decode prog_11_method_25_code 45 = .ok (.aload_n 0, 1) := by decide +kernel
theorem d_Y_notice_46 : decode prog_11_method_25_code 46 = .ok (.getfield 29, 3) := by decide +kernel
theorem d_Y_notice_49 : decode prog_11_method_25_code 49 = .ok (.iload_n 2, 1) := by decide +kernel
theorem d_Y_notice_50 : decode prog_11_method_25_code 50 = .ok (.bipush 7, 2) := by decide +kernel
theorem d_Y_notice_52 : decode prog_11_method_25_code 52 = .ok (.iastore, 1) := by decide +kernel
theorem d_Y_notice_53 : decode prog_11_method_25_code 53 = .ok (.aload_n 0, 1) := by decide +kernel
theorem d_Y_notice_54 : decode prog_11_method_25_code 54 = .ok (.getfield 47, 3) := by decide +kernel
theorem d_Y_notice_57 : decode prog_11_method_25_code 57 = .ok (.iload_n 2, 1) := by decide +kernel
theorem d_Y_notice_58 : decode prog_11_method_25_code 58 = .ok (.iconst 0, 1) := by decide +kernel
theorem d_Y_notice_59 : decode prog_11_method_25_code 59 = .ok (.iastore, 1) := by decide +kernel
theorem d_Y_notice_60 : decode prog_11_method_25_code 60 = .ok (.iinc 1 1, 3) := by decide +kernel
theorem d_Y_notice_63 : decode prog_11_method_25_code 63 = .ok (.iinc 2 1, 3) := by decide +kernel
theorem d_Y_notice_66 : decode prog_11_method_25_code 66 = .ok (.goto (-38), 3) := by decide +kernel
theorem d_Y_notice_69 : decode prog_11_method_25_code 69 = .ok (.iload_n 1, 1) := by decide +kernel
theorem d_Y_notice_70 : decode prog_11_method_25_code 70 = .ok (.ireturn, 1) := by decide +kernel
theorem d_Y_cancel_0 : decode prog_11_method_26_code 0 = .ok (.iload_n 1, 1) := by decide +kernel
theorem d_Y_cancel_1 : decode prog_11_method_26_code 1 = .ok (.aload_n 0, 1) := by decide +kernel
theorem d_Y_cancel_2 : decode prog_11_method_26_code 2 = .ok (.getfield 100, 3) := by decide +kernel
theorem d_Y_cancel_5 : decode prog_11_method_26_code 5 = .ok (.iconst 1, 1) := by decide +kernel
theorem d_Y_cancel_6 : decode prog_11_method_26_code 6 = .ok (.isub, 1) := by decide +kernel
theorem d_Y_cancel_7 : decode prog_11_method_26_code 7 = .ok (.invokestatic 116, 3) := by decide +kernel
theorem d_Y_cancel_10 : decode prog_11_method_26_code 10 = .ok (.ifCond .eq 12, 3) := by decide +kernel
theorem d_Y_cancel_13 : decode prog_11_method_26_code 13 = .ok (.aload_n 0, 1) := by decide +kernel
theorem d_Y_cancel_14 : decode prog_11_method_26_code 14 = .ok (.getfield 29, 3) := by decide +kernel
theorem d_Y_cancel_17 : decode prog_11_method_26_code 17 = .ok (.iload_n 1, 1) := by decide +kernel
theorem d_Y_cancel_18 : decode prog_11_method_26_code 18 = .ok (.iaload, 1) := by decide +kernel
theorem d_Y_cancel_19 : decode prog_11_method_26_code 19 = .ok (.ifCond .eq 5, 3) := by decide +kernel
theorem d_Y_cancel_22 : decode prog_11_method_26_code 22 = .ok (.iconst 0, 1) := by decide +kernel
theorem d_Y_cancel_23 : decode prog_11_method_26_code 23 = .ok (.ireturn, 1) := by decide +kernel
theorem d_Y_cancel_24 : decode prog_11_method_26_code 24 = .ok (.aload_n 0, 1) := by decide +kernel
theorem d_Y_cancel_25 : decode prog_11_method_26_code 25 = .ok (.getfield 29, 3) := by decide +kernel
theorem d_Y_cancel_28 : decode prog_11_method_26_code 28 = .ok (.iload_n 1, 1) := by decide +kernel
theorem d_Y_cancel_29 : decode prog_11_method_26_code 29 = .ok (.bipush 6, 2) := by decide +kernel
theorem d_Y_cancel_31 : decode prog_11_method_26_code 31 = .ok (.iastore, 1) := by decide +kernel
theorem d_Y_cancel_32 : decode prog_11_method_26_code 32 = .ok (.aload_n 0, 1) := by decide +kernel
theorem d_Y_cancel_33 : decode prog_11_method_26_code 33 = .ok (.getfield 47, 3) := by decide +kernel
theorem d_Y_cancel_36 : decode prog_11_method_26_code 36 = .ok (.iload_n 1, 1) := by decide +kernel
theorem d_Y_cancel_37 : decode prog_11_method_26_code 37 = .ok (.iconst 0, 1) := by decide +kernel
theorem d_Y_cancel_38 : decode prog_11_method_26_code 38 = .ok (.iastore, 1) := by decide +kernel
theorem d_Y_cancel_39 : decode prog_11_method_26_code 39 = .ok (.aload_n 0, 1) := by decide +kernel
theorem d_Y_cancel_40 : decode prog_11_method_26_code 40 = .ok (.iconst 1, 1) := by decide +kernel
theorem d_Y_cancel_41 : decode prog_11_method_26_code 41 = .ok (.iload_n 1, 1) := by decide +kernel
theorem d_Y_cancel_42 : decode prog_11_method_26_code 42 = .ok (.invokevirtual 171, 3) := by decide +kernel
theorem d_Y_cancel_45 : decode prog_11_method_26_code 45 = .ok (.iconst 1, 1) := by decide +kernel
theorem d_Y_cancel_46 : decode prog_11_method_26_code 46 = .ok (.ireturn, 1) := by decide +kernel
theorem d_Y_tick_0 : decode prog_11_method_27_code 0 = .ok (.iload_n 1, 1) := by decide +kernel
theorem d_Y_tick_1 : decode prog_11_method_27_code 1 = .ok (.sipush 1000, 3) := by decide +kernel
theorem d_Y_tick_4 : decode prog_11_method_27_code 4 = .ok (.invokestatic 116, 3) := by decide +kernel
theorem d_Y_tick_7 : decode prog_11_method_27_code 7 = .ok (.ifCond .ne 5, 3) := by decide +kernel
theorem d_Y_tick_10 : decode prog_11_method_27_code 10 = .ok (.iconst 0, 1) := by decide +kernel
theorem d_Y_tick_11 : decode prog_11_method_27_code 11 = .ok (.ireturn, 1) := by decide +kernel
theorem d_Y_tick_12 : decode prog_11_method_27_code 12 = .ok (.aload_n 0, 1) := by decide +kernel
theorem d_Y_tick_13 : decode prog_11_method_27_code 13 = .ok (.aload_n 0, 1) := by decide +kernel
theorem d_Y_tick_14 : decode prog_11_method_27_code 14 = .ok (.getfield 161, 3) := by decide +kernel
theorem d_Y_tick_17 : decode prog_11_method_27_code 17 = .ok (.iload_n 1, 1) := by decide +kernel
theorem d_Y_tick_18 : decode prog_11_method_27_code 18 = .ok (.iadd, 1) := by decide +kernel
theorem d_Y_tick_19 : decode prog_11_method_27_code 19 = .ok (.putfield 161, 3) := by decide +kernel
theorem d_Y_tick_22 : decode prog_11_method_27_code 22 = .ok (.iconst 1, 1) := by decide +kernel
theorem d_Y_tick_23 : decode prog_11_method_27_code 23 = .ok (.ireturn, 1) := by decide +kernel
theorem d_Y_outcome_0 : decode prog_11_method_28_code 0 = .ok (.iload_n 1, 1) := by decide +kernel
theorem d_Y_outcome_1 : decode prog_11_method_28_code 1 = .ok (.aload_n 0, 1) := by decide +kernel
theorem d_Y_outcome_2 : decode prog_11_method_28_code 2 = .ok (.getfield 100, 3) := by decide +kernel
theorem d_Y_outcome_5 : decode prog_11_method_28_code 5 = .ok (.iconst 1, 1) := by decide +kernel
theorem d_Y_outcome_6 : decode prog_11_method_28_code 6 = .ok (.isub, 1) := by decide +kernel
theorem d_Y_outcome_7 : decode prog_11_method_28_code 7 = .ok (.invokestatic 116, 3) := by decide +kernel
theorem d_Y_outcome_10 : decode prog_11_method_28_code 10 = .ok (.ifCond .eq 12, 3) := by decide +kernel
theorem d_Y_outcome_13 : decode prog_11_method_28_code 13 = .ok (.aload_n 0, 1) := by decide +kernel
theorem d_Y_outcome_14 : decode prog_11_method_28_code 14 = .ok (.getfield 29, 3) := by decide +kernel
theorem d_Y_outcome_17 : decode prog_11_method_28_code 17 = .ok (.iload_n 1, 1) := by decide +kernel
theorem d_Y_outcome_18 : decode prog_11_method_28_code 18 = .ok (.iaload, 1) := by decide +kernel
theorem d_Y_outcome_19 : decode prog_11_method_28_code 19 = .ok (.goto 4, 3) := by decide +kernel
theorem d_Y_outcome_22 : decode prog_11_method_28_code 22 = .ok (.iconst (-1), 1) := by decide +kernel
theorem d_Y_outcome_23 : decode prog_11_method_28_code 23 = .ok (.ireturn, 1) := by decide +kernel
theorem d_Y_content_0 : decode prog_11_method_29_code 0 = .ok (.iload_n 1, 1) := by decide +kernel
theorem d_Y_content_1 : decode prog_11_method_29_code 1 = .ok (.aload_n 0, 1) := by decide +kernel
theorem d_Y_content_2 : decode prog_11_method_29_code 2 = .ok (.getfield 100, 3) := by decide +kernel
theorem d_Y_content_5 : decode prog_11_method_29_code 5 = .ok (.iconst 1, 1) := by decide +kernel
theorem d_Y_content_6 : decode prog_11_method_29_code 6 = .ok (.isub, 1) := by decide +kernel
theorem d_Y_content_7 : decode prog_11_method_29_code 7 = .ok (.invokestatic 116, 3) := by decide +kernel
theorem d_Y_content_10 : decode prog_11_method_29_code 10 = .ok (.ifCond .ne 5, 3) := by decide +kernel
theorem d_Y_content_13 : decode prog_11_method_29_code 13 = .ok (.iconst (-1), 1) := by decide +kernel
theorem d_Y_content_14 : decode prog_11_method_29_code 14 = .ok (.ireturn, 1) := by decide +kernel
theorem d_Y_content_15 : decode prog_11_method_29_code 15 = .ok (.aload_n 0, 1) := by decide +kernel
theorem d_Y_content_16 : decode prog_11_method_29_code 16 = .ok (.getfield 29, 3) := by decide +kernel
theorem d_Y_content_19 : decode prog_11_method_29_code 19 = .ok (.iload_n 1, 1) := by decide +kernel
theorem d_Y_content_20 : decode prog_11_method_29_code 20 = .ok (.iaload, 1) := by decide +kernel
theorem d_Y_content_21 : decode prog_11_method_29_code 21 = .ok (.istore_n 2, 1) := by decide +kernel
theorem d_Y_content_22 : decode prog_11_method_29_code 22 = .ok (.iload_n 2, 1) := by decide +kernel
theorem d_Y_content_23 : decode prog_11_method_29_code 23 = .ok (.iconst 1, 1) := by decide +kernel
theorem d_Y_content_24 : decode prog_11_method_29_code 24 = .ok (.if_icmp .eq 14, 3) := by decide +kernel
theorem d_Y_content_27 : decode prog_11_method_29_code 27 = .ok (.iload_n 2, 1) := by decide +kernel
theorem d_Y_content_28 : decode prog_11_method_29_code 28 = .ok (.iconst 2, 1) := by decide +kernel
theorem d_Y_content_29 : decode prog_11_method_29_code 29 = .ok (.if_icmp .eq 9, 3) := by decide +kernel
theorem d_Y_content_32 : decode prog_11_method_29_code 32 = .ok (.iload_n 2, 1) := by decide +kernel
theorem d_Y_content_33 : decode prog_11_method_29_code 33 = .ok (.bipush 8, 2) := by decide +kernel
theorem d_Y_content_35 : decode prog_11_method_29_code 35 = .ok (.if_icmp .ne 12, 3) := by decide +kernel
theorem d_Y_content_38 : decode prog_11_method_29_code 38 = .ok (.aload_n 0, 1) := by decide +kernel
theorem d_Y_content_39 : decode prog_11_method_29_code 39 = .ok (.getfield 44, 3) := by decide +kernel
theorem d_Y_content_42 : decode prog_11_method_29_code 42 = .ok (.iload_n 1, 1) := by decide +kernel
theorem d_Y_content_43 : decode prog_11_method_29_code 43 = .ok (.iaload, 1) := by decide +kernel
theorem d_Y_content_44 : decode prog_11_method_29_code 44 = .ok (.goto 4, 3) := by decide +kernel
theorem d_Y_content_47 : decode prog_11_method_29_code 47 = .ok (.iconst 0, 1) := by decide +kernel
theorem d_Y_content_48 : decode prog_11_method_29_code 48 = .ok (.ireturn, 1) := by decide +kernel
theorem d_Y_stored_0 : decode prog_11_method_30_code 0 = .ok (.iload_n 1, 1) := by decide +kernel
theorem d_Y_stored_1 : decode prog_11_method_30_code 1 = .ok (.iconst 5, 1) := by decide +kernel
theorem d_Y_stored_2 : decode prog_11_method_30_code 2 = .ok (.invokestatic 116, 3) := by decide +kernel
theorem d_Y_stored_5 : decode prog_11_method_30_code 5 = .ok (.ifCond .eq 20, 3) := by decide +kernel
theorem d_Y_stored_8 : decode prog_11_method_30_code 8 = .ok (.iload_n 2, 1) := by decide +kernel
theorem d_Y_stored_9 : decode prog_11_method_30_code 9 = .ok (.iconst 3, 1) := by decide +kernel
theorem d_Y_stored_10 : decode prog_11_method_30_code 10 = .ok (.invokestatic 116, 3) := by decide +kernel
theorem d_Y_stored_13 : decode prog_11_method_30_code 13 = .ok (.ifCond .eq 12, 3) := by decide +kernel
theorem d_Y_stored_16 : decode prog_11_method_30_code 16 = .ok (.aload_n 0, 1) := by decide +kernel
theorem d_Y_stored_17 : decode prog_11_method_30_code 17 = .ok (.getfield 65, 3) := by decide +kernel
theorem d_Y_stored_20 : decode prog_11_method_30_code 20 = .ok (.iload_n 1, 1) := by decide +kernel
theorem d_Y_stored_21 : decode prog_11_method_30_code 21 = .ok (.iaload, 1) := by decide +kernel
theorem d_Y_stored_22 : decode prog_11_method_30_code 22 = .ok (.ifCond .ge 5, 3) := by decide +kernel
theorem d_Y_stored_25 : decode prog_11_method_30_code 25 = .ok (.iconst (-1), 1) := by decide +kernel
theorem d_Y_stored_26 : decode prog_11_method_30_code 26 = .ok (.ireturn, 1) := by decide +kernel
theorem d_Y_stored_27 : decode prog_11_method_30_code 27 = .ok (.aload_n 0, 1) := by decide +kernel
theorem d_Y_stored_28 : decode prog_11_method_30_code 28 = .ok (.getfield 74, 3) := by decide +kernel
theorem d_Y_stored_31 : decode prog_11_method_30_code 31 = .ok (.iload_n 1, 1) := by decide +kernel
theorem d_Y_stored_32 : decode prog_11_method_30_code 32 = .ok (.iaload, 1) := by decide +kernel
theorem d_Y_stored_33 : decode prog_11_method_30_code 33 = .ok (.aload_n 0, 1) := by decide +kernel
theorem d_Y_stored_34 : decode prog_11_method_30_code 34 = .ok (.getfield 161, 3) := by decide +kernel
theorem d_Y_stored_37 : decode prog_11_method_30_code 37 = .ok (.aload_n 0, 1) := by decide +kernel
theorem d_Y_stored_38 : decode prog_11_method_30_code 38 = .ok (.getfield 77, 3) := by decide +kernel
theorem d_Y_stored_41 : decode prog_11_method_30_code 41 = .ok (.iload_n 1, 1) := by decide +kernel
theorem d_Y_stored_42 : decode prog_11_method_30_code 42 = .ok (.iaload, 1) := by decide +kernel
theorem d_Y_stored_43 : decode prog_11_method_30_code 43 = .ok (.isub, 1) := by decide +kernel
theorem d_Y_stored_44 : decode prog_11_method_30_code 44 = .ok (.isub, 1) := by decide +kernel
theorem d_Y_stored_45 : decode prog_11_method_30_code 45 = .ok (.istore_n 3, 1) := by decide +kernel
theorem d_Y_stored_46 : decode prog_11_method_30_code 46 = .ok (.iload_n 2, 1) := by decide +kernel
theorem d_Y_stored_47 : decode prog_11_method_30_code 47 = .ok (.ifCond .ne 12, 3) := by decide +kernel
theorem d_Y_stored_50 : decode prog_11_method_30_code 50 = .ok (.aload_n 0, 1) := by decide +kernel
theorem d_Y_stored_51 : decode prog_11_method_30_code 51 = .ok (.getfield 68, 3) := by decide +kernel
theorem d_Y_stored_54 : decode prog_11_method_30_code 54 = .ok (.iload_n 1, 1) := by decide +kernel
theorem d_Y_stored_55 : decode prog_11_method_30_code 55 = .ok (.iaload, 1) := by decide +kernel
theorem d_Y_stored_56 : decode prog_11_method_30_code 56 = .ok (.goto 40, 3) := by decide +kernel
theorem d_Y_stored_59 : decode prog_11_method_30_code 59 = .ok (.iload_n 2, 1) := by decide +kernel
theorem d_Y_stored_60 : decode prog_11_method_30_code 60 = .ok (.iconst 1, 1) := by decide +kernel
theorem d_Y_stored_61 : decode prog_11_method_30_code 61 = .ok (.if_icmp .ne 12, 3) := by decide +kernel
theorem d_Y_stored_64 : decode prog_11_method_30_code 64 = .ok (.aload_n 0, 1) := by decide +kernel
theorem d_Y_stored_65 : decode prog_11_method_30_code 65 = .ok (.getfield 71, 3) := by decide +kernel
theorem d_Y_stored_68 : decode prog_11_method_30_code 68 = .ok (.iload_n 1, 1) := by decide +kernel
theorem d_Y_stored_69 : decode prog_11_method_30_code 69 = .ok (.iaload, 1) := by decide +kernel
theorem d_Y_stored_70 : decode prog_11_method_30_code 70 = .ok (.goto 26, 3) := by decide +kernel
theorem d_Y_stored_73 : decode prog_11_method_30_code 73 = .ok (.iload_n 2, 1) := by decide +kernel
theorem d_Y_stored_74 : decode prog_11_method_30_code 74 = .ok (.iconst 2, 1) := by decide +kernel
theorem d_Y_stored_75 : decode prog_11_method_30_code 75 = .ok (.if_icmp .ne 12, 3) := by decide +kernel
theorem d_Y_stored_78 : decode prog_11_method_30_code 78 = .ok (.aload_n 0, 1) := by decide +kernel
theorem d_Y_stored_79 : decode prog_11_method_30_code 79 = .ok (.getfield 65, 3) := by decide +kernel
theorem d_Y_stored_82 : decode prog_11_method_30_code 82 = .ok (.iload_n 1, 1) := by decide +kernel
theorem d_Y_stored_83 : decode prog_11_method_30_code 83 = .ok (.iaload, 1) := by decide +kernel
theorem d_Y_stored_84 : decode prog_11_method_30_code 84 = .ok (.goto 12, 3) := by decide +kernel
theorem d_Y_stored_87 : decode prog_11_method_30_code 87 = .ok (.iload_n 3, 1) := by decide +kernel
theorem d_Y_stored_88 : decode prog_11_method_30_code 88 = .ok (.ifCond .le 7, 3) := by decide +kernel
theorem d_Y_stored_91 : decode prog_11_method_30_code 91 = .ok (.iload_n 3, 1) := by decide +kernel
theorem d_Y_stored_92 : decode prog_11_method_30_code 92 = .ok (.goto 4, 3) := by decide +kernel
theorem d_Y_stored_95 : decode prog_11_method_30_code 95 = .ok (.iconst 0, 1) := by decide +kernel
theorem d_Y_stored_96 : decode prog_11_method_30_code 96 = .ok (.ireturn, 1) := by decide +kernel
theorem d_Y_entry_0 : decode prog_11_method_31_code 0 = .ok (.iload_n 1, 1) := by decide +kernel
theorem d_Y_entry_1 : decode prog_11_method_31_code 1 = .ok (.aload_n 0, 1) := by decide +kernel
theorem d_Y_entry_2 : decode prog_11_method_31_code 2 = .ok (.getfield 107, 3) := by decide +kernel
theorem d_Y_entry_5 : decode prog_11_method_31_code 5 = .ok (.aload_n 0, 1) := by decide +kernel
theorem d_Y_entry_6 : decode prog_11_method_31_code 6 = .ok (.invokevirtual 131, 3) := by decide +kernel
theorem d_Y_entry_9 : decode prog_11_method_31_code 9 = .ok (.isub, 1) := by decide +kernel
theorem d_Y_entry_10 : decode prog_11_method_31_code 10 = .ok (.iconst 1, 1) := by decide +kernel
theorem d_Y_entry_11 : decode prog_11_method_31_code 11 = .ok (.isub, 1) := by decide +kernel
theorem d_Y_entry_12 : decode prog_11_method_31_code 12 = .ok (.invokestatic 116, 3) := by decide +kernel
theorem d_Y_entry_15 : decode prog_11_method_31_code 15 = .ok (.ifCond .eq 11, 3) := by decide +kernel
theorem d_Y_entry_18 : decode prog_11_method_31_code 18 = .ok (.iload_n 2, 1) := by decide +kernel
theorem d_Y_entry_19 : decode prog_11_method_31_code 19 = .ok (.iconst 2, 1) := by decide +kernel
theorem d_Y_entry_20 : decode prog_11_method_31_code 20 = .ok (.invokestatic 116, 3) := by decide +kernel
theorem d_Y_entry_23 : decode prog_11_method_31_code 23 = .ok (.ifCond .ne 5, 3) := by decide +kernel
theorem d_Y_entry_26 : decode prog_11_method_31_code 26 = .ok (.iconst (-1), 1) := by decide +kernel
theorem d_Y_entry_27 : decode prog_11_method_31_code 27 = .ok (.ireturn, 1) := by decide +kernel
theorem d_Y_entry_28 : decode prog_11_method_31_code 28 = .ok (.aload_n 0, 1) := by decide +kernel
theorem d_Y_entry_29 : decode prog_11_method_31_code 29 = .ok (.getfield 107, 3) := by decide +kernel
theorem d_Y_entry_32 : decode prog_11_method_31_code 32 = .ok (.iconst 1, 1) := by decide +kernel
theorem d_Y_entry_33 : decode prog_11_method_31_code 33 = .ok (.isub, 1) := by decide +kernel
theorem d_Y_entry_34 : decode prog_11_method_31_code 34 = .ok (.iload_n 1, 1) := by decide +kernel
theorem d_Y_entry_35 : decode prog_11_method_31_code 35 = .ok (.isub, 1) := by decide +kernel
theorem d_Y_entry_36 : decode prog_11_method_31_code 36 = .ok (.istore_n 3, 1) := by decide +kernel
theorem d_Y_entry_37 : decode prog_11_method_31_code 37 = .ok (.iload_n 2, 1) := by decide +kernel
theorem d_Y_entry_38 : decode prog_11_method_31_code 38 = .ok (.ifCond .ne 12, 3) := by decide +kernel
theorem d_Y_entry_41 : decode prog_11_method_31_code 41 = .ok (.aload_n 0, 1) := by decide +kernel
theorem d_Y_entry_42 : decode prog_11_method_31_code 42 = .ok (.getfield 80, 3) := by decide +kernel
theorem d_Y_entry_45 : decode prog_11_method_31_code 45 = .ok (.iload_n 3, 1) := by decide +kernel
theorem d_Y_entry_46 : decode prog_11_method_31_code 46 = .ok (.iaload, 1) := by decide +kernel
theorem d_Y_entry_47 : decode prog_11_method_31_code 47 = .ok (.goto 23, 3) := by decide +kernel
theorem d_Y_entry_50 : decode prog_11_method_31_code 50 = .ok (.iload_n 2, 1) := by decide +kernel
theorem d_Y_entry_51 : decode prog_11_method_31_code 51 = .ok (.iconst 1, 1) := by decide +kernel
theorem d_Y_entry_52 : decode prog_11_method_31_code 52 = .ok (.if_icmp .ne 12, 3) := by decide +kernel
theorem d_Y_entry_55 : decode prog_11_method_31_code 55 = .ok (.aload_n 0, 1) := by decide +kernel
theorem d_Y_entry_56 : decode prog_11_method_31_code 56 = .ok (.getfield 83, 3) := by decide +kernel
theorem d_Y_entry_59 : decode prog_11_method_31_code 59 = .ok (.iload_n 3, 1) := by decide +kernel
theorem d_Y_entry_60 : decode prog_11_method_31_code 60 = .ok (.iaload, 1) := by decide +kernel
theorem d_Y_entry_61 : decode prog_11_method_31_code 61 = .ok (.goto 9, 3) := by decide +kernel
theorem d_Y_entry_64 : decode prog_11_method_31_code 64 = .ok (.aload_n 0, 1) := by decide +kernel
theorem d_Y_entry_65 : decode prog_11_method_31_code 65 = .ok (.iload_n 3, 1) := by decide +kernel
theorem d_Y_entry_66 : decode prog_11_method_31_code 66 = .ok (.iconst (-1), 1) := by decide +kernel
theorem d_Y_entry_67 : decode prog_11_method_31_code 67 = .ok (.invokevirtual 135, 3) := by decide +kernel
theorem d_Y_entry_70 : decode prog_11_method_31_code 70 = .ok (.ireturn, 1) := by decide +kernel
theorem d_Y_count_0 : decode prog_11_method_32_code 0 = .ok (.iconst 0, 1) := by decide +kernel
theorem d_Y_count_1 : decode prog_11_method_32_code 1 = .ok (.istore_n 2, 1) := by decide +kernel
theorem d_Y_count_2 : decode prog_11_method_32_code 2 = .ok (.iconst 0, 1) := by decide +kernel
theorem d_Y_count_3 : decode prog_11_method_32_code 3 = .ok (.istore_n 3, 1) := by decide +kernel
theorem d_Y_count_4 : decode prog_11_method_32_code 4 = .ok (.iconst 0, 1) := by decide +kernel
theorem d_Y_count_5 : decode prog_11_method_32_code 5 = .ok (.istore 4, 2) := by decide +kernel
theorem d_Y_count_7 : decode prog_11_method_32_code 7 = .ok (.iload 4, 2) := by decide +kernel
theorem d_Y_count_9 : decode prog_11_method_32_code 9 = .ok (.aload_n 0, 1) := by decide +kernel
theorem d_Y_count_10 : decode prog_11_method_32_code 10 = .ok (.getfield 100, 3) := by decide +kernel
theorem d_Y_count_13 : decode prog_11_method_32_code 13 = .ok (.if_icmp .ge 45, 3) := by decide +kernel
theorem d_Y_count_16 : decode prog_11_method_32_code 16 = .ok (.aload_n 0, 1) := by decide +kernel
theorem d_Y_count_17 : decode prog_11_method_32_code 17 = .ok (.getfield 47, 3) := by decide +kernel
theorem d_Y_count_20 : decode prog_11_method_32_code 20 = .ok (.iload 4, 2) := by decide +kernel
theorem d_Y_count_22 : decode prog_11_method_32_code 22 = .ok (.iaload, 1) := by decide +kernel
theorem d_Y_count_23 : decode prog_11_method_32_code 23 = .ok (.iconst 3, 1) := by decide +kernel
theorem d_Y_count_24 : decode prog_11_method_32_code 24 = .ok (.if_icmp .ne 9, 3) := by decide +kernel
theorem d_Y_count_27 : decode prog_11_method_32_code 27 = .ok (.iload_n 2, 1) := by decide +kernel
theorem d_Y_count_28 : decode prog_11_method_32_code 28 = .ok (.iconst 1, 1) := by decide +kernel
theorem d_Y_count_29 : decode prog_11_method_32_code 29 = .ok (.iadd, 1) := by decide +kernel
theorem d_Y_count_30 : decode prog_11_method_32_code 30 = .ok (.goto 4, 3) := by decide +kernel
theorem d_Y_count_33 : decode prog_11_method_32_code 33 = .ok (.iload_n 2, 1) := by decide +kernel
theorem d_Y_count_34 : decode prog_11_method_32_code 34 = .ok (.istore_n 2, 1) := by decide +kernel
theorem d_Y_count_35 : decode prog_11_method_32_code 35 = .ok (.aload_n 0, 1) := by decide +kernel
theorem d_Y_count_36 : decode prog_11_method_32_code 36 = .ok (.iload 4, 2) := by decide +kernel
theorem d_Y_count_38 : decode prog_11_method_32_code 38 = .ok (.invokevirtual 103, 3) := by decide +kernel
theorem d_Y_count_41 : decode prog_11_method_32_code 41 = .ok (.ifCond .eq 9, 3) := by decide +kernel
theorem d_Y_count_44 : decode prog_11_method_32_code 44 = .ok (.iload_n 3, 1) := by decide +kernel
theorem d_Y_count_45 : decode prog_11_method_32_code 45 = .ok (.iconst 1, 1) := by decide +kernel
theorem d_Y_count_46 : decode prog_11_method_32_code 46 = .ok (.iadd, 1) := by decide +kernel
theorem d_Y_count_47 : decode prog_11_method_32_code 47 = .ok (.goto 4, 3) := by decide +kernel
theorem d_Y_count_50 : decode prog_11_method_32_code 50 = .ok (.iload_n 3, 1) := by decide +kernel
theorem d_Y_count_51 : decode prog_11_method_32_code 51 = .ok (.istore_n 3, 1) := by decide +kernel
theorem d_Y_count_52 : decode prog_11_method_32_code 52 = .ok (.iinc 4 1, 3) := by decide +kernel
theorem d_Y_count_55 : decode prog_11_method_32_code 55 = .ok (.goto (-48), 3) := by decide +kernel
theorem d_Y_count_58 : decode prog_11_method_32_code 58 = .ok (.iload_n 1, 1) := by decide +kernel
theorem d_Y_count_59 : decode prog_11_method_32_code 59 = .ok (.tableswitch 105 0 8 #[49, 54, 63, 68, 77, 82, 87, 89, 103], 49) := by decide +kernel
theorem d_Y_count_108 : decode prog_11_method_32_code 108 = .ok (.aload_n 0, 1) := by decide +kernel
theorem d_Y_count_109 : decode prog_11_method_32_code 109 = .ok (.getfield 107, 3) := by decide +kernel
theorem d_Y_count_112 : decode prog_11_method_32_code 112 = .ok (.ireturn, 1) := by decide +kernel
theorem d_Y_count_113 : decode prog_11_method_32_code 113 = .ok (.aload_n 0, 1) := by decide +kernel
theorem d_Y_count_114 : decode prog_11_method_32_code 114 = .ok (.aload_n 0, 1) := by decide +kernel
theorem d_Y_count_115 : decode prog_11_method_32_code 115 = .ok (.getfield 96, 3) := by decide +kernel
theorem d_Y_count_118 : decode prog_11_method_32_code 118 = .ok (.invokevirtual 124, 3) := by decide +kernel
theorem d_Y_count_121 : decode prog_11_method_32_code 121 = .ok (.ireturn, 1) := by decide +kernel
theorem d_Y_count_122 : decode prog_11_method_32_code 122 = .ok (.aload_n 0, 1) := by decide +kernel
theorem d_Y_count_123 : decode prog_11_method_32_code 123 = .ok (.getfield 175, 3) := by decide +kernel
theorem d_Y_count_126 : decode prog_11_method_32_code 126 = .ok (.ireturn, 1) := by decide +kernel
theorem d_Y_count_127 : decode prog_11_method_32_code 127 = .ok (.aload_n 0, 1) := by decide +kernel
theorem d_Y_count_128 : decode prog_11_method_32_code 128 = .ok (.aload_n 0, 1) := by decide +kernel
theorem d_Y_count_129 : decode prog_11_method_32_code 129 = .ok (.getfield 110, 3) := by decide +kernel
theorem d_Y_count_132 : decode prog_11_method_32_code 132 = .ok (.invokevirtual 124, 3) := by decide +kernel
theorem d_Y_count_135 : decode prog_11_method_32_code 135 = .ok (.ireturn, 1) := by decide +kernel
theorem d_Y_count_136 : decode prog_11_method_32_code 136 = .ok (.aload_n 0, 1) := by decide +kernel
theorem d_Y_count_137 : decode prog_11_method_32_code 137 = .ok (.getfield 141, 3) := by decide +kernel
theorem d_Y_count_140 : decode prog_11_method_32_code 140 = .ok (.ireturn, 1) := by decide +kernel
theorem d_Y_count_141 : decode prog_11_method_32_code 141 = .ok (.aload_n 0, 1) := by decide +kernel
theorem d_Y_count_142 : decode prog_11_method_32_code 142 = .ok (.getfield 138, 3) := by decide +kernel
theorem d_Y_count_145 : decode prog_11_method_32_code 145 = .ok (.ireturn, 1) := by decide +kernel
theorem d_Y_count_146 : decode prog_11_method_32_code 146 = .ok (.iload_n 3, 1) := by decide +kernel
theorem d_Y_count_147 : decode prog_11_method_32_code 147 = .ok (.ireturn, 1) := by decide +kernel
theorem d_Y_count_148 : decode prog_11_method_32_code 148 = .ok (.aload_n 0, 1) := by decide +kernel
theorem d_Y_count_149 : decode prog_11_method_32_code 149 = .ok (.aload_n 0, 1) := by decide +kernel
theorem d_Y_count_150 : decode prog_11_method_32_code 150 = .ok (.aload_n 0, 1) := by decide +kernel
theorem d_Y_count_151 : decode prog_11_method_32_code 151 = .ok (.getfield 96, 3) := by decide +kernel
theorem d_Y_count_154 : decode prog_11_method_32_code 154 = .ok (.invokevirtual 124, 3) := by decide +kernel
theorem d_Y_count_157 : decode prog_11_method_32_code 157 = .ok (.iconst (-1), 1) := by decide +kernel
theorem d_Y_count_158 : decode prog_11_method_32_code 158 = .ok (.invokevirtual 127, 3) := by decide +kernel
theorem d_Y_count_161 : decode prog_11_method_32_code 161 = .ok (.ireturn, 1) := by decide +kernel
theorem d_Y_count_162 : decode prog_11_method_32_code 162 = .ok (.iload_n 2, 1) := by decide +kernel
theorem d_Y_count_163 : decode prog_11_method_32_code 163 = .ok (.ireturn, 1) := by decide +kernel
theorem d_Y_count_164 : decode prog_11_method_32_code 164 = .ok (.iconst (-1), 1) := by decide +kernel
theorem d_Y_count_165 : decode prog_11_method_32_code 165 = .ok (.ireturn, 1) := by decide +kernel
end
