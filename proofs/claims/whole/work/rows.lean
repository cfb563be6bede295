section
-- ===== PART A: goes FIRST, ahead of the names: the tables' words, and 'selects' of the private methods out of them =====
/-- a private method of a class that the tables say can be made, by its rows of tables_1 -/
def lw_okq (q : MethodName × Nat) : Prop := (q.1.cls ≠ "java/lang/invoke/MethodHandle" ∧ q.1.cls ≠ "java/lang/invoke/VarHandle") ∧ Cond.instantiable q.1.cls q.2 ∈ tables_1 ∧ Cond.privateMethod q.1 ∈ tables_1 ∧ Cond.instanceMethod q.1 ∈ tables_1
theorem lw_p0 : lw_okq (⟨"TabledOrigin", "makeRequest", "(IZII)I"⟩, 6) := ⟨⟨by decide +kernel, by decide +kernel⟩, List.mem_of_getElem? (i := 13) (by decide +kernel), List.mem_of_getElem? (i := 228) (by decide +kernel), List.mem_of_getElem? (i := 229) (by decide +kernel)⟩
theorem lw_p1 : lw_okq (⟨"TabledOrigin", "requestAt", "(I)LTabledOrigin$Request;"⟩, 6) := ⟨⟨by decide +kernel, by decide +kernel⟩, List.mem_of_getElem? (i := 13) (by decide +kernel), List.mem_of_getElem? (i := 313) (by decide +kernel), List.mem_of_getElem? (i := 314) (by decide +kernel)⟩
theorem lw_p2 : lw_okq (⟨"TabledOrigin$Server", "answerPut", "(LTabledOrigin$Request;LTabledOrigin$Resource;)LTabledOrigin$Answer;"⟩, 6) := ⟨⟨by decide +kernel, by decide +kernel⟩, List.mem_of_getElem? (i := 21) (by decide +kernel), List.mem_of_getElem? (i := 325) (by decide +kernel), List.mem_of_getElem? (i := 326) (by decide +kernel)⟩
theorem lw_p3 : lw_okq (⟨"TabledOrigin$Table", "findLive", "(II)I"⟩, 8) := ⟨⟨by decide +kernel, by decide +kernel⟩, List.mem_of_getElem? (i := 49) (by decide +kernel), List.mem_of_getElem? (i := 390) (by decide +kernel), List.mem_of_getElem? (i := 391) (by decide +kernel)⟩
theorem lw_p4 : lw_okq (⟨"TabledOrigin$Table", "refer", "(LTabledOrigin$Answer;I)V"⟩, 8) := ⟨⟨by decide +kernel, by decide +kernel⟩, List.mem_of_getElem? (i := 49) (by decide +kernel), List.mem_of_getElem? (i := 412) (by decide +kernel), List.mem_of_getElem? (i := 413) (by decide +kernel)⟩
theorem lw_p5 : lw_okq (⟨"TabledOrigin$Table", "hasRoomFor", "(LTabledOrigin$Answer;)Z"⟩, 8) := ⟨⟨by decide +kernel, by decide +kernel⟩, List.mem_of_getElem? (i := 49) (by decide +kernel), List.mem_of_getElem? (i := 421) (by decide +kernel), List.mem_of_getElem? (i := 422) (by decide +kernel)⟩
theorem lw_p6 : lw_okq (⟨"TabledOrigin$Table", "makeEntry", "(II)I"⟩, 8) := ⟨⟨by decide +kernel, by decide +kernel⟩, List.mem_of_getElem? (i := 49) (by decide +kernel), List.mem_of_getElem? (i := 433) (by decide +kernel), List.mem_of_getElem? (i := 434) (by decide +kernel)⟩
theorem lw_p7 : lw_okq (⟨"TabledOrigin$Server", "answerGet", "(LTabledOrigin$Request;LTabledOrigin$Resource;)LTabledOrigin$Answer;"⟩, 6) := ⟨⟨by decide +kernel, by decide +kernel⟩, List.mem_of_getElem? (i := 21) (by decide +kernel), List.mem_of_getElem? (i := 437) (by decide +kernel), List.mem_of_getElem? (i := 438) (by decide +kernel)⟩
theorem lw_p8 : lw_okq (⟨"TabledOrigin$Client", "store", "(LTabledOrigin$StoredAnswer;LTabledOrigin$Request;LTabledOrigin$Answer;)V"⟩, 4) := ⟨⟨by decide +kernel, by decide +kernel⟩, List.mem_of_getElem? (i := 109) (by decide +kernel), List.mem_of_getElem? (i := 462) (by decide +kernel), List.mem_of_getElem? (i := 463) (by decide +kernel)⟩
theorem lw_p9 : lw_okq (⟨"TabledOrigin$Client", "renew", "(LTabledOrigin$StoredAnswer;LTabledOrigin$Request;LTabledOrigin$Answer;)V"⟩, 4) := ⟨⟨by decide +kernel, by decide +kernel⟩, List.mem_of_getElem? (i := 109) (by decide +kernel), List.mem_of_getElem? (i := 466) (by decide +kernel), List.mem_of_getElem? (i := 467) (by decide +kernel)⟩
theorem lw_p10 : lw_okq (⟨"TabledOrigin$Client", "acknowledge", "(LTabledOrigin$Request;LTabledOrigin$Answer;LTabledOrigin$FeedbackRoad;)V"⟩, 4) := ⟨⟨by decide +kernel, by decide +kernel⟩, List.mem_of_getElem? (i := 109) (by decide +kernel), List.mem_of_getElem? (i := 470) (by decide +kernel), List.mem_of_getElem? (i := 471) (by decide +kernel)⟩
theorem lw_p11 : lw_okq (⟨"TabledOrigin", "readUnblocked", "()I"⟩, 6) := ⟨⟨by decide +kernel, by decide +kernel⟩, List.mem_of_getElem? (i := 13) (by decide +kernel), List.mem_of_getElem? (i := 483) (by decide +kernel), List.mem_of_getElem? (i := 484) (by decide +kernel)⟩
theorem lw_p12 : lw_okq (⟨"TabledOrigin", "endOutstanding", "(IZ)V"⟩, 6) := ⟨⟨by decide +kernel, by decide +kernel⟩, List.mem_of_getElem? (i := 13) (by decide +kernel), List.mem_of_getElem? (i := 506) (by decide +kernel), List.mem_of_getElem? (i := 507) (by decide +kernel)⟩
theorem lw_p13 : lw_okq (⟨"TabledOrigin", "refuseFrom", "(I)I"⟩, 6) := ⟨⟨by decide +kernel, by decide +kernel⟩, List.mem_of_getElem? (i := 13) (by decide +kernel), List.mem_of_getElem? (i := 532) (by decide +kernel), List.mem_of_getElem? (i := 533) (by decide +kernel)⟩
theorem lw_p14 : lw_okq (⟨"TabledOrigin", "blockedAnswers", "()I"⟩, 6) := ⟨⟨by decide +kernel, by decide +kernel⟩, List.mem_of_getElem? (i := 13) (by decide +kernel), List.mem_of_getElem? (i := 576) (by decide +kernel), List.mem_of_getElem? (i := 577) (by decide +kernel)⟩
theorem lw_p15 : lw_okq (⟨"TabledOriginModel", "write", "(III)I"⟩, 40) := ⟨⟨by decide +kernel, by decide +kernel⟩, List.mem_of_getElem? (i := 580) (by decide +kernel), List.mem_of_getElem? (i := 715) (by decide +kernel), List.mem_of_getElem? (i := 716) (by decide +kernel)⟩
def lw_privs_1 : List (MethodName × Nat) := [(⟨"TabledOrigin", "makeRequest", "(IZII)I"⟩, 6), (⟨"TabledOrigin", "requestAt", "(I)LTabledOrigin$Request;"⟩, 6), (⟨"TabledOrigin$Server", "answerPut", "(LTabledOrigin$Request;LTabledOrigin$Resource;)LTabledOrigin$Answer;"⟩, 6), (⟨"TabledOrigin$Table", "findLive", "(II)I"⟩, 8), (⟨"TabledOrigin$Table", "refer", "(LTabledOrigin$Answer;I)V"⟩, 8), (⟨"TabledOrigin$Table", "hasRoomFor", "(LTabledOrigin$Answer;)Z"⟩, 8), (⟨"TabledOrigin$Table", "makeEntry", "(II)I"⟩, 8), (⟨"TabledOrigin$Server", "answerGet", "(LTabledOrigin$Request;LTabledOrigin$Resource;)LTabledOrigin$Answer;"⟩, 6), (⟨"TabledOrigin$Client", "store", "(LTabledOrigin$StoredAnswer;LTabledOrigin$Request;LTabledOrigin$Answer;)V"⟩, 4), (⟨"TabledOrigin$Client", "renew", "(LTabledOrigin$StoredAnswer;LTabledOrigin$Request;LTabledOrigin$Answer;)V"⟩, 4), (⟨"TabledOrigin$Client", "acknowledge", "(LTabledOrigin$Request;LTabledOrigin$Answer;LTabledOrigin$FeedbackRoad;)V"⟩, 4), (⟨"TabledOrigin", "readUnblocked", "()I"⟩, 6), (⟨"TabledOrigin", "endOutstanding", "(IZ)V"⟩, 6), (⟨"TabledOrigin", "refuseFrom", "(I)I"⟩, 6), (⟨"TabledOrigin", "blockedAnswers", "()I"⟩, 6), (⟨"TabledOriginModel", "write", "(III)I"⟩, 40)]
theorem lw_r1 : ∀ q ∈ lw_privs_1, lw_okq q := List.forall_mem_cons.mpr ⟨lw_p0, List.forall_mem_cons.mpr ⟨lw_p1, List.forall_mem_cons.mpr ⟨lw_p2, List.forall_mem_cons.mpr ⟨lw_p3, List.forall_mem_cons.mpr ⟨lw_p4, List.forall_mem_cons.mpr ⟨lw_p5, List.forall_mem_cons.mpr ⟨lw_p6, List.forall_mem_cons.mpr ⟨lw_p7, List.forall_mem_cons.mpr ⟨lw_p8, List.forall_mem_cons.mpr ⟨lw_p9, List.forall_mem_cons.mpr ⟨lw_p10, List.forall_mem_cons.mpr ⟨lw_p11, List.forall_mem_cons.mpr ⟨lw_p12, List.forall_mem_cons.mpr ⟨lw_p13, List.forall_mem_cons.mpr ⟨lw_p14, List.forall_mem_cons.mpr ⟨lw_p15, fun _ h => absurd h List.not_mem_nil⟩⟩⟩⟩⟩⟩⟩⟩⟩⟩⟩⟩⟩⟩⟩⟩
theorem lw_p16 : lw_okq (⟨"TabledOriginModel", "decide", "(I)I"⟩, 40) := ⟨⟨by decide +kernel, by decide +kernel⟩, List.mem_of_getElem? (i := 580) (by decide +kernel), List.mem_of_getElem? (i := 727) (by decide +kernel), List.mem_of_getElem? (i := 728) (by decide +kernel)⟩
theorem lw_p17 : lw_okq (⟨"TabledOriginModel", "field", "(III)V"⟩, 40) := ⟨⟨by decide +kernel, by decide +kernel⟩, List.mem_of_getElem? (i := 580) (by decide +kernel), List.mem_of_getElem? (i := 731) (by decide +kernel), List.mem_of_getElem? (i := 732) (by decide +kernel)⟩
theorem lw_p18 : lw_okq (⟨"TabledOriginModel", "after", "(I)I"⟩, 40) := ⟨⟨by decide +kernel, by decide +kernel⟩, List.mem_of_getElem? (i := 580) (by decide +kernel), List.mem_of_getElem? (i := 735) (by decide +kernel), List.mem_of_getElem? (i := 736) (by decide +kernel)⟩
theorem lw_p19 : lw_okq (⟨"TabledOriginModel", "need", "(I)I"⟩, 40) := ⟨⟨by decide +kernel, by decide +kernel⟩, List.mem_of_getElem? (i := 580) (by decide +kernel), List.mem_of_getElem? (i := 739) (by decide +kernel), List.mem_of_getElem? (i := 740) (by decide +kernel)⟩
theorem lw_p20 : lw_okq (⟨"TabledOriginModel", "risky", "(II)I"⟩, 40) := ⟨⟨by decide +kernel, by decide +kernel⟩, List.mem_of_getElem? (i := 580) (by decide +kernel), List.mem_of_getElem? (i := 743) (by decide +kernel), List.mem_of_getElem? (i := 744) (by decide +kernel)⟩
theorem lw_p21 : lw_okq (⟨"TabledOriginModel", "outstanding", "(I)Z"⟩, 40) := ⟨⟨by decide +kernel, by decide +kernel⟩, List.mem_of_getElem? (i := 580) (by decide +kernel), List.mem_of_getElem? (i := 747) (by decide +kernel), List.mem_of_getElem? (i := 748) (by decide +kernel)⟩
theorem lw_p22 : lw_okq (⟨"TabledOriginModel", "oldest", "()I"⟩, 40) := ⟨⟨by decide +kernel, by decide +kernel⟩, List.mem_of_getElem? (i := 580) (by decide +kernel), List.mem_of_getElem? (i := 751) (by decide +kernel), List.mem_of_getElem? (i := 752) (by decide +kernel)⟩
theorem lw_p23 : lw_okq (⟨"TabledOriginModel", "uses", "(II)I"⟩, 40) := ⟨⟨by decide +kernel, by decide +kernel⟩, List.mem_of_getElem? (i := 580) (by decide +kernel), List.mem_of_getElem? (i := 755) (by decide +kernel), List.mem_of_getElem? (i := 756) (by decide +kernel)⟩
theorem lw_p24 : lw_okq (⟨"TabledOriginModel", "ask", "(IZII)I"⟩, 40) := ⟨⟨by decide +kernel, by decide +kernel⟩, List.mem_of_getElem? (i := 580) (by decide +kernel), List.mem_of_getElem? (i := 771) (by decide +kernel), List.mem_of_getElem? (i := 772) (by decide +kernel)⟩
theorem lw_p25 : lw_okq (⟨"TabledOriginModel", "read", "(I)I"⟩, 40) := ⟨⟨by decide +kernel, by decide +kernel⟩, List.mem_of_getElem? (i := 580) (by decide +kernel), List.mem_of_getElem? (i := 783) (by decide +kernel), List.mem_of_getElem? (i := 784) (by decide +kernel)⟩
theorem lw_p26 : lw_okq (⟨"TabledOriginModel", "tell", "(II)V"⟩, 40) := ⟨⟨by decide +kernel, by decide +kernel⟩, List.mem_of_getElem? (i := 580) (by decide +kernel), List.mem_of_getElem? (i := 787) (by decide +kernel), List.mem_of_getElem? (i := 788) (by decide +kernel)⟩
def lw_privs_2 : List (MethodName × Nat) := [(⟨"TabledOriginModel", "decide", "(I)I"⟩, 40), (⟨"TabledOriginModel", "field", "(III)V"⟩, 40), (⟨"TabledOriginModel", "after", "(I)I"⟩, 40), (⟨"TabledOriginModel", "need", "(I)I"⟩, 40), (⟨"TabledOriginModel", "risky", "(II)I"⟩, 40), (⟨"TabledOriginModel", "outstanding", "(I)Z"⟩, 40), (⟨"TabledOriginModel", "oldest", "()I"⟩, 40), (⟨"TabledOriginModel", "uses", "(II)I"⟩, 40), (⟨"TabledOriginModel", "ask", "(IZII)I"⟩, 40), (⟨"TabledOriginModel", "read", "(I)I"⟩, 40), (⟨"TabledOriginModel", "tell", "(II)V"⟩, 40)]
theorem lw_r2 : ∀ q ∈ lw_privs_2, lw_okq q := List.forall_mem_cons.mpr ⟨lw_p16, List.forall_mem_cons.mpr ⟨lw_p17, List.forall_mem_cons.mpr ⟨lw_p18, List.forall_mem_cons.mpr ⟨lw_p19, List.forall_mem_cons.mpr ⟨lw_p20, List.forall_mem_cons.mpr ⟨lw_p21, List.forall_mem_cons.mpr ⟨lw_p22, List.forall_mem_cons.mpr ⟨lw_p23, List.forall_mem_cons.mpr ⟨lw_p24, List.forall_mem_cons.mpr ⟨lw_p25, List.forall_mem_cons.mpr ⟨lw_p26, fun _ h => absurd h List.not_mem_nil⟩⟩⟩⟩⟩⟩⟩⟩⟩⟩⟩
def lw_privs : List (MethodName × Nat) := lw_privs_1 ++ (lw_privs_2)
def lw_tbl : List Cond := k2_sels lw_privs ++ tables_1
theorem lw_privs_ok : ∀ q ∈ lw_privs, lw_okq q := by
  show ∀ q ∈ lw_privs_1 ++ (lw_privs_2), lw_okq q
  exact List.forall_mem_append.mpr ⟨lw_r1, lw_r2⟩
def zws : List Cond := lw_tbl.filter goodWord
theorem zin {w : Cond} (i : Nat) (h : tables_1[i]? = some w) (hn : goodWord w = true) : w ∈ zws := List.mem_filter.mpr ⟨List.mem_append_right _ (List.mem_of_getElem? h), hn⟩
theorem zsel {w : Cond} (i : Nat) (h : (k2_sels lw_privs)[i]? = some w) (hn : goodWord w = true) : w ∈ zws := List.mem_filter.mpr ⟨List.mem_append_left _ (List.mem_of_getElem? h), hn⟩
theorem z_good : zws.all goodWord = true := List.all_eq_true.mpr fun _ h => (List.mem_filter.mp h).2
theorem zgood {y : MethodName} {b : ByteArray} {ml : Nat} {r : Option FieldType} (h : Cond.code y b ml r ∈ zws) : GoodIn zws (Cond.code y b ml r :: zws) := by
  intro w hw
  rcases List.mem_cons.mp hw with rfl | hw
  · exact ⟨h, good_of_word (List.all_eq_true.mp z_good _ h)⟩
  · exact ⟨hw, good_of_word (List.all_eq_true.mp z_good w hw)⟩
abbrev fR_0 : String := "TabledOrigin$Answer"
def fT_0 : u_T := fun k => match k with
  | 0 => ("TabledOrigin$Answer", "status", "I", true)
  | 1 => ("TabledOrigin$Answer", "referredTo", "[I", true)
  | 2 => ("TabledOrigin$Answer", "referenceCount", "I", false)
  | 3 => ("TabledOrigin$Answer", "need", "I", false)
  | 4 => ("TabledOrigin$Answer", "tag", "I", false)
  | 5 => ("TabledOrigin$Answer", "lifetime", "I", false)
  | 6 => ("TabledOrigin$Answer", "content", "I", false)
  | 7 => ("TabledOrigin$Answer", "underWay", "Z", false)
  | 8 => ("TabledOrigin$Answer", "blocked", "Z", false)
  | _ => ("TabledOrigin$Answer", "outstanding", "Z", false)
def ty_0 : Nat → FieldType := fun k => match k with
  | 0 => .int
  | 1 => .array .int
  | 2 => .int
  | 3 => .int
  | 4 => .int
  | 5 => .int
  | 6 => .int
  | 7 => .boolean
  | 8 => .boolean
  | _ => .boolean
theorem nm_0 : ∀ a, a < 10 → ∀ b, b < 10 → a ≠ b → (fT_0 a).2.1 ≠ (fT_0 b).2.1 := by decide +kernel
theorem tyok_0 : ∀ k, k < 10 → parseFieldDescriptor (fT_0 k).2.2.1 = some (ty_0 k) := by decide +kernel
abbrev fR_1 : String := "TabledOrigin$Client"
def fT_1 : u_T := fun k => match k with
  | 0 => ("TabledOrigin$Client", "storedAnswers", "[LTabledOrigin$StoredAnswer;", true)
  | 1 => ("TabledOrigin$Client", "instructionsCome", "I", false)
  | 2 => ("TabledOrigin$Client", "told", "I", false)
  | _ => ("TabledOrigin$Client", "noticeTaken", "Z", false)
def ty_1 : Nat → FieldType := fun k => match k with
  | 0 => .array (.object "TabledOrigin$StoredAnswer")
  | 1 => .int
  | 2 => .int
  | _ => .boolean
theorem nm_1 : ∀ a, a < 4 → ∀ b, b < 4 → a ≠ b → (fT_1 a).2.1 ≠ (fT_1 b).2.1 := by decide +kernel
theorem tyok_1 : ∀ k, k < 4 → parseFieldDescriptor (fT_1 k).2.2.1 = some (ty_1 k) := by decide +kernel
abbrev fR_2 : String := "TabledOrigin$FeedbackRoad"
def fT_2 : u_T := fun k => match k with
  | 0 => ("TabledOrigin$FeedbackRoad", "kinds", "[I", true)
  | 1 => ("TabledOrigin$FeedbackRoad", "numbers", "[I", true)
  | 2 => ("TabledOrigin$FeedbackRoad", "length", "I", false)
  | _ => ("TabledOrigin$FeedbackRoad", "taken", "I", false)
def ty_2 : Nat → FieldType := fun k => match k with
  | 0 => .array .int
  | 1 => .array .int
  | 2 => .int
  | _ => .int
theorem nm_2 : ∀ a, a < 4 → ∀ b, b < 4 → a ≠ b → (fT_2 a).2.1 ≠ (fT_2 b).2.1 := by decide +kernel
theorem tyok_2 : ∀ k, k < 4 → parseFieldDescriptor (fT_2 k).2.2.1 = some (ty_2 k) := by decide +kernel
abbrev fR_3 : String := "TabledOrigin$Request"
def fT_3 : u_T := fun k => match k with
  | 0 => ("TabledOrigin$Request", "number", "I", true)
  | 1 => ("TabledOrigin$Request", "resource", "I", true)
  | 2 => ("TabledOrigin$Request", "isPut", "Z", true)
  | 3 => ("TabledOrigin$Request", "content", "I", true)
  | 4 => ("TabledOrigin$Request", "lifetime", "I", true)
  | 5 => ("TabledOrigin$Request", "tag", "I", false)
  | 6 => ("TabledOrigin$Request", "sent", "I", false)
  | 7 => ("TabledOrigin$Request", "keptContent", "I", false)
  | 8 => ("TabledOrigin$Request", "underWay", "Z", false)
  | 9 => ("TabledOrigin$Request", "outcome", "I", false)
  | 10 => ("TabledOrigin$Request", "outcomeContent", "I", false)
  | _ => ("TabledOrigin$Request", "answer", "LTabledOrigin$Answer;", false)
def ty_3 : Nat → FieldType := fun k => match k with
  | 0 => .int
  | 1 => .int
  | 2 => .boolean
  | 3 => .int
  | 4 => .int
  | 5 => .int
  | 6 => .int
  | 7 => .int
  | 8 => .boolean
  | 9 => .int
  | 10 => .int
  | _ => .object "TabledOrigin$Answer"
theorem nm_3 : ∀ a, a < 12 → ∀ b, b < 12 → a ≠ b → (fT_3 a).2.1 ≠ (fT_3 b).2.1 := by decide +kernel
theorem tyok_3 : ∀ k, k < 12 → parseFieldDescriptor (fT_3 k).2.2.1 = some (ty_3 k) := by decide +kernel
abbrev fR_4 : String := "TabledOrigin$Resource"
def fT_4 : u_T := fun k => match k with
  | 0 => ("TabledOrigin$Resource", "there", "Z", false)
  | 1 => ("TabledOrigin$Resource", "tag", "I", false)
  | 2 => ("TabledOrigin$Resource", "content", "I", false)
  | _ => ("TabledOrigin$Resource", "lifetime", "I", false)
def ty_4 : Nat → FieldType := fun k => match k with
  | 0 => .boolean
  | 1 => .int
  | 2 => .int
  | _ => .int
theorem nm_4 : ∀ a, a < 4 → ∀ b, b < 4 → a ≠ b → (fT_4 a).2.1 ≠ (fT_4 b).2.1 := by decide +kernel
theorem tyok_4 : ∀ k, k < 4 → parseFieldDescriptor (fT_4 k).2.2.1 = some (ty_4 k) := by decide +kernel
abbrev fR_5 : String := "TabledOrigin$Server"
def fT_5 : u_T := fun k => match k with
  | 0 => ("TabledOrigin$Server", "resources", "[LTabledOrigin$Resource;", true)
  | 1 => ("TabledOrigin$Server", "table", "LTabledOrigin$Table;", true)
  | 2 => ("TabledOrigin$Server", "newestTag", "I", false)
  | 3 => ("TabledOrigin$Server", "answeredEnd", "I", false)
  | 4 => ("TabledOrigin$Server", "limitAnnounced", "Z", false)
  | _ => ("TabledOrigin$Server", "limit", "I", false)
def ty_5 : Nat → FieldType := fun k => match k with
  | 0 => .array (.object "TabledOrigin$Resource")
  | 1 => .object "TabledOrigin$Table"
  | 2 => .int
  | 3 => .int
  | 4 => .boolean
  | _ => .int
theorem nm_5 : ∀ a, a < 6 → ∀ b, b < 6 → a ≠ b → (fT_5 a).2.1 ≠ (fT_5 b).2.1 := by decide +kernel
theorem tyok_5 : ∀ k, k < 6 → parseFieldDescriptor (fT_5 k).2.2.1 = some (ty_5 k) := by decide +kernel
abbrev fR_6 : String := "TabledOrigin$StoredAnswer"
def fT_6 : u_T := fun k => match k with
  | 0 => ("TabledOrigin$StoredAnswer", "there", "Z", false)
  | 1 => ("TabledOrigin$StoredAnswer", "tag", "I", false)
  | 2 => ("TabledOrigin$StoredAnswer", "content", "I", false)
  | 3 => ("TabledOrigin$StoredAnswer", "lifetime", "I", false)
  | 4 => ("TabledOrigin$StoredAnswer", "since", "I", false)
  | _ => ("TabledOrigin$StoredAnswer", "request", "I", false)
def ty_6 : Nat → FieldType := fun k => match k with
  | 0 => .boolean
  | 1 => .int
  | 2 => .int
  | 3 => .int
  | 4 => .int
  | _ => .int
theorem nm_6 : ∀ a, a < 6 → ∀ b, b < 6 → a ≠ b → (fT_6 a).2.1 ≠ (fT_6 b).2.1 := by decide +kernel
theorem tyok_6 : ∀ k, k < 6 → parseFieldDescriptor (fT_6 k).2.2.1 = some (ty_6 k) := by decide +kernel
abbrev fR_7 : String := "TabledOrigin$Table"
def fT_7 : u_T := fun k => match k with
  | 0 => ("TabledOrigin$Table", "names", "[I", true)
  | 1 => ("TabledOrigin$Table", "values", "[I", true)
  | 2 => ("TabledOrigin$Table", "answers", "[LTabledOrigin$Answer;", true)
  | 3 => ("TabledOrigin$Table", "answerCount", "I", false)
  | 4 => ("TabledOrigin$Table", "made", "I", false)
  | 5 => ("TabledOrigin$Table", "known", "I", false)
  | 6 => ("TabledOrigin$Table", "literals", "I", false)
  | _ => ("TabledOrigin$Table", "references", "I", false)
def ty_7 : Nat → FieldType := fun k => match k with
  | 0 => .array .int
  | 1 => .array .int
  | 2 => .array (.object "TabledOrigin$Answer")
  | 3 => .int
  | 4 => .int
  | 5 => .int
  | 6 => .int
  | _ => .int
theorem nm_7 : ∀ a, a < 8 → ∀ b, b < 8 → a ≠ b → (fT_7 a).2.1 ≠ (fT_7 b).2.1 := by decide +kernel
theorem tyok_7 : ∀ k, k < 8 → parseFieldDescriptor (fT_7 k).2.2.1 = some (ty_7 k) := by decide +kernel
abbrev fR_8 : String := "TabledOrigin"
def fT_8 : u_T := fun k => match k with
  | 0 => ("TabledOrigin", "server", "LTabledOrigin$Server;", true)
  | 1 => ("TabledOrigin", "client", "LTabledOrigin$Client;", true)
  | 2 => ("TabledOrigin", "feedbackRoad", "LTabledOrigin$FeedbackRoad;", true)
  | 3 => ("TabledOrigin", "requests", "[LTabledOrigin$Request;", true)
  | 4 => ("TabledOrigin", "requestCount", "I", false)
  | _ => ("TabledOrigin", "clock", "I", false)
def ty_8 : Nat → FieldType := fun k => match k with
  | 0 => .object "TabledOrigin$Server"
  | 1 => .object "TabledOrigin$Client"
  | 2 => .object "TabledOrigin$FeedbackRoad"
  | 3 => .array (.object "TabledOrigin$Request")
  | 4 => .int
  | _ => .int
theorem nm_8 : ∀ a, a < 6 → ∀ b, b < 6 → a ≠ b → (fT_8 a).2.1 ≠ (fT_8 b).2.1 := by decide +kernel
theorem tyok_8 : ∀ k, k < 6 → parseFieldDescriptor (fT_8 k).2.2.1 = some (ty_8 k) := by decide +kernel
abbrev fR_9 : String := "TabledOriginModel"
def fT_9 : u_T := fun k => match k with
  | 0 => ("TabledOriginModel", "there", "[Z", true)
  | 1 => ("TabledOriginModel", "text", "[I", true)
  | 2 => ("TabledOriginModel", "life", "[I", true)
  | 3 => ("TabledOriginModel", "tag", "[I", true)
  | 4 => ("TabledOriginModel", "newest", "I", false)
  | 5 => ("TabledOriginModel", "clock", "I", false)
  | 6 => ("TabledOriginModel", "requests", "I", false)
  | 7 => ("TabledOriginModel", "writes", "[Z", true)
  | 8 => ("TabledOriginModel", "resource", "[I", true)
  | 9 => ("TabledOriginModel", "result", "[I", true)
  | 10 => ("TabledOriginModel", "body", "[I", true)
  | 11 => ("TabledOriginModel", "lasts", "[I", true)
  | 12 => ("TabledOriginModel", "bears", "[I", true)
  | 13 => ("TabledOriginModel", "sent", "[I", true)
  | 14 => ("TabledOriginModel", "shown", "[I", true)
  | 15 => ("TabledOriginModel", "road", "[I", true)
  | 16 => ("TabledOriginModel", "status", "[I", true)
  | 17 => ("TabledOriginModel", "ansTag", "[I", true)
  | 18 => ("TabledOriginModel", "ansLife", "[I", true)
  | 19 => ("TabledOriginModel", "ansText", "[I", true)
  | 20 => ("TabledOriginModel", "refers", "[I", true)
  | 21 => ("TabledOriginModel", "keptBy", "[I", true)
  | 22 => ("TabledOriginModel", "keptTag", "[I", true)
  | 23 => ("TabledOriginModel", "keptText", "[I", true)
  | 24 => ("TabledOriginModel", "keptLife", "[I", true)
  | 25 => ("TabledOriginModel", "keptSince", "[I", true)
  | 26 => ("TabledOriginModel", "name", "[I", true)
  | 27 => ("TabledOriginModel", "value", "[I", true)
  | 28 => ("TabledOriginModel", "made", "I", false)
  | 29 => ("TabledOriginModel", "came", "I", false)
  | 30 => ("TabledOriginModel", "literals", "I", false)
  | 31 => ("TabledOriginModel", "references", "I", false)
  | 32 => ("TabledOriginModel", "word", "[I", true)
  | 33 => ("TabledOriginModel", "about", "[I", true)
  | 34 => ("TabledOriginModel", "words", "I", false)
  | 35 => ("TabledOriginModel", "heard", "I", false)
  | 36 => ("TabledOriginModel", "announced", "Z", false)
  | 37 => ("TabledOriginModel", "noticed", "Z", false)
  | 38 => ("TabledOriginModel", "bound", "I", false)
  | _ => ("TabledOriginModel", "answered", "I", false)
def ty_9 : Nat → FieldType := fun k => match k with
  | 0 => .array .boolean
  | 1 => .array .int
  | 2 => .array .int
  | 3 => .array .int
  | 4 => .int
  | 5 => .int
  | 6 => .int
  | 7 => .array .boolean
  | 8 => .array .int
  | 9 => .array .int
  | 10 => .array .int
  | 11 => .array .int
  | 12 => .array .int
  | 13 => .array .int
  | 14 => .array .int
  | 15 => .array .int
  | 16 => .array .int
  | 17 => .array .int
  | 18 => .array .int
  | 19 => .array .int
  | 20 => .array .int
  | 21 => .array .int
  | 22 => .array .int
  | 23 => .array .int
  | 24 => .array .int
  | 25 => .array .int
  | 26 => .array .int
  | 27 => .array .int
  | 28 => .int
  | 29 => .int
  | 30 => .int
  | 31 => .int
  | 32 => .array .int
  | 33 => .array .int
  | 34 => .int
  | 35 => .int
  | 36 => .boolean
  | 37 => .boolean
  | 38 => .int
  | _ => .int
theorem nm_9 : ∀ a, a < 40 → ∀ b, b < 40 → a ≠ b → (fT_9 a).2.1 ≠ (fT_9 b).2.1 := by decide +kernel
theorem tyok_9 : ∀ k, k < 40 → parseFieldDescriptor (fT_9 k).2.2.1 = some (ty_9 k) := by decide +kernel
abbrev zcl : List vw_C := [(fR_0, fT_0, 10), (fR_1, fT_1, 4), (fR_2, fT_2, 4), (fR_3, fT_3, 12), (fR_4, fT_4, 4), (fR_5, fT_5, 6), (fR_6, fT_6, 6), (fR_7, fT_7, 8), (fR_8, fT_8, 6), (fR_9, fT_9, 40)]
def zfl : Nat → List Bool := fun k => match k with
  | 0 => [false, true, false, false, false, false, false, false, false, false]
  | 1 => [true, false, false, false]
  | 2 => [true, true, false, false]
  | 3 => [false, false, false, false, false, false, false, false, false, false, false, true]
  | 4 => [false, false, false, false]
  | 5 => [true, true, false, false, false, false]
  | 6 => [false, false, false, false, false, false]
  | 7 => [true, true, true, false, false, false, false, false]
  | 8 => [true, true, true, true, false, false]
  | _ => [true, true, true, true, false, false, false, true, true, true, true, true, true, true, true, true, true, true, true, true, true, true, true, true, true, true, true, true, false, false, false, false, true, true, false, false, false, false, false, false]
abbrev ztys (ca : Nat → ClassId) : List (ClassId × FieldType) := [(ca 20, .int), (ca 21, .boolean), (ca 22, .object "TabledOrigin$Request"), (ca 23, .object "TabledOrigin$Answer"), (ca 24, .object "TabledOrigin$Resource"), (ca 25, .object "TabledOrigin$StoredAnswer")]
def zN (U : State) : Prop := va_Nw (.methodLinkNest "TabledOrigin$Server" 17 ⟨"TabledOrigin$Resource", "<init>", "()V"⟩ "TabledOrigin") U ∧ va_Nw (.methodLinkNest "TabledOrigin$Client" 17 ⟨"TabledOrigin$StoredAnswer", "<init>", "()V"⟩ "TabledOrigin") U ∧ va_AO "TabledOrigin$Request" U ∧ va_AO "TabledOrigin$Answer" U ∧ va_AO "TabledOrigin$Resource" U ∧ va_AO "TabledOrigin$StoredAnswer" U
theorem zAO_same {C : String} {U V : State} (h : U.vm = V.vm) (q : va_AO C U) : va_AO C V := q.moved (by rw [h]; exact Vm.Alike.refl V.vm)
theorem zN_same {U V : State} (h : U.vm = V.vm) (q : zN U) : zN V := ⟨va_Nw.same rfl h q.1, va_Nw.same rfl h q.2.1, zAO_same h q.2.2.1, zAO_same h q.2.2.2.1, zAO_same h q.2.2.2.2.1, zAO_same h q.2.2.2.2.2⟩
theorem zN_warm {s U : State} (hW : s.WarmedH U.vm) (q : zN s) : zN U := ⟨va_Nw.warmM hW q.1, va_Nw.warmM hW q.2.1, q.2.2.1.moved hW.alike, q.2.2.2.1.moved hW.alike, q.2.2.2.2.1.moved hW.alike, q.2.2.2.2.2.moved hW.alike⟩
end
section
theorem k_1 : Cond.initialized "TabledOrigin" ∈ zws := zin 1 (by decide +kernel) rfl
theorem k_2 : Cond.initialized "TabledOrigin$Server" ∈ zws := zin 2 (by decide +kernel) rfl
theorem k_3 : Cond.initialized "TabledOrigin$Resource" ∈ zws := zin 3 (by decide +kernel) rfl
theorem k_4 : Cond.initialized "TabledOrigin$Table" ∈ zws := zin 4 (by decide +kernel) rfl
theorem k_5 : Cond.initialized "TabledOrigin$Client" ∈ zws := zin 5 (by decide +kernel) rfl
theorem k_6 : Cond.initialized "TabledOrigin$StoredAnswer" ∈ zws := zin 6 (by decide +kernel) rfl
theorem k_7 : Cond.initialized "TabledOrigin$FeedbackRoad" ∈ zws := zin 7 (by decide +kernel) rfl
theorem k_8 : Cond.initialized "TabledOriginModel" ∈ zws := zin 8 (by decide +kernel) rfl
theorem k_9 : Cond.initialized "TabledOrigin$Request" ∈ zws := zin 9 (by decide +kernel) rfl
theorem k_10 : Cond.initialized "java/lang/Math" ∈ zws := zin 10 (by decide +kernel) rfl
theorem k_11 : Cond.initialized "TabledOrigin$Answer" ∈ zws := zin 11 (by decide +kernel) rfl
theorem k_15 : Cond.instanceMethod ⟨"TabledOrigin", "<init>", "()V"⟩ ∈ zws := zin 15 (by decide +kernel) rfl
set_option maxRecDepth 20000 in
theorem k_16 : Cond.code ⟨"TabledOrigin", "<init>", "()V"⟩ prog_1_method_1_code 1 none ∈ zws := zin 16 (by rfl) rfl
theorem k_17 : Cond.methodLink "TabledOrigin" 3 ⟨"java/lang/Object", "<init>", "()V"⟩ ∈ zws := zin 17 (by decide +kernel) rfl
theorem k_18 : Cond.instanceMethod ⟨"java/lang/Object", "<init>", "()V"⟩ ∈ zws := zin 18 (by decide +kernel) rfl
set_option maxRecDepth 20000 in
theorem k_19 : Cond.code ⟨"java/lang/Object", "<init>", "()V"⟩ object_method_1_code 1 none ∈ zws := zin 19 (by rfl) rfl
theorem k_20 : Cond.classLink "TabledOrigin" 9 "TabledOrigin$Server" ∈ zws := zin 20 (by decide +kernel) rfl
theorem k_21 : Cond.instantiable "TabledOrigin$Server" 6 ∈ zws := zin 21 (by decide +kernel) rfl
theorem k_22 : Cond.methodLink "TabledOrigin" 11 ⟨"TabledOrigin$Server", "<init>", "()V"⟩ ∈ zws := zin 22 (by decide +kernel) rfl
theorem k_23 : Cond.instanceMethod ⟨"TabledOrigin$Server", "<init>", "()V"⟩ ∈ zws := zin 23 (by decide +kernel) rfl
set_option maxRecDepth 20000 in
theorem k_24 : Cond.code ⟨"TabledOrigin$Server", "<init>", "()V"⟩ prog_7_method_1_code 2 none ∈ zws := zin 24 (by rfl) rfl
theorem k_25 : Cond.methodLink "TabledOrigin$Server" 3 ⟨"java/lang/Object", "<init>", "()V"⟩ ∈ zws := zin 25 (by decide +kernel) rfl
theorem k_26 : Cond.classLink "TabledOrigin$Server" 9 "TabledOrigin$Resource" ∈ zws := zin 26 (by decide +kernel) rfl
theorem k_28 : Cond.instantiable "TabledOrigin$Resource" 4 ∈ zws := zin 28 (by decide +kernel) rfl
theorem k_30 : Cond.instanceMethod ⟨"TabledOrigin$Resource", "<init>", "()V"⟩ ∈ zws := zin 30 (by decide +kernel) rfl
set_option maxRecDepth 20000 in
theorem k_31 : Cond.code ⟨"TabledOrigin$Resource", "<init>", "()V"⟩ prog_6_method_1_code 1 none ∈ zws := zin 31 (by rfl) rfl
theorem k_32 : Cond.methodLink "TabledOrigin$Resource" 1 ⟨"java/lang/Object", "<init>", "()V"⟩ ∈ zws := zin 32 (by decide +kernel) rfl
theorem k_33 : Cond.fieldLink "TabledOrigin$Server" 29 "TabledOrigin$Resource" "there" "Z" ∈ zws := zin 33 (by decide +kernel) rfl
theorem k_34 : Cond.fieldLink "TabledOrigin" 60 "TabledOrigin$Resource" "there" "Z" ∈ zws := zin 34 (by decide +kernel) rfl
theorem k_35 : Cond.fieldLink "TabledOrigin" 55 "TabledOrigin$Resource" "tag" "I" ∈ zws := zin 35 (by decide +kernel) rfl
theorem k_36 : Cond.fieldLink "TabledOrigin$Server" 33 "TabledOrigin$Resource" "tag" "I" ∈ zws := zin 36 (by decide +kernel) rfl
theorem k_37 : Cond.fieldLink "TabledOrigin$Server" 36 "TabledOrigin$Resource" "content" "I" ∈ zws := zin 37 (by decide +kernel) rfl
theorem k_38 : Cond.fieldLink "TabledOrigin$Server" 39 "TabledOrigin$Resource" "lifetime" "I" ∈ zws := zin 38 (by decide +kernel) rfl
theorem k_39 : Cond.lays "TabledOrigin$Resource" "TabledOrigin$Resource" "there" "Z" ∈ zws := zin 39 (by decide +kernel) rfl
theorem k_41 : Cond.lays "TabledOrigin$Resource" "TabledOrigin$Resource" "tag" "I" ∈ zws := zin 41 (by decide +kernel) rfl
theorem k_43 : Cond.lays "TabledOrigin$Resource" "TabledOrigin$Resource" "content" "I" ∈ zws := zin 43 (by decide +kernel) rfl
theorem k_45 : Cond.lays "TabledOrigin$Resource" "TabledOrigin$Resource" "lifetime" "I" ∈ zws := zin 45 (by decide +kernel) rfl
theorem k_48 : Cond.classLink "TabledOrigin$Server" 18 "TabledOrigin$Table" ∈ zws := zin 48 (by decide +kernel) rfl
theorem k_49 : Cond.instantiable "TabledOrigin$Table" 8 ∈ zws := zin 49 (by decide +kernel) rfl
theorem k_50 : Cond.methodLink "TabledOrigin$Server" 20 ⟨"TabledOrigin$Table", "<init>", "()V"⟩ ∈ zws := zin 50 (by decide +kernel) rfl
theorem k_51 : Cond.instanceMethod ⟨"TabledOrigin$Table", "<init>", "()V"⟩ ∈ zws := zin 51 (by decide +kernel) rfl
set_option maxRecDepth 20000 in
theorem k_52 : Cond.code ⟨"TabledOrigin$Table", "<init>", "()V"⟩ prog_9_method_1_code 1 none ∈ zws := zin 52 (by rfl) rfl
theorem k_53 : Cond.methodLink "TabledOrigin$Table" 3 ⟨"java/lang/Object", "<init>", "()V"⟩ ∈ zws := zin 53 (by decide +kernel) rfl
theorem k_54 : Cond.classLink "TabledOrigin$Table" 18 "TabledOrigin$Answer" ∈ zws := zin 54 (by decide +kernel) rfl
theorem k_56 : Cond.fieldLink "TabledOrigin$Table" 9 "TabledOrigin$Table" "names" "[I" ∈ zws := zin 56 (by decide +kernel) rfl
theorem k_57 : Cond.fieldLink "TabledOrigin$Table" 15 "TabledOrigin$Table" "values" "[I" ∈ zws := zin 57 (by decide +kernel) rfl
theorem k_58 : Cond.fieldLink "TabledOrigin$Table" 20 "TabledOrigin$Table" "answers" "[LTabledOrigin$Answer;" ∈ zws := zin 58 (by decide +kernel) rfl
theorem k_59 : Cond.fieldLink "TabledOrigin$Table" 67 "TabledOrigin$Table" "answerCount" "I" ∈ zws := zin 59 (by decide +kernel) rfl
theorem k_60 : Cond.fieldLink "TabledOrigin$Table" 24 "TabledOrigin$Table" "made" "I" ∈ zws := zin 60 (by decide +kernel) rfl
theorem k_61 : Cond.fieldLink "TabledOrigin" 107 "TabledOrigin$Table" "made" "I" ∈ zws := zin 61 (by decide +kernel) rfl
theorem k_62 : Cond.fieldLink "TabledOrigin$Table" 40 "TabledOrigin$Table" "known" "I" ∈ zws := zin 62 (by decide +kernel) rfl
theorem k_63 : Cond.fieldLink "TabledOrigin" 125 "TabledOrigin$Table" "known" "I" ∈ zws := zin 63 (by decide +kernel) rfl
theorem k_64 : Cond.fieldLink "TabledOrigin$Table" 61 "TabledOrigin$Table" "literals" "I" ∈ zws := zin 64 (by decide +kernel) rfl
theorem k_65 : Cond.fieldLink "TabledOrigin" 193 "TabledOrigin$Table" "literals" "I" ∈ zws := zin 65 (by decide +kernel) rfl
theorem k_66 : Cond.fieldLink "TabledOrigin$Table" 101 "TabledOrigin$Table" "references" "I" ∈ zws := zin 66 (by decide +kernel) rfl
theorem k_67 : Cond.fieldLink "TabledOrigin" 196 "TabledOrigin$Table" "references" "I" ∈ zws := zin 67 (by decide +kernel) rfl
theorem k_68 : Cond.laysFinal "TabledOrigin$Table" "TabledOrigin$Table" "names" "[I" ∈ zws := zin 68 (by decide +kernel) rfl
theorem k_70 : Cond.laysFinal "TabledOrigin$Table" "TabledOrigin$Table" "values" "[I" ∈ zws := zin 70 (by decide +kernel) rfl
theorem k_72 : Cond.laysFinal "TabledOrigin$Table" "TabledOrigin$Table" "answers" "[LTabledOrigin$Answer;" ∈ zws := zin 72 (by decide +kernel) rfl
theorem k_74 : Cond.lays "TabledOrigin$Table" "TabledOrigin$Table" "answerCount" "I" ∈ zws := zin 74 (by decide +kernel) rfl
theorem k_76 : Cond.lays "TabledOrigin$Table" "TabledOrigin$Table" "made" "I" ∈ zws := zin 76 (by decide +kernel) rfl
theorem k_78 : Cond.lays "TabledOrigin$Table" "TabledOrigin$Table" "known" "I" ∈ zws := zin 78 (by decide +kernel) rfl
theorem k_80 : Cond.lays "TabledOrigin$Table" "TabledOrigin$Table" "literals" "I" ∈ zws := zin 80 (by decide +kernel) rfl
theorem k_82 : Cond.lays "TabledOrigin$Table" "TabledOrigin$Table" "references" "I" ∈ zws := zin 82 (by decide +kernel) rfl
theorem k_85 : Cond.arrayClass .int ∈ zws := zin 85 (by decide +kernel) rfl
theorem k_86 : Cond.fieldLink "TabledOrigin$Server" 11 "TabledOrigin$Server" "resources" "[LTabledOrigin$Resource;" ∈ zws := zin 86 (by decide +kernel) rfl
theorem k_87 : Cond.fieldLink "TabledOrigin$Server" 21 "TabledOrigin$Server" "table" "LTabledOrigin$Table;" ∈ zws := zin 87 (by decide +kernel) rfl
theorem k_88 : Cond.fieldLink "TabledOrigin" 103 "TabledOrigin$Server" "table" "LTabledOrigin$Table;" ∈ zws := zin 88 (by decide +kernel) rfl
theorem k_89 : Cond.fieldLink "TabledOrigin$Server" 25 "TabledOrigin$Server" "newestTag" "I" ∈ zws := zin 89 (by decide +kernel) rfl
theorem k_90 : Cond.fieldLink "TabledOrigin$Server" 60 "TabledOrigin$Server" "answeredEnd" "I" ∈ zws := zin 90 (by decide +kernel) rfl
theorem k_91 : Cond.fieldLink "TabledOrigin$Server" 51 "TabledOrigin$Server" "limitAnnounced" "Z" ∈ zws := zin 91 (by decide +kernel) rfl
theorem k_92 : Cond.fieldLink "TabledOrigin" 145 "TabledOrigin$Server" "limitAnnounced" "Z" ∈ zws := zin 92 (by decide +kernel) rfl
theorem k_93 : Cond.fieldLink "TabledOrigin$Server" 57 "TabledOrigin$Server" "limit" "I" ∈ zws := zin 93 (by decide +kernel) rfl
theorem k_94 : Cond.fieldLink "TabledOrigin" 142 "TabledOrigin$Server" "limit" "I" ∈ zws := zin 94 (by decide +kernel) rfl
theorem k_95 : Cond.laysFinal "TabledOrigin$Server" "TabledOrigin$Server" "resources" "[LTabledOrigin$Resource;" ∈ zws := zin 95 (by decide +kernel) rfl
theorem k_97 : Cond.laysFinal "TabledOrigin$Server" "TabledOrigin$Server" "table" "LTabledOrigin$Table;" ∈ zws := zin 97 (by decide +kernel) rfl
theorem k_99 : Cond.lays "TabledOrigin$Server" "TabledOrigin$Server" "newestTag" "I" ∈ zws := zin 99 (by decide +kernel) rfl
theorem k_101 : Cond.lays "TabledOrigin$Server" "TabledOrigin$Server" "answeredEnd" "I" ∈ zws := zin 101 (by decide +kernel) rfl
theorem k_103 : Cond.lays "TabledOrigin$Server" "TabledOrigin$Server" "limitAnnounced" "Z" ∈ zws := zin 103 (by decide +kernel) rfl
theorem k_105 : Cond.lays "TabledOrigin$Server" "TabledOrigin$Server" "limit" "I" ∈ zws := zin 105 (by decide +kernel) rfl
theorem k_108 : Cond.classLink "TabledOrigin" 16 "TabledOrigin$Client" ∈ zws := zin 108 (by decide +kernel) rfl
theorem k_109 : Cond.instantiable "TabledOrigin$Client" 4 ∈ zws := zin 109 (by decide +kernel) rfl
theorem k_110 : Cond.methodLink "TabledOrigin" 18 ⟨"TabledOrigin$Client", "<init>", "()V"⟩ ∈ zws := zin 110 (by decide +kernel) rfl
theorem k_111 : Cond.instanceMethod ⟨"TabledOrigin$Client", "<init>", "()V"⟩ ∈ zws := zin 111 (by decide +kernel) rfl
set_option maxRecDepth 20000 in
theorem k_112 : Cond.code ⟨"TabledOrigin$Client", "<init>", "()V"⟩ prog_3_method_1_code 2 none ∈ zws := zin 112 (by rfl) rfl
theorem k_113 : Cond.methodLink "TabledOrigin$Client" 3 ⟨"java/lang/Object", "<init>", "()V"⟩ ∈ zws := zin 113 (by decide +kernel) rfl
theorem k_114 : Cond.classLink "TabledOrigin$Client" 9 "TabledOrigin$StoredAnswer" ∈ zws := zin 114 (by decide +kernel) rfl
theorem k_116 : Cond.instantiable "TabledOrigin$StoredAnswer" 6 ∈ zws := zin 116 (by decide +kernel) rfl
theorem k_118 : Cond.instanceMethod ⟨"TabledOrigin$StoredAnswer", "<init>", "()V"⟩ ∈ zws := zin 118 (by decide +kernel) rfl
set_option maxRecDepth 20000 in
theorem k_119 : Cond.code ⟨"TabledOrigin$StoredAnswer", "<init>", "()V"⟩ prog_8_method_1_code 1 none ∈ zws := zin 119 (by rfl) rfl
theorem k_120 : Cond.methodLink "TabledOrigin$StoredAnswer" 1 ⟨"java/lang/Object", "<init>", "()V"⟩ ∈ zws := zin 120 (by decide +kernel) rfl
theorem k_121 : Cond.fieldLink "TabledOrigin$StoredAnswer" 7 "TabledOrigin$StoredAnswer" "there" "Z" ∈ zws := zin 121 (by decide +kernel) rfl
theorem k_122 : Cond.fieldLink "TabledOrigin$Client" 45 "TabledOrigin$StoredAnswer" "there" "Z" ∈ zws := zin 122 (by decide +kernel) rfl
theorem k_123 : Cond.fieldLink "TabledOrigin" 168 "TabledOrigin$StoredAnswer" "there" "Z" ∈ zws := zin 123 (by decide +kernel) rfl
theorem k_124 : Cond.fieldLink "TabledOrigin$Client" 48 "TabledOrigin$StoredAnswer" "tag" "I" ∈ zws := zin 124 (by decide +kernel) rfl
theorem k_125 : Cond.fieldLink "TabledOrigin" 171 "TabledOrigin$StoredAnswer" "tag" "I" ∈ zws := zin 125 (by decide +kernel) rfl
theorem k_126 : Cond.fieldLink "TabledOrigin$Client" 28 "TabledOrigin$StoredAnswer" "content" "I" ∈ zws := zin 126 (by decide +kernel) rfl
theorem k_127 : Cond.fieldLink "TabledOrigin" 172 "TabledOrigin$StoredAnswer" "content" "I" ∈ zws := zin 127 (by decide +kernel) rfl
theorem k_128 : Cond.fieldLink "TabledOrigin$StoredAnswer" 17 "TabledOrigin$StoredAnswer" "lifetime" "I" ∈ zws := zin 128 (by decide +kernel) rfl
theorem k_129 : Cond.fieldLink "TabledOrigin$Client" 99 "TabledOrigin$StoredAnswer" "lifetime" "I" ∈ zws := zin 129 (by decide +kernel) rfl
theorem k_130 : Cond.fieldLink "TabledOrigin$StoredAnswer" 13 "TabledOrigin$StoredAnswer" "since" "I" ∈ zws := zin 130 (by decide +kernel) rfl
theorem k_131 : Cond.fieldLink "TabledOrigin$Client" 100 "TabledOrigin$StoredAnswer" "since" "I" ∈ zws := zin 131 (by decide +kernel) rfl
theorem k_132 : Cond.fieldLink "TabledOrigin$StoredAnswer" 24 "TabledOrigin$StoredAnswer" "request" "I" ∈ zws := zin 132 (by decide +kernel) rfl
theorem k_133 : Cond.fieldLink "TabledOrigin$Client" 92 "TabledOrigin$StoredAnswer" "request" "I" ∈ zws := zin 133 (by decide +kernel) rfl
theorem k_134 : Cond.fieldLink "TabledOrigin" 175 "TabledOrigin$StoredAnswer" "request" "I" ∈ zws := zin 134 (by decide +kernel) rfl
theorem k_135 : Cond.lays "TabledOrigin$StoredAnswer" "TabledOrigin$StoredAnswer" "there" "Z" ∈ zws := zin 135 (by decide +kernel) rfl
theorem k_137 : Cond.lays "TabledOrigin$StoredAnswer" "TabledOrigin$StoredAnswer" "tag" "I" ∈ zws := zin 137 (by decide +kernel) rfl
theorem k_139 : Cond.lays "TabledOrigin$StoredAnswer" "TabledOrigin$StoredAnswer" "content" "I" ∈ zws := zin 139 (by decide +kernel) rfl
theorem k_141 : Cond.lays "TabledOrigin$StoredAnswer" "TabledOrigin$StoredAnswer" "lifetime" "I" ∈ zws := zin 141 (by decide +kernel) rfl
theorem k_143 : Cond.lays "TabledOrigin$StoredAnswer" "TabledOrigin$StoredAnswer" "since" "I" ∈ zws := zin 143 (by decide +kernel) rfl
theorem k_145 : Cond.lays "TabledOrigin$StoredAnswer" "TabledOrigin$StoredAnswer" "request" "I" ∈ zws := zin 145 (by decide +kernel) rfl
theorem k_148 : Cond.fieldLink "TabledOrigin$Client" 11 "TabledOrigin$Client" "storedAnswers" "[LTabledOrigin$StoredAnswer;" ∈ zws := zin 148 (by decide +kernel) rfl
theorem k_149 : Cond.fieldLink "TabledOrigin$Client" 60 "TabledOrigin$Client" "instructionsCome" "I" ∈ zws := zin 149 (by decide +kernel) rfl
theorem k_150 : Cond.fieldLink "TabledOrigin" 100 "TabledOrigin$Client" "instructionsCome" "I" ∈ zws := zin 150 (by decide +kernel) rfl
theorem k_151 : Cond.fieldLink "TabledOrigin$Client" 108 "TabledOrigin$Client" "told" "I" ∈ zws := zin 151 (by decide +kernel) rfl
theorem k_152 : Cond.fieldLink "TabledOrigin" 132 "TabledOrigin$Client" "told" "I" ∈ zws := zin 152 (by decide +kernel) rfl
theorem k_153 : Cond.fieldLink "TabledOrigin$Client" 36 "TabledOrigin$Client" "noticeTaken" "Z" ∈ zws := zin 153 (by decide +kernel) rfl
theorem k_154 : Cond.fieldLink "TabledOrigin" 148 "TabledOrigin$Client" "noticeTaken" "Z" ∈ zws := zin 154 (by decide +kernel) rfl
theorem k_155 : Cond.laysFinal "TabledOrigin$Client" "TabledOrigin$Client" "storedAnswers" "[LTabledOrigin$StoredAnswer;" ∈ zws := zin 155 (by decide +kernel) rfl
theorem k_157 : Cond.lays "TabledOrigin$Client" "TabledOrigin$Client" "instructionsCome" "I" ∈ zws := zin 157 (by decide +kernel) rfl
theorem k_159 : Cond.lays "TabledOrigin$Client" "TabledOrigin$Client" "told" "I" ∈ zws := zin 159 (by decide +kernel) rfl
theorem k_161 : Cond.lays "TabledOrigin$Client" "TabledOrigin$Client" "noticeTaken" "Z" ∈ zws := zin 161 (by decide +kernel) rfl
theorem k_164 : Cond.classLink "TabledOrigin" 23 "TabledOrigin$FeedbackRoad" ∈ zws := zin 164 (by decide +kernel) rfl
theorem k_165 : Cond.instantiable "TabledOrigin$FeedbackRoad" 4 ∈ zws := zin 165 (by decide +kernel) rfl
theorem k_166 : Cond.methodLink "TabledOrigin" 25 ⟨"TabledOrigin$FeedbackRoad", "<init>", "()V"⟩ ∈ zws := zin 166 (by decide +kernel) rfl
theorem k_167 : Cond.instanceMethod ⟨"TabledOrigin$FeedbackRoad", "<init>", "()V"⟩ ∈ zws := zin 167 (by decide +kernel) rfl
set_option maxRecDepth 20000 in
theorem k_168 : Cond.code ⟨"TabledOrigin$FeedbackRoad", "<init>", "()V"⟩ prog_4_method_1_code 1 none ∈ zws := zin 168 (by rfl) rfl
theorem k_169 : Cond.methodLink "TabledOrigin$FeedbackRoad" 3 ⟨"java/lang/Object", "<init>", "()V"⟩ ∈ zws := zin 169 (by decide +kernel) rfl
theorem k_170 : Cond.fieldLink "TabledOrigin$FeedbackRoad" 9 "TabledOrigin$FeedbackRoad" "kinds" "[I" ∈ zws := zin 170 (by decide +kernel) rfl
theorem k_171 : Cond.fieldLink "TabledOrigin$FeedbackRoad" 15 "TabledOrigin$FeedbackRoad" "numbers" "[I" ∈ zws := zin 171 (by decide +kernel) rfl
theorem k_172 : Cond.fieldLink "TabledOrigin$FeedbackRoad" 18 "TabledOrigin$FeedbackRoad" "length" "I" ∈ zws := zin 172 (by decide +kernel) rfl
theorem k_173 : Cond.fieldLink "TabledOrigin$FeedbackRoad" 22 "TabledOrigin$FeedbackRoad" "taken" "I" ∈ zws := zin 173 (by decide +kernel) rfl
theorem k_174 : Cond.laysFinal "TabledOrigin$FeedbackRoad" "TabledOrigin$FeedbackRoad" "kinds" "[I" ∈ zws := zin 174 (by decide +kernel) rfl
theorem k_176 : Cond.laysFinal "TabledOrigin$FeedbackRoad" "TabledOrigin$FeedbackRoad" "numbers" "[I" ∈ zws := zin 176 (by decide +kernel) rfl
theorem k_178 : Cond.lays "TabledOrigin$FeedbackRoad" "TabledOrigin$FeedbackRoad" "length" "I" ∈ zws := zin 178 (by decide +kernel) rfl
theorem k_180 : Cond.lays "TabledOrigin$FeedbackRoad" "TabledOrigin$FeedbackRoad" "taken" "I" ∈ zws := zin 180 (by decide +kernel) rfl
theorem k_183 : Cond.classLink "TabledOrigin" 30 "TabledOrigin$Request" ∈ zws := zin 183 (by decide +kernel) rfl
theorem k_185 : Cond.fieldLink "TabledOrigin" 12 "TabledOrigin" "server" "LTabledOrigin$Server;" ∈ zws := zin 185 (by decide +kernel) rfl
theorem k_186 : Cond.fieldLink "TabledOrigin" 19 "TabledOrigin" "client" "LTabledOrigin$Client;" ∈ zws := zin 186 (by decide +kernel) rfl
theorem k_187 : Cond.fieldLink "TabledOrigin" 26 "TabledOrigin" "feedbackRoad" "LTabledOrigin$FeedbackRoad;" ∈ zws := zin 187 (by decide +kernel) rfl
theorem k_188 : Cond.fieldLink "TabledOrigin" 32 "TabledOrigin" "requests" "[LTabledOrigin$Request;" ∈ zws := zin 188 (by decide +kernel) rfl
theorem k_189 : Cond.fieldLink "TabledOrigin" 36 "TabledOrigin" "requestCount" "I" ∈ zws := zin 189 (by decide +kernel) rfl
theorem k_190 : Cond.fieldLink "TabledOrigin" 40 "TabledOrigin" "clock" "I" ∈ zws := zin 190 (by decide +kernel) rfl
theorem k_191 : Cond.laysFinal "TabledOrigin" "TabledOrigin" "server" "LTabledOrigin$Server;" ∈ zws := zin 191 (by decide +kernel) rfl
theorem k_193 : Cond.laysFinal "TabledOrigin" "TabledOrigin" "client" "LTabledOrigin$Client;" ∈ zws := zin 193 (by decide +kernel) rfl
theorem k_195 : Cond.laysFinal "TabledOrigin" "TabledOrigin" "feedbackRoad" "LTabledOrigin$FeedbackRoad;" ∈ zws := zin 195 (by decide +kernel) rfl
theorem k_197 : Cond.laysFinal "TabledOrigin" "TabledOrigin" "requests" "[LTabledOrigin$Request;" ∈ zws := zin 197 (by decide +kernel) rfl
theorem k_199 : Cond.lays "TabledOrigin" "TabledOrigin" "requestCount" "I" ∈ zws := zin 199 (by decide +kernel) rfl
theorem k_201 : Cond.lays "TabledOrigin" "TabledOrigin" "clock" "I" ∈ zws := zin 201 (by decide +kernel) rfl
theorem k_205 : Cond.instanceMethod ⟨"TabledOrigin", "put", "(III)I"⟩ ∈ zws := zin 205 (by decide +kernel) rfl
theorem k_206 : Cond.selects "TabledOrigin" ⟨"TabledOrigin", "put", "(III)I"⟩ ⟨"TabledOrigin", "put", "(III)I"⟩ ∈ zws := zin 206 (by decide +kernel) rfl
set_option maxRecDepth 20000 in
theorem k_207 : Cond.code ⟨"TabledOrigin", "put", "(III)I"⟩ prog_1_method_2_code 5 (some .int) ∈ zws := zin 207 (by rfl) rfl
theorem k_208 : Cond.methodLink "TabledOrigin" 43 ⟨"TabledOrigin$Server", "resourceAt", "(I)LTabledOrigin$Resource;"⟩ ∈ zws := zin 208 (by decide +kernel) rfl
theorem k_209 : Cond.instanceMethod ⟨"TabledOrigin$Server", "resourceAt", "(I)LTabledOrigin$Resource;"⟩ ∈ zws := zin 209 (by decide +kernel) rfl
theorem k_210 : Cond.selects "TabledOrigin$Server" ⟨"TabledOrigin$Server", "resourceAt", "(I)LTabledOrigin$Resource;"⟩ ⟨"TabledOrigin$Server", "resourceAt", "(I)LTabledOrigin$Resource;"⟩ ∈ zws := zin 210 (by decide +kernel) rfl
set_option maxRecDepth 20000 in
theorem k_211 : Cond.code ⟨"TabledOrigin$Server", "resourceAt", "(I)LTabledOrigin$Resource;"⟩ prog_7_method_2_code 2 (some (.object "TabledOrigin$Resource")) ∈ zws := zin 211 (by rfl) rfl
theorem k_212 : Cond.methodLink "TabledOrigin" 47 ⟨"TabledOrigin", "isLifetime", "(I)Z"⟩ ∈ zws := zin 212 (by decide +kernel) rfl
theorem k_213 : Cond.static ⟨"TabledOrigin", "isLifetime", "(I)Z"⟩ ∈ zws := zin 213 (by decide +kernel) rfl
set_option maxRecDepth 20000 in
theorem k_214 : Cond.code ⟨"TabledOrigin", "isLifetime", "(I)Z"⟩ prog_1_method_20_code 1 (some .boolean) ∈ zws := zin 214 (by rfl) rfl
theorem k_215 : Cond.methodLink "TabledOrigin" 51 ⟨"TabledOrigin$Server", "write", "(LTabledOrigin$Resource;II)V"⟩ ∈ zws := zin 215 (by decide +kernel) rfl
theorem k_216 : Cond.instanceMethod ⟨"TabledOrigin$Server", "write", "(LTabledOrigin$Resource;II)V"⟩ ∈ zws := zin 216 (by decide +kernel) rfl
theorem k_217 : Cond.selects "TabledOrigin$Server" ⟨"TabledOrigin$Server", "write", "(LTabledOrigin$Resource;II)V"⟩ ⟨"TabledOrigin$Server", "write", "(LTabledOrigin$Resource;II)V"⟩ ∈ zws := zin 217 (by decide +kernel) rfl
set_option maxRecDepth 20000 in
theorem k_218 : Cond.code ⟨"TabledOrigin$Server", "write", "(LTabledOrigin$Resource;II)V"⟩ prog_7_method_3_code 4 none ∈ zws := zin 218 (by rfl) rfl
theorem k_220 : Cond.instanceMethod ⟨"TabledOrigin", "drop", "(I)Z"⟩ ∈ zws := zin 220 (by decide +kernel) rfl
theorem k_221 : Cond.selects "TabledOrigin" ⟨"TabledOrigin", "drop", "(I)Z"⟩ ⟨"TabledOrigin", "drop", "(I)Z"⟩ ∈ zws := zin 221 (by decide +kernel) rfl
set_option maxRecDepth 20000 in
theorem k_222 : Cond.code ⟨"TabledOrigin", "drop", "(I)Z"⟩ prog_1_method_3_code 3 (some .boolean) ∈ zws := zin 222 (by rfl) rfl
theorem k_224 : Cond.instanceMethod ⟨"TabledOrigin", "get", "(I)I"⟩ ∈ zws := zin 224 (by decide +kernel) rfl
theorem k_225 : Cond.selects "TabledOrigin" ⟨"TabledOrigin", "get", "(I)I"⟩ ⟨"TabledOrigin", "get", "(I)I"⟩ ∈ zws := zin 225 (by decide +kernel) rfl
set_option maxRecDepth 20000 in
theorem k_226 : Cond.code ⟨"TabledOrigin", "get", "(I)I"⟩ prog_1_method_4_code 2 (some .int) ∈ zws := zin 226 (by rfl) rfl
theorem k_227 : Cond.methodLink "TabledOrigin" 64 ⟨"TabledOrigin", "makeRequest", "(IZII)I"⟩ ∈ zws := zin 227 (by decide +kernel) rfl
theorem k_229 : Cond.instanceMethod ⟨"TabledOrigin", "makeRequest", "(IZII)I"⟩ ∈ zws := zin 229 (by decide +kernel) rfl
set_option maxRecDepth 20000 in
theorem k_230 : Cond.code ⟨"TabledOrigin", "makeRequest", "(IZII)I"⟩ prog_1_method_22_code 7 (some .int) ∈ zws := zin 230 (by rfl) rfl
theorem k_231 : Cond.methodLink "TabledOrigin" 164 ⟨"TabledOrigin$Client", "storedAt", "(I)LTabledOrigin$StoredAnswer;"⟩ ∈ zws := zin 231 (by decide +kernel) rfl
theorem k_232 : Cond.instanceMethod ⟨"TabledOrigin$Client", "storedAt", "(I)LTabledOrigin$StoredAnswer;"⟩ ∈ zws := zin 232 (by decide +kernel) rfl
theorem k_233 : Cond.selects "TabledOrigin$Client" ⟨"TabledOrigin$Client", "storedAt", "(I)LTabledOrigin$StoredAnswer;"⟩ ⟨"TabledOrigin$Client", "storedAt", "(I)LTabledOrigin$StoredAnswer;"⟩ ∈ zws := zin 233 (by decide +kernel) rfl
set_option maxRecDepth 20000 in
theorem k_234 : Cond.code ⟨"TabledOrigin$Client", "storedAt", "(I)LTabledOrigin$StoredAnswer;"⟩ prog_3_method_2_code 2 (some (.object "TabledOrigin$StoredAnswer")) ∈ zws := zin 234 (by rfl) rfl
theorem k_235 : Cond.instantiable "TabledOrigin$Request" 12 ∈ zws := zin 235 (by decide +kernel) rfl
theorem k_236 : Cond.methodLink "TabledOrigin" 208 ⟨"TabledOrigin$Request", "<init>", "(IIZII)V"⟩ ∈ zws := zin 236 (by decide +kernel) rfl
theorem k_237 : Cond.instanceMethod ⟨"TabledOrigin$Request", "<init>", "(IIZII)V"⟩ ∈ zws := zin 237 (by decide +kernel) rfl
set_option maxRecDepth 20000 in
theorem k_238 : Cond.code ⟨"TabledOrigin$Request", "<init>", "(IIZII)V"⟩ prog_5_method_1_code 6 none ∈ zws := zin 238 (by rfl) rfl
theorem k_239 : Cond.methodLink "TabledOrigin$Request" 3 ⟨"java/lang/Object", "<init>", "()V"⟩ ∈ zws := zin 239 (by decide +kernel) rfl
theorem k_240 : Cond.fieldLink "TabledOrigin$Request" 9 "TabledOrigin$Request" "number" "I" ∈ zws := zin 240 (by decide +kernel) rfl
theorem k_241 : Cond.fieldLink "TabledOrigin$Server" 54 "TabledOrigin$Request" "number" "I" ∈ zws := zin 241 (by decide +kernel) rfl
theorem k_242 : Cond.fieldLink "TabledOrigin$Client" 73 "TabledOrigin$Request" "number" "I" ∈ zws := zin 242 (by decide +kernel) rfl
theorem k_243 : Cond.fieldLink "TabledOrigin" 158 "TabledOrigin$Request" "number" "I" ∈ zws := zin 243 (by decide +kernel) rfl
theorem k_244 : Cond.fieldLink "TabledOrigin$Request" 15 "TabledOrigin$Request" "resource" "I" ∈ zws := zin 244 (by decide +kernel) rfl
theorem k_245 : Cond.fieldLink "TabledOrigin$Server" 42 "TabledOrigin$Request" "resource" "I" ∈ zws := zin 245 (by decide +kernel) rfl
theorem k_246 : Cond.fieldLink "TabledOrigin$Client" 63 "TabledOrigin$Request" "resource" "I" ∈ zws := zin 246 (by decide +kernel) rfl
theorem k_247 : Cond.fieldLink "TabledOrigin$Request" 18 "TabledOrigin$Request" "isPut" "Z" ∈ zws := zin 247 (by decide +kernel) rfl
theorem k_248 : Cond.fieldLink "TabledOrigin$Client" 18 "TabledOrigin$Request" "isPut" "Z" ∈ zws := zin 248 (by decide +kernel) rfl
theorem k_249 : Cond.fieldLink "TabledOrigin$Server" 69 "TabledOrigin$Request" "isPut" "Z" ∈ zws := zin 249 (by decide +kernel) rfl
theorem k_250 : Cond.fieldLink "TabledOrigin$Request" 22 "TabledOrigin$Request" "content" "I" ∈ zws := zin 250 (by decide +kernel) rfl
theorem k_251 : Cond.fieldLink "TabledOrigin$Server" 103 "TabledOrigin$Request" "content" "I" ∈ zws := zin 251 (by decide +kernel) rfl
theorem k_252 : Cond.fieldLink "TabledOrigin$Request" 25 "TabledOrigin$Request" "lifetime" "I" ∈ zws := zin 252 (by decide +kernel) rfl
theorem k_253 : Cond.fieldLink "TabledOrigin$Server" 104 "TabledOrigin$Request" "lifetime" "I" ∈ zws := zin 253 (by decide +kernel) rfl
theorem k_254 : Cond.fieldLink "TabledOrigin$Request" 28 "TabledOrigin$Request" "tag" "I" ∈ zws := zin 254 (by decide +kernel) rfl
theorem k_255 : Cond.fieldLink "TabledOrigin$Client" 51 "TabledOrigin$Request" "tag" "I" ∈ zws := zin 255 (by decide +kernel) rfl
theorem k_256 : Cond.fieldLink "TabledOrigin$Server" 95 "TabledOrigin$Request" "tag" "I" ∈ zws := zin 256 (by decide +kernel) rfl
theorem k_257 : Cond.fieldLink "TabledOrigin$Client" 39 "TabledOrigin$Request" "sent" "I" ∈ zws := zin 257 (by decide +kernel) rfl
theorem k_258 : Cond.fieldLink "TabledOrigin$Client" 52 "TabledOrigin$Request" "keptContent" "I" ∈ zws := zin 258 (by decide +kernel) rfl
theorem k_259 : Cond.fieldLink "TabledOrigin$Client" 42 "TabledOrigin$Request" "underWay" "Z" ∈ zws := zin 259 (by decide +kernel) rfl
theorem k_260 : Cond.fieldLink "TabledOrigin" 72 "TabledOrigin$Request" "underWay" "Z" ∈ zws := zin 260 (by decide +kernel) rfl
theorem k_261 : Cond.fieldLink "TabledOrigin$Request" 31 "TabledOrigin$Request" "outcome" "I" ∈ zws := zin 261 (by decide +kernel) rfl
theorem k_262 : Cond.fieldLink "TabledOrigin" 97 "TabledOrigin$Request" "outcome" "I" ∈ zws := zin 262 (by decide +kernel) rfl
theorem k_263 : Cond.fieldLink "TabledOrigin$Request" 34 "TabledOrigin$Request" "outcomeContent" "I" ∈ zws := zin 263 (by decide +kernel) rfl
theorem k_264 : Cond.fieldLink "TabledOrigin" 161 "TabledOrigin$Request" "outcomeContent" "I" ∈ zws := zin 264 (by decide +kernel) rfl
theorem k_265 : Cond.fieldLink "TabledOrigin$Server" 83 "TabledOrigin$Request" "answer" "LTabledOrigin$Answer;" ∈ zws := zin 265 (by decide +kernel) rfl
theorem k_266 : Cond.fieldLink "TabledOrigin" 79 "TabledOrigin$Request" "answer" "LTabledOrigin$Answer;" ∈ zws := zin 266 (by decide +kernel) rfl
theorem k_267 : Cond.laysFinal "TabledOrigin$Request" "TabledOrigin$Request" "number" "I" ∈ zws := zin 267 (by decide +kernel) rfl
theorem k_269 : Cond.laysFinal "TabledOrigin$Request" "TabledOrigin$Request" "resource" "I" ∈ zws := zin 269 (by decide +kernel) rfl
theorem k_271 : Cond.laysFinal "TabledOrigin$Request" "TabledOrigin$Request" "isPut" "Z" ∈ zws := zin 271 (by decide +kernel) rfl
theorem k_273 : Cond.laysFinal "TabledOrigin$Request" "TabledOrigin$Request" "content" "I" ∈ zws := zin 273 (by decide +kernel) rfl
theorem k_275 : Cond.laysFinal "TabledOrigin$Request" "TabledOrigin$Request" "lifetime" "I" ∈ zws := zin 275 (by decide +kernel) rfl
theorem k_277 : Cond.lays "TabledOrigin$Request" "TabledOrigin$Request" "tag" "I" ∈ zws := zin 277 (by decide +kernel) rfl
theorem k_279 : Cond.lays "TabledOrigin$Request" "TabledOrigin$Request" "sent" "I" ∈ zws := zin 279 (by decide +kernel) rfl
theorem k_281 : Cond.lays "TabledOrigin$Request" "TabledOrigin$Request" "keptContent" "I" ∈ zws := zin 281 (by decide +kernel) rfl
theorem k_283 : Cond.lays "TabledOrigin$Request" "TabledOrigin$Request" "underWay" "Z" ∈ zws := zin 283 (by decide +kernel) rfl
theorem k_285 : Cond.lays "TabledOrigin$Request" "TabledOrigin$Request" "outcome" "I" ∈ zws := zin 285 (by decide +kernel) rfl
theorem k_287 : Cond.lays "TabledOrigin$Request" "TabledOrigin$Request" "outcomeContent" "I" ∈ zws := zin 287 (by decide +kernel) rfl
theorem k_289 : Cond.lays "TabledOrigin$Request" "TabledOrigin$Request" "answer" "LTabledOrigin$Answer;" ∈ zws := zin 289 (by decide +kernel) rfl
theorem k_292 : Cond.methodLink "TabledOrigin" 211 ⟨"TabledOrigin$Client", "begin", "(LTabledOrigin$Request;LTabledOrigin$StoredAnswer;I)V"⟩ ∈ zws := zin 292 (by decide +kernel) rfl
theorem k_293 : Cond.instanceMethod ⟨"TabledOrigin$Client", "begin", "(LTabledOrigin$Request;LTabledOrigin$StoredAnswer;I)V"⟩ ∈ zws := zin 293 (by decide +kernel) rfl
theorem k_294 : Cond.selects "TabledOrigin$Client" ⟨"TabledOrigin$Client", "begin", "(LTabledOrigin$Request;LTabledOrigin$StoredAnswer;I)V"⟩ ⟨"TabledOrigin$Client", "begin", "(LTabledOrigin$Request;LTabledOrigin$StoredAnswer;I)V"⟩ ∈ zws := zin 294 (by decide +kernel) rfl
set_option maxRecDepth 20000 in
theorem k_295 : Cond.code ⟨"TabledOrigin$Client", "begin", "(LTabledOrigin$Request;LTabledOrigin$StoredAnswer;I)V"⟩ prog_3_method_3_code 4 none ∈ zws := zin 295 (by rfl) rfl
theorem k_296 : Cond.methodLink "TabledOrigin$Client" 24 ⟨"TabledOrigin$StoredAnswer", "isFresh", "(I)Z"⟩ ∈ zws := zin 296 (by decide +kernel) rfl
theorem k_297 : Cond.instanceMethod ⟨"TabledOrigin$StoredAnswer", "isFresh", "(I)Z"⟩ ∈ zws := zin 297 (by decide +kernel) rfl
theorem k_298 : Cond.selects "TabledOrigin$StoredAnswer" ⟨"TabledOrigin$StoredAnswer", "isFresh", "(I)Z"⟩ ⟨"TabledOrigin$StoredAnswer", "isFresh", "(I)Z"⟩ ∈ zws := zin 298 (by decide +kernel) rfl
set_option maxRecDepth 20000 in
theorem k_299 : Cond.code ⟨"TabledOrigin$StoredAnswer", "isFresh", "(I)Z"⟩ prog_8_method_2_code 2 (some .boolean) ∈ zws := zin 299 (by rfl) rfl
theorem k_300 : Cond.methodLink "TabledOrigin$Client" 32 ⟨"TabledOrigin$Request", "settle", "(II)V"⟩ ∈ zws := zin 300 (by decide +kernel) rfl
theorem k_301 : Cond.instanceMethod ⟨"TabledOrigin$Request", "settle", "(II)V"⟩ ∈ zws := zin 301 (by decide +kernel) rfl
theorem k_302 : Cond.selects "TabledOrigin$Request" ⟨"TabledOrigin$Request", "settle", "(II)V"⟩ ⟨"TabledOrigin$Request", "settle", "(II)V"⟩ ∈ zws := zin 302 (by decide +kernel) rfl
set_option maxRecDepth 20000 in
theorem k_303 : Cond.code ⟨"TabledOrigin$Request", "settle", "(II)V"⟩ prog_5_method_2_code 3 none ∈ zws := zin 303 (by rfl) rfl
theorem k_305 : Cond.instanceMethod ⟨"TabledOrigin", "replace", "(III)I"⟩ ∈ zws := zin 305 (by decide +kernel) rfl
theorem k_306 : Cond.selects "TabledOrigin" ⟨"TabledOrigin", "replace", "(III)I"⟩ ⟨"TabledOrigin", "replace", "(III)I"⟩ ∈ zws := zin 306 (by decide +kernel) rfl
set_option maxRecDepth 20000 in
theorem k_307 : Cond.code ⟨"TabledOrigin", "replace", "(III)I"⟩ prog_1_method_5_code 4 (some .int) ∈ zws := zin 307 (by rfl) rfl
theorem k_309 : Cond.instanceMethod ⟨"TabledOrigin", "arrive", "(I)I"⟩ ∈ zws := zin 309 (by decide +kernel) rfl
theorem k_310 : Cond.selects "TabledOrigin" ⟨"TabledOrigin", "arrive", "(I)I"⟩ ⟨"TabledOrigin", "arrive", "(I)I"⟩ ∈ zws := zin 310 (by decide +kernel) rfl
set_option maxRecDepth 20000 in
theorem k_311 : Cond.code ⟨"TabledOrigin", "arrive", "(I)I"⟩ prog_1_method_6_code 3 (some .int) ∈ zws := zin 311 (by rfl) rfl
theorem k_312 : Cond.methodLink "TabledOrigin" 68 ⟨"TabledOrigin", "requestAt", "(I)LTabledOrigin$Request;"⟩ ∈ zws := zin 312 (by decide +kernel) rfl
theorem k_314 : Cond.instanceMethod ⟨"TabledOrigin", "requestAt", "(I)LTabledOrigin$Request;"⟩ ∈ zws := zin 314 (by decide +kernel) rfl
set_option maxRecDepth 20000 in
theorem k_315 : Cond.code ⟨"TabledOrigin", "requestAt", "(I)LTabledOrigin$Request;"⟩ prog_1_method_21_code 2 (some (.object "TabledOrigin$Request")) ∈ zws := zin 315 (by rfl) rfl
theorem k_316 : Cond.methodLink "TabledOrigin" 75 ⟨"TabledOrigin$Server", "takeRequest", "(LTabledOrigin$Request;)I"⟩ ∈ zws := zin 316 (by decide +kernel) rfl
theorem k_317 : Cond.instanceMethod ⟨"TabledOrigin$Server", "takeRequest", "(LTabledOrigin$Request;)I"⟩ ∈ zws := zin 317 (by decide +kernel) rfl
theorem k_318 : Cond.selects "TabledOrigin$Server" ⟨"TabledOrigin$Server", "takeRequest", "(LTabledOrigin$Request;)I"⟩ ⟨"TabledOrigin$Server", "takeRequest", "(LTabledOrigin$Request;)I"⟩ ∈ zws := zin 318 (by decide +kernel) rfl
set_option maxRecDepth 20000 in
theorem k_319 : Cond.code ⟨"TabledOrigin$Server", "takeRequest", "(LTabledOrigin$Request;)I"⟩ prog_7_method_4_code 4 (some .int) ∈ zws := zin 319 (by rfl) rfl
theorem k_320 : Cond.methodLink "TabledOrigin$Server" 47 ⟨"TabledOrigin$Server", "resourceAt", "(I)LTabledOrigin$Resource;"⟩ ∈ zws := zin 320 (by decide +kernel) rfl
theorem k_321 : Cond.methodLink "TabledOrigin$Server" 63 ⟨"java/lang/Math", "max", "(II)I"⟩ ∈ zws := zin 321 (by decide +kernel) rfl
theorem k_322 : Cond.static ⟨"java/lang/Math", "max", "(II)I"⟩ ∈ zws := zin 322 (by decide +kernel) rfl
set_option maxRecDepth 20000 in
theorem k_323 : Cond.code ⟨"java/lang/Math", "max", "(II)I"⟩ prog_12_method_65_code 2 (some .int) ∈ zws := zin 323 (by rfl) rfl
theorem k_324 : Cond.methodLink "TabledOrigin$Server" 72 ⟨"TabledOrigin$Server", "answerPut", "(LTabledOrigin$Request;LTabledOrigin$Resource;)LTabledOrigin$Answer;"⟩ ∈ zws := zin 324 (by decide +kernel) rfl
theorem k_326 : Cond.instanceMethod ⟨"TabledOrigin$Server", "answerPut", "(LTabledOrigin$Request;LTabledOrigin$Resource;)LTabledOrigin$Answer;"⟩ ∈ zws := zin 326 (by decide +kernel) rfl
set_option maxRecDepth 20000 in
theorem k_327 : Cond.code ⟨"TabledOrigin$Server", "answerPut", "(LTabledOrigin$Request;LTabledOrigin$Resource;)LTabledOrigin$Answer;"⟩ prog_7_method_7_code 5 (some (.object "TabledOrigin$Answer")) ∈ zws := zin 327 (by rfl) rfl
theorem k_328 : Cond.classLink "TabledOrigin$Server" 88 "TabledOrigin$Answer" ∈ zws := zin 328 (by decide +kernel) rfl
theorem k_329 : Cond.instantiable "TabledOrigin$Answer" 10 ∈ zws := zin 329 (by decide +kernel) rfl
theorem k_330 : Cond.methodLink "TabledOrigin$Server" 92 ⟨"TabledOrigin$Answer", "<init>", "(I)V"⟩ ∈ zws := zin 330 (by decide +kernel) rfl
theorem k_331 : Cond.instanceMethod ⟨"TabledOrigin$Answer", "<init>", "(I)V"⟩ ∈ zws := zin 331 (by decide +kernel) rfl
set_option maxRecDepth 20000 in
theorem k_332 : Cond.code ⟨"TabledOrigin$Answer", "<init>", "(I)V"⟩ prog_2_method_1_code 2 none ∈ zws := zin 332 (by rfl) rfl
theorem k_333 : Cond.methodLink "TabledOrigin$Answer" 3 ⟨"java/lang/Object", "<init>", "()V"⟩ ∈ zws := zin 333 (by decide +kernel) rfl
theorem k_334 : Cond.fieldLink "TabledOrigin$Answer" 9 "TabledOrigin$Answer" "status" "I" ∈ zws := zin 334 (by decide +kernel) rfl
theorem k_335 : Cond.fieldLink "TabledOrigin$Server" 87 "TabledOrigin$Answer" "status" "I" ∈ zws := zin 335 (by decide +kernel) rfl
theorem k_336 : Cond.fieldLink "TabledOrigin$Client" 70 "TabledOrigin$Answer" "status" "I" ∈ zws := zin 336 (by decide +kernel) rfl
theorem k_337 : Cond.fieldLink "TabledOrigin$Answer" 15 "TabledOrigin$Answer" "referredTo" "[I" ∈ zws := zin 337 (by decide +kernel) rfl
theorem k_338 : Cond.fieldLink "TabledOrigin$Answer" 23 "TabledOrigin$Answer" "referenceCount" "I" ∈ zws := zin 338 (by decide +kernel) rfl
theorem k_339 : Cond.fieldLink "TabledOrigin$Table" 64 "TabledOrigin$Answer" "referenceCount" "I" ∈ zws := zin 339 (by decide +kernel) rfl
theorem k_340 : Cond.fieldLink "TabledOrigin$Answer" 26 "TabledOrigin$Answer" "need" "I" ∈ zws := zin 340 (by decide +kernel) rfl
theorem k_341 : Cond.fieldLink "TabledOrigin$Client" 55 "TabledOrigin$Answer" "need" "I" ∈ zws := zin 341 (by decide +kernel) rfl
theorem k_342 : Cond.fieldLink "TabledOrigin$Table" 37 "TabledOrigin$Answer" "need" "I" ∈ zws := zin 342 (by decide +kernel) rfl
theorem k_343 : Cond.fieldLink "TabledOrigin" 222 "TabledOrigin$Answer" "need" "I" ∈ zws := zin 343 (by decide +kernel) rfl
theorem k_344 : Cond.fieldLink "TabledOrigin$Client" 95 "TabledOrigin$Answer" "tag" "I" ∈ zws := zin 344 (by decide +kernel) rfl
theorem k_345 : Cond.fieldLink "TabledOrigin$Server" 96 "TabledOrigin$Answer" "tag" "I" ∈ zws := zin 345 (by decide +kernel) rfl
theorem k_346 : Cond.fieldLink "TabledOrigin$Client" 96 "TabledOrigin$Answer" "lifetime" "I" ∈ zws := zin 346 (by decide +kernel) rfl
theorem k_347 : Cond.fieldLink "TabledOrigin$Server" 97 "TabledOrigin$Answer" "lifetime" "I" ∈ zws := zin 347 (by decide +kernel) rfl
theorem k_348 : Cond.fieldLink "TabledOrigin$Client" 80 "TabledOrigin$Answer" "content" "I" ∈ zws := zin 348 (by decide +kernel) rfl
theorem k_349 : Cond.fieldLink "TabledOrigin$Server" 102 "TabledOrigin$Answer" "content" "I" ∈ zws := zin 349 (by decide +kernel) rfl
theorem k_350 : Cond.fieldLink "TabledOrigin$Answer" 19 "TabledOrigin$Answer" "underWay" "Z" ∈ zws := zin 350 (by decide +kernel) rfl
theorem k_351 : Cond.fieldLink "TabledOrigin" 83 "TabledOrigin$Answer" "underWay" "Z" ∈ zws := zin 351 (by decide +kernel) rfl
theorem k_352 : Cond.fieldLink "TabledOrigin" 90 "TabledOrigin$Answer" "blocked" "Z" ∈ zws := zin 352 (by decide +kernel) rfl
theorem k_353 : Cond.fieldLink "TabledOrigin$Table" 70 "TabledOrigin$Answer" "outstanding" "Z" ∈ zws := zin 353 (by decide +kernel) rfl
theorem k_354 : Cond.fieldLink "TabledOrigin" 219 "TabledOrigin$Answer" "outstanding" "Z" ∈ zws := zin 354 (by decide +kernel) rfl
theorem k_355 : Cond.laysFinal "TabledOrigin$Answer" "TabledOrigin$Answer" "status" "I" ∈ zws := zin 355 (by decide +kernel) rfl
theorem k_357 : Cond.laysFinal "TabledOrigin$Answer" "TabledOrigin$Answer" "referredTo" "[I" ∈ zws := zin 357 (by decide +kernel) rfl
theorem k_359 : Cond.lays "TabledOrigin$Answer" "TabledOrigin$Answer" "referenceCount" "I" ∈ zws := zin 359 (by decide +kernel) rfl
theorem k_361 : Cond.lays "TabledOrigin$Answer" "TabledOrigin$Answer" "need" "I" ∈ zws := zin 361 (by decide +kernel) rfl
theorem k_363 : Cond.lays "TabledOrigin$Answer" "TabledOrigin$Answer" "tag" "I" ∈ zws := zin 363 (by decide +kernel) rfl
theorem k_365 : Cond.lays "TabledOrigin$Answer" "TabledOrigin$Answer" "lifetime" "I" ∈ zws := zin 365 (by decide +kernel) rfl
theorem k_367 : Cond.lays "TabledOrigin$Answer" "TabledOrigin$Answer" "content" "I" ∈ zws := zin 367 (by decide +kernel) rfl
theorem k_369 : Cond.lays "TabledOrigin$Answer" "TabledOrigin$Answer" "underWay" "Z" ∈ zws := zin 369 (by decide +kernel) rfl
theorem k_371 : Cond.lays "TabledOrigin$Answer" "TabledOrigin$Answer" "blocked" "Z" ∈ zws := zin 371 (by decide +kernel) rfl
theorem k_373 : Cond.lays "TabledOrigin$Answer" "TabledOrigin$Answer" "outstanding" "Z" ∈ zws := zin 373 (by decide +kernel) rfl
theorem k_376 : Cond.methodLink "TabledOrigin$Server" 105 ⟨"TabledOrigin$Server", "write", "(LTabledOrigin$Resource;II)V"⟩ ∈ zws := zin 376 (by decide +kernel) rfl
theorem k_377 : Cond.methodLink "TabledOrigin$Server" 98 ⟨"TabledOrigin$Table", "putDown", "(LTabledOrigin$Answer;II)V"⟩ ∈ zws := zin 377 (by decide +kernel) rfl
theorem k_378 : Cond.instanceMethod ⟨"TabledOrigin$Table", "putDown", "(LTabledOrigin$Answer;II)V"⟩ ∈ zws := zin 378 (by decide +kernel) rfl
theorem k_379 : Cond.selects "TabledOrigin$Table" ⟨"TabledOrigin$Table", "putDown", "(LTabledOrigin$Answer;II)V"⟩ ⟨"TabledOrigin$Table", "putDown", "(LTabledOrigin$Answer;II)V"⟩ ∈ zws := zin 379 (by decide +kernel) rfl
set_option maxRecDepth 20000 in
theorem k_380 : Cond.code ⟨"TabledOrigin$Table", "putDown", "(LTabledOrigin$Answer;II)V"⟩ prog_9_method_5_code 6 none ∈ zws := zin 380 (by rfl) rfl
theorem k_381 : Cond.methodLink "TabledOrigin$Table" 43 ⟨"TabledOrigin$Table", "atRisk", "()I"⟩ ∈ zws := zin 381 (by decide +kernel) rfl
theorem k_382 : Cond.instanceMethod ⟨"TabledOrigin$Table", "atRisk", "()I"⟩ ∈ zws := zin 382 (by decide +kernel) rfl
theorem k_383 : Cond.selects "TabledOrigin$Table" ⟨"TabledOrigin$Table", "atRisk", "()I"⟩ ⟨"TabledOrigin$Table", "atRisk", "()I"⟩ ∈ zws := zin 383 (by decide +kernel) rfl
set_option maxRecDepth 20000 in
theorem k_384 : Cond.code ⟨"TabledOrigin$Table", "atRisk", "()I"⟩ prog_9_method_8_code 1 (some .int) ∈ zws := zin 384 (by rfl) rfl
theorem k_385 : Cond.methodLink "TabledOrigin$Table" 77 ⟨"TabledOrigin$Table", "outstandingNeeding", "(I)I"⟩ ∈ zws := zin 385 (by decide +kernel) rfl
theorem k_386 : Cond.instanceMethod ⟨"TabledOrigin$Table", "outstandingNeeding", "(I)I"⟩ ∈ zws := zin 386 (by decide +kernel) rfl
theorem k_387 : Cond.selects "TabledOrigin$Table" ⟨"TabledOrigin$Table", "outstandingNeeding", "(I)I"⟩ ⟨"TabledOrigin$Table", "outstandingNeeding", "(I)I"⟩ ∈ zws := zin 387 (by decide +kernel) rfl
set_option maxRecDepth 20000 in
theorem k_388 : Cond.code ⟨"TabledOrigin$Table", "outstandingNeeding", "(I)I"⟩ prog_9_method_9_code 5 (some .int) ∈ zws := zin 388 (by rfl) rfl
theorem k_389 : Cond.methodLink "TabledOrigin$Table" 47 ⟨"TabledOrigin$Table", "findLive", "(II)I"⟩ ∈ zws := zin 389 (by decide +kernel) rfl
theorem k_391 : Cond.instanceMethod ⟨"TabledOrigin$Table", "findLive", "(II)I"⟩ ∈ zws := zin 391 (by decide +kernel) rfl
set_option maxRecDepth 20000 in
theorem k_392 : Cond.code ⟨"TabledOrigin$Table", "findLive", "(II)I"⟩ prog_9_method_11_code 5 (some .int) ∈ zws := zin 392 (by rfl) rfl
theorem k_393 : Cond.methodLink "TabledOrigin$Table" 85 ⟨"TabledOrigin$Table", "liveCount", "()I"⟩ ∈ zws := zin 393 (by decide +kernel) rfl
theorem k_394 : Cond.instanceMethod ⟨"TabledOrigin$Table", "liveCount", "()I"⟩ ∈ zws := zin 394 (by decide +kernel) rfl
theorem k_395 : Cond.selects "TabledOrigin$Table" ⟨"TabledOrigin$Table", "liveCount", "()I"⟩ ⟨"TabledOrigin$Table", "liveCount", "()I"⟩ ∈ zws := zin 395 (by decide +kernel) rfl
set_option maxRecDepth 20000 in
theorem k_396 : Cond.code ⟨"TabledOrigin$Table", "liveCount", "()I"⟩ prog_9_method_2_code 1 (some .int) ∈ zws := zin 396 (by rfl) rfl
theorem k_397 : Cond.methodLink "TabledOrigin$Table" 28 ⟨"java/lang/Math", "min", "(II)I"⟩ ∈ zws := zin 397 (by decide +kernel) rfl
theorem k_398 : Cond.static ⟨"java/lang/Math", "min", "(II)I"⟩ ∈ zws := zin 398 (by decide +kernel) rfl
set_option maxRecDepth 20000 in
theorem k_399 : Cond.code ⟨"java/lang/Math", "min", "(II)I"⟩ prog_12_method_69_code 2 (some .int) ∈ zws := zin 399 (by rfl) rfl
theorem k_400 : Cond.methodLink "TabledOrigin$Table" 88 ⟨"TabledOrigin$Table", "nameOf", "(I)I"⟩ ∈ zws := zin 400 (by decide +kernel) rfl
theorem k_401 : Cond.instanceMethod ⟨"TabledOrigin$Table", "nameOf", "(I)I"⟩ ∈ zws := zin 401 (by decide +kernel) rfl
theorem k_402 : Cond.selects "TabledOrigin$Table" ⟨"TabledOrigin$Table", "nameOf", "(I)I"⟩ ⟨"TabledOrigin$Table", "nameOf", "(I)I"⟩ ∈ zws := zin 402 (by decide +kernel) rfl
set_option maxRecDepth 20000 in
theorem k_403 : Cond.code ⟨"TabledOrigin$Table", "nameOf", "(I)I"⟩ prog_9_method_3_code 2 (some .int) ∈ zws := zin 403 (by rfl) rfl
theorem k_404 : Cond.methodLink "TabledOrigin$Table" 34 ⟨"java/lang/Math", "floorMod", "(II)I"⟩ ∈ zws := zin 404 (by decide +kernel) rfl
theorem k_405 : Cond.static ⟨"java/lang/Math", "floorMod", "(II)I"⟩ ∈ zws := zin 405 (by decide +kernel) rfl
set_option maxRecDepth 20000 in
theorem k_406 : Cond.code ⟨"java/lang/Math", "floorMod", "(II)I"⟩ prog_12_method_50_code 3 (some .int) ∈ zws := zin 406 (by rfl) rfl
theorem k_407 : Cond.methodLink "TabledOrigin$Table" 91 ⟨"TabledOrigin$Table", "valueOf", "(I)I"⟩ ∈ zws := zin 407 (by decide +kernel) rfl
theorem k_408 : Cond.instanceMethod ⟨"TabledOrigin$Table", "valueOf", "(I)I"⟩ ∈ zws := zin 408 (by decide +kernel) rfl
theorem k_409 : Cond.selects "TabledOrigin$Table" ⟨"TabledOrigin$Table", "valueOf", "(I)I"⟩ ⟨"TabledOrigin$Table", "valueOf", "(I)I"⟩ ∈ zws := zin 409 (by decide +kernel) rfl
set_option maxRecDepth 20000 in
theorem k_410 : Cond.code ⟨"TabledOrigin$Table", "valueOf", "(I)I"⟩ prog_9_method_4_code 2 (some .int) ∈ zws := zin 410 (by rfl) rfl
theorem k_411 : Cond.methodLink "TabledOrigin$Table" 50 ⟨"TabledOrigin$Table", "refer", "(LTabledOrigin$Answer;I)V"⟩ ∈ zws := zin 411 (by decide +kernel) rfl
theorem k_413 : Cond.instanceMethod ⟨"TabledOrigin$Table", "refer", "(LTabledOrigin$Answer;I)V"⟩ ∈ zws := zin 413 (by decide +kernel) rfl
set_option maxRecDepth 20000 in
theorem k_414 : Cond.code ⟨"TabledOrigin$Table", "refer", "(LTabledOrigin$Answer;I)V"⟩ prog_9_method_14_code 3 none ∈ zws := zin 414 (by rfl) rfl
theorem k_415 : Cond.methodLink "TabledOrigin$Table" 97 ⟨"TabledOrigin$Answer", "addReference", "(I)V"⟩ ∈ zws := zin 415 (by decide +kernel) rfl
theorem k_416 : Cond.instanceMethod ⟨"TabledOrigin$Answer", "addReference", "(I)V"⟩ ∈ zws := zin 416 (by decide +kernel) rfl
theorem k_417 : Cond.selects "TabledOrigin$Answer" ⟨"TabledOrigin$Answer", "addReference", "(I)V"⟩ ⟨"TabledOrigin$Answer", "addReference", "(I)V"⟩ ∈ zws := zin 417 (by decide +kernel) rfl
set_option maxRecDepth 20000 in
theorem k_418 : Cond.code ⟨"TabledOrigin$Answer", "addReference", "(I)V"⟩ prog_2_method_2_code 2 none ∈ zws := zin 418 (by rfl) rfl
theorem k_419 : Cond.methodLink "TabledOrigin$Answer" 29 ⟨"java/lang/Math", "max", "(II)I"⟩ ∈ zws := zin 419 (by decide +kernel) rfl
theorem k_420 : Cond.methodLink "TabledOrigin$Table" 54 ⟨"TabledOrigin$Table", "hasRoomFor", "(LTabledOrigin$Answer;)Z"⟩ ∈ zws := zin 420 (by decide +kernel) rfl
theorem k_422 : Cond.instanceMethod ⟨"TabledOrigin$Table", "hasRoomFor", "(LTabledOrigin$Answer;)Z"⟩ ∈ zws := zin 422 (by decide +kernel) rfl
set_option maxRecDepth 20000 in
theorem k_423 : Cond.code ⟨"TabledOrigin$Table", "hasRoomFor", "(LTabledOrigin$Answer;)Z"⟩ prog_9_method_12_code 3 (some .boolean) ∈ zws := zin 423 (by rfl) rfl
theorem k_424 : Cond.methodLink "TabledOrigin$Table" 94 ⟨"TabledOrigin$Table", "referencesTo", "(I)I"⟩ ∈ zws := zin 424 (by decide +kernel) rfl
theorem k_425 : Cond.instanceMethod ⟨"TabledOrigin$Table", "referencesTo", "(I)I"⟩ ∈ zws := zin 425 (by decide +kernel) rfl
theorem k_426 : Cond.selects "TabledOrigin$Table" ⟨"TabledOrigin$Table", "referencesTo", "(I)I"⟩ ⟨"TabledOrigin$Table", "referencesTo", "(I)I"⟩ ∈ zws := zin 426 (by decide +kernel) rfl
set_option maxRecDepth 20000 in
theorem k_427 : Cond.code ⟨"TabledOrigin$Table", "referencesTo", "(I)I"⟩ prog_9_method_10_code 5 (some .int) ∈ zws := zin 427 (by rfl) rfl
theorem k_428 : Cond.methodLink "TabledOrigin$Table" 81 ⟨"TabledOrigin$Answer", "refersTo", "(I)Z"⟩ ∈ zws := zin 428 (by decide +kernel) rfl
theorem k_429 : Cond.instanceMethod ⟨"TabledOrigin$Answer", "refersTo", "(I)Z"⟩ ∈ zws := zin 429 (by decide +kernel) rfl
theorem k_430 : Cond.selects "TabledOrigin$Answer" ⟨"TabledOrigin$Answer", "refersTo", "(I)Z"⟩ ⟨"TabledOrigin$Answer", "refersTo", "(I)Z"⟩ ∈ zws := zin 430 (by decide +kernel) rfl
set_option maxRecDepth 20000 in
theorem k_431 : Cond.code ⟨"TabledOrigin$Answer", "refersTo", "(I)Z"⟩ prog_2_method_3_code 3 (some .boolean) ∈ zws := zin 431 (by rfl) rfl
theorem k_432 : Cond.methodLink "TabledOrigin$Table" 58 ⟨"TabledOrigin$Table", "makeEntry", "(II)I"⟩ ∈ zws := zin 432 (by decide +kernel) rfl
theorem k_434 : Cond.instanceMethod ⟨"TabledOrigin$Table", "makeEntry", "(II)I"⟩ ∈ zws := zin 434 (by decide +kernel) rfl
set_option maxRecDepth 20000 in
theorem k_435 : Cond.code ⟨"TabledOrigin$Table", "makeEntry", "(II)I"⟩ prog_9_method_13_code 4 (some .int) ∈ zws := zin 435 (by rfl) rfl
theorem k_436 : Cond.methodLink "TabledOrigin$Server" 76 ⟨"TabledOrigin$Server", "answerGet", "(LTabledOrigin$Request;LTabledOrigin$Resource;)LTabledOrigin$Answer;"⟩ ∈ zws := zin 436 (by decide +kernel) rfl
theorem k_438 : Cond.instanceMethod ⟨"TabledOrigin$Server", "answerGet", "(LTabledOrigin$Request;LTabledOrigin$Resource;)LTabledOrigin$Answer;"⟩ ∈ zws := zin 438 (by decide +kernel) rfl
set_option maxRecDepth 20000 in
theorem k_439 : Cond.code ⟨"TabledOrigin$Server", "answerGet", "(LTabledOrigin$Request;LTabledOrigin$Resource;)LTabledOrigin$Answer;"⟩ prog_7_method_6_code 5 (some (.object "TabledOrigin$Answer")) ∈ zws := zin 439 (by rfl) rfl
theorem k_440 : Cond.methodLink "TabledOrigin$Server" 79 ⟨"TabledOrigin$Table", "keepIfReferring", "(LTabledOrigin$Answer;)V"⟩ ∈ zws := zin 440 (by decide +kernel) rfl
theorem k_441 : Cond.instanceMethod ⟨"TabledOrigin$Table", "keepIfReferring", "(LTabledOrigin$Answer;)V"⟩ ∈ zws := zin 441 (by decide +kernel) rfl
theorem k_442 : Cond.selects "TabledOrigin$Table" ⟨"TabledOrigin$Table", "keepIfReferring", "(LTabledOrigin$Answer;)V"⟩ ⟨"TabledOrigin$Table", "keepIfReferring", "(LTabledOrigin$Answer;)V"⟩ ∈ zws := zin 442 (by decide +kernel) rfl
set_option maxRecDepth 20000 in
theorem k_443 : Cond.code ⟨"TabledOrigin$Table", "keepIfReferring", "(LTabledOrigin$Answer;)V"⟩ prog_9_method_6_code 2 none ∈ zws := zin 443 (by rfl) rfl
theorem k_445 : Cond.instanceMethod ⟨"TabledOrigin", "reply", "(I)I"⟩ ∈ zws := zin 445 (by decide +kernel) rfl
theorem k_446 : Cond.selects "TabledOrigin" ⟨"TabledOrigin", "reply", "(I)I"⟩ ⟨"TabledOrigin", "reply", "(I)I"⟩ ∈ zws := zin 446 (by decide +kernel) rfl
set_option maxRecDepth 20000 in
theorem k_447 : Cond.code ⟨"TabledOrigin", "reply", "(I)I"⟩ prog_1_method_7_code 3 (some .int) ∈ zws := zin 447 (by rfl) rfl
theorem k_448 : Cond.methodLink "TabledOrigin" 86 ⟨"TabledOrigin$Client", "mustWaitFor", "(LTabledOrigin$Answer;)Z"⟩ ∈ zws := zin 448 (by decide +kernel) rfl
theorem k_449 : Cond.instanceMethod ⟨"TabledOrigin$Client", "mustWaitFor", "(LTabledOrigin$Answer;)Z"⟩ ∈ zws := zin 449 (by decide +kernel) rfl
theorem k_450 : Cond.selects "TabledOrigin$Client" ⟨"TabledOrigin$Client", "mustWaitFor", "(LTabledOrigin$Answer;)Z"⟩ ⟨"TabledOrigin$Client", "mustWaitFor", "(LTabledOrigin$Answer;)Z"⟩ ∈ zws := zin 450 (by decide +kernel) rfl
set_option maxRecDepth 20000 in
theorem k_451 : Cond.code ⟨"TabledOrigin$Client", "mustWaitFor", "(LTabledOrigin$Answer;)Z"⟩ prog_3_method_4_code 2 (some .boolean) ∈ zws := zin 451 (by rfl) rfl
theorem k_452 : Cond.methodLink "TabledOrigin" 93 ⟨"TabledOrigin$Client", "read", "(LTabledOrigin$Request;LTabledOrigin$Answer;LTabledOrigin$FeedbackRoad;)V"⟩ ∈ zws := zin 452 (by decide +kernel) rfl
theorem k_453 : Cond.instanceMethod ⟨"TabledOrigin$Client", "read", "(LTabledOrigin$Request;LTabledOrigin$Answer;LTabledOrigin$FeedbackRoad;)V"⟩ ∈ zws := zin 453 (by decide +kernel) rfl
theorem k_454 : Cond.selects "TabledOrigin$Client" ⟨"TabledOrigin$Client", "read", "(LTabledOrigin$Request;LTabledOrigin$Answer;LTabledOrigin$FeedbackRoad;)V"⟩ ⟨"TabledOrigin$Client", "read", "(LTabledOrigin$Request;LTabledOrigin$Answer;LTabledOrigin$FeedbackRoad;)V"⟩ ∈ zws := zin 454 (by decide +kernel) rfl
set_option maxRecDepth 20000 in
theorem k_455 : Cond.code ⟨"TabledOrigin$Client", "read", "(LTabledOrigin$Request;LTabledOrigin$Answer;LTabledOrigin$FeedbackRoad;)V"⟩ prog_3_method_5_code 5 none ∈ zws := zin 455 (by rfl) rfl
theorem k_456 : Cond.methodLink "TabledOrigin$Client" 66 ⟨"TabledOrigin$Client", "storedAt", "(I)LTabledOrigin$StoredAnswer;"⟩ ∈ zws := zin 456 (by decide +kernel) rfl
theorem k_457 : Cond.methodLink "TabledOrigin$Client" 76 ⟨"TabledOrigin$StoredAnswer", "forgetIfOlderThan", "(I)V"⟩ ∈ zws := zin 457 (by decide +kernel) rfl
theorem k_458 : Cond.instanceMethod ⟨"TabledOrigin$StoredAnswer", "forgetIfOlderThan", "(I)V"⟩ ∈ zws := zin 458 (by decide +kernel) rfl
theorem k_459 : Cond.selects "TabledOrigin$StoredAnswer" ⟨"TabledOrigin$StoredAnswer", "forgetIfOlderThan", "(I)V"⟩ ⟨"TabledOrigin$StoredAnswer", "forgetIfOlderThan", "(I)V"⟩ ∈ zws := zin 459 (by decide +kernel) rfl
set_option maxRecDepth 20000 in
theorem k_460 : Cond.code ⟨"TabledOrigin$StoredAnswer", "forgetIfOlderThan", "(I)V"⟩ prog_8_method_4_code 2 none ∈ zws := zin 460 (by rfl) rfl
theorem k_461 : Cond.methodLink "TabledOrigin$Client" 81 ⟨"TabledOrigin$Client", "store", "(LTabledOrigin$StoredAnswer;LTabledOrigin$Request;LTabledOrigin$Answer;)V"⟩ ∈ zws := zin 461 (by decide +kernel) rfl
theorem k_463 : Cond.instanceMethod ⟨"TabledOrigin$Client", "store", "(LTabledOrigin$StoredAnswer;LTabledOrigin$Request;LTabledOrigin$Answer;)V"⟩ ∈ zws := zin 463 (by decide +kernel) rfl
set_option maxRecDepth 20000 in
theorem k_464 : Cond.code ⟨"TabledOrigin$Client", "store", "(LTabledOrigin$StoredAnswer;LTabledOrigin$Request;LTabledOrigin$Answer;)V"⟩ prog_3_method_6_code 4 none ∈ zws := zin 464 (by rfl) rfl
theorem k_465 : Cond.methodLink "TabledOrigin$Client" 85 ⟨"TabledOrigin$Client", "renew", "(LTabledOrigin$StoredAnswer;LTabledOrigin$Request;LTabledOrigin$Answer;)V"⟩ ∈ zws := zin 465 (by decide +kernel) rfl
theorem k_467 : Cond.instanceMethod ⟨"TabledOrigin$Client", "renew", "(LTabledOrigin$StoredAnswer;LTabledOrigin$Request;LTabledOrigin$Answer;)V"⟩ ∈ zws := zin 467 (by decide +kernel) rfl
set_option maxRecDepth 20000 in
theorem k_468 : Cond.code ⟨"TabledOrigin$Client", "renew", "(LTabledOrigin$StoredAnswer;LTabledOrigin$Request;LTabledOrigin$Answer;)V"⟩ prog_3_method_7_code 4 none ∈ zws := zin 468 (by rfl) rfl
theorem k_469 : Cond.methodLink "TabledOrigin$Client" 88 ⟨"TabledOrigin$Client", "acknowledge", "(LTabledOrigin$Request;LTabledOrigin$Answer;LTabledOrigin$FeedbackRoad;)V"⟩ ∈ zws := zin 469 (by decide +kernel) rfl
theorem k_471 : Cond.instanceMethod ⟨"TabledOrigin$Client", "acknowledge", "(LTabledOrigin$Request;LTabledOrigin$Answer;LTabledOrigin$FeedbackRoad;)V"⟩ ∈ zws := zin 471 (by decide +kernel) rfl
set_option maxRecDepth 20000 in
theorem k_472 : Cond.code ⟨"TabledOrigin$Client", "acknowledge", "(LTabledOrigin$Request;LTabledOrigin$Answer;LTabledOrigin$FeedbackRoad;)V"⟩ prog_3_method_8_code 4 none ∈ zws := zin 472 (by rfl) rfl
theorem k_473 : Cond.methodLink "TabledOrigin$Client" 103 ⟨"TabledOrigin$FeedbackRoad", "append", "(II)V"⟩ ∈ zws := zin 473 (by decide +kernel) rfl
theorem k_474 : Cond.instanceMethod ⟨"TabledOrigin$FeedbackRoad", "append", "(II)V"⟩ ∈ zws := zin 474 (by decide +kernel) rfl
theorem k_475 : Cond.selects "TabledOrigin$FeedbackRoad" ⟨"TabledOrigin$FeedbackRoad", "append", "(II)V"⟩ ⟨"TabledOrigin$FeedbackRoad", "append", "(II)V"⟩ ∈ zws := zin 475 (by decide +kernel) rfl
set_option maxRecDepth 20000 in
theorem k_476 : Cond.code ⟨"TabledOrigin$FeedbackRoad", "append", "(II)V"⟩ prog_4_method_2_code 3 none ∈ zws := zin 476 (by rfl) rfl
theorem k_477 : Cond.methodLink "TabledOrigin$Client" 111 ⟨"java/lang/Math", "max", "(II)I"⟩ ∈ zws := zin 477 (by decide +kernel) rfl
theorem k_479 : Cond.instanceMethod ⟨"TabledOrigin", "insert", "()I"⟩ ∈ zws := zin 479 (by decide +kernel) rfl
theorem k_480 : Cond.selects "TabledOrigin" ⟨"TabledOrigin", "insert", "()I"⟩ ⟨"TabledOrigin", "insert", "()I"⟩ ∈ zws := zin 480 (by decide +kernel) rfl
set_option maxRecDepth 20000 in
theorem k_481 : Cond.code ⟨"TabledOrigin", "insert", "()I"⟩ prog_1_method_8_code 1 (some .int) ∈ zws := zin 481 (by rfl) rfl
theorem k_482 : Cond.methodLink "TabledOrigin" 112 ⟨"TabledOrigin", "readUnblocked", "()I"⟩ ∈ zws := zin 482 (by decide +kernel) rfl
theorem k_484 : Cond.instanceMethod ⟨"TabledOrigin", "readUnblocked", "()I"⟩ ∈ zws := zin 484 (by decide +kernel) rfl
set_option maxRecDepth 20000 in
theorem k_485 : Cond.code ⟨"TabledOrigin", "readUnblocked", "()I"⟩ prog_1_method_23_code 4 (some .int) ∈ zws := zin 485 (by rfl) rfl
theorem k_486 : Cond.methodLink "TabledOrigin" 215 ⟨"TabledOrigin", "isBlocked", "(LTabledOrigin$Request;)Z"⟩ ∈ zws := zin 486 (by decide +kernel) rfl
theorem k_487 : Cond.static ⟨"TabledOrigin", "isBlocked", "(LTabledOrigin$Request;)Z"⟩ ∈ zws := zin 487 (by decide +kernel) rfl
set_option maxRecDepth 20000 in
theorem k_488 : Cond.code ⟨"TabledOrigin", "isBlocked", "(LTabledOrigin$Request;)Z"⟩ prog_1_method_24_code 1 (some .boolean) ∈ zws := zin 488 (by rfl) rfl
theorem k_490 : Cond.instanceMethod ⟨"TabledOrigin", "feedback", "()I"⟩ ∈ zws := zin 490 (by decide +kernel) rfl
theorem k_491 : Cond.selects "TabledOrigin" ⟨"TabledOrigin", "feedback", "()I"⟩ ⟨"TabledOrigin", "feedback", "()I"⟩ ∈ zws := zin 491 (by decide +kernel) rfl
set_option maxRecDepth 20000 in
theorem k_492 : Cond.code ⟨"TabledOrigin", "feedback", "()I"⟩ prog_1_method_9_code 3 (some .int) ∈ zws := zin 492 (by rfl) rfl
theorem k_493 : Cond.methodLink "TabledOrigin" 116 ⟨"TabledOrigin$FeedbackRoad", "nextKind", "()I"⟩ ∈ zws := zin 493 (by decide +kernel) rfl
theorem k_494 : Cond.instanceMethod ⟨"TabledOrigin$FeedbackRoad", "nextKind", "()I"⟩ ∈ zws := zin 494 (by decide +kernel) rfl
theorem k_495 : Cond.selects "TabledOrigin$FeedbackRoad" ⟨"TabledOrigin$FeedbackRoad", "nextKind", "()I"⟩ ⟨"TabledOrigin$FeedbackRoad", "nextKind", "()I"⟩ ∈ zws := zin 495 (by decide +kernel) rfl
set_option maxRecDepth 20000 in
theorem k_496 : Cond.code ⟨"TabledOrigin$FeedbackRoad", "nextKind", "()I"⟩ prog_4_method_3_code 1 (some .int) ∈ zws := zin 496 (by rfl) rfl
theorem k_497 : Cond.methodLink "TabledOrigin" 119 ⟨"TabledOrigin$FeedbackRoad", "nextNumber", "()I"⟩ ∈ zws := zin 497 (by decide +kernel) rfl
theorem k_498 : Cond.instanceMethod ⟨"TabledOrigin$FeedbackRoad", "nextNumber", "()I"⟩ ∈ zws := zin 498 (by decide +kernel) rfl
theorem k_499 : Cond.selects "TabledOrigin$FeedbackRoad" ⟨"TabledOrigin$FeedbackRoad", "nextNumber", "()I"⟩ ⟨"TabledOrigin$FeedbackRoad", "nextNumber", "()I"⟩ ∈ zws := zin 499 (by decide +kernel) rfl
set_option maxRecDepth 20000 in
theorem k_500 : Cond.code ⟨"TabledOrigin$FeedbackRoad", "nextNumber", "()I"⟩ prog_4_method_4_code 1 (some .int) ∈ zws := zin 500 (by rfl) rfl
theorem k_501 : Cond.methodLink "TabledOrigin" 122 ⟨"TabledOrigin$FeedbackRoad", "moveOn", "()V"⟩ ∈ zws := zin 501 (by decide +kernel) rfl
theorem k_502 : Cond.instanceMethod ⟨"TabledOrigin$FeedbackRoad", "moveOn", "()V"⟩ ∈ zws := zin 502 (by decide +kernel) rfl
theorem k_503 : Cond.selects "TabledOrigin$FeedbackRoad" ⟨"TabledOrigin$FeedbackRoad", "moveOn", "()V"⟩ ⟨"TabledOrigin$FeedbackRoad", "moveOn", "()V"⟩ ∈ zws := zin 503 (by decide +kernel) rfl
set_option maxRecDepth 20000 in
theorem k_504 : Cond.code ⟨"TabledOrigin$FeedbackRoad", "moveOn", "()V"⟩ prog_4_method_5_code 1 none ∈ zws := zin 504 (by rfl) rfl
theorem k_505 : Cond.methodLink "TabledOrigin" 128 ⟨"TabledOrigin", "endOutstanding", "(IZ)V"⟩ ∈ zws := zin 505 (by decide +kernel) rfl
theorem k_507 : Cond.instanceMethod ⟨"TabledOrigin", "endOutstanding", "(IZ)V"⟩ ∈ zws := zin 507 (by decide +kernel) rfl
set_option maxRecDepth 20000 in
theorem k_508 : Cond.code ⟨"TabledOrigin", "endOutstanding", "(IZ)V"⟩ prog_1_method_26_code 4 none ∈ zws := zin 508 (by rfl) rfl
theorem k_509 : Cond.methodLink "TabledOrigin" 225 ⟨"TabledOrigin$Table", "learn", "(I)V"⟩ ∈ zws := zin 509 (by decide +kernel) rfl
theorem k_510 : Cond.instanceMethod ⟨"TabledOrigin$Table", "learn", "(I)V"⟩ ∈ zws := zin 510 (by decide +kernel) rfl
theorem k_511 : Cond.selects "TabledOrigin$Table" ⟨"TabledOrigin$Table", "learn", "(I)V"⟩ ⟨"TabledOrigin$Table", "learn", "(I)V"⟩ ∈ zws := zin 511 (by decide +kernel) rfl
set_option maxRecDepth 20000 in
theorem k_512 : Cond.code ⟨"TabledOrigin$Table", "learn", "(I)V"⟩ prog_9_method_7_code 2 none ∈ zws := zin 512 (by rfl) rfl
theorem k_513 : Cond.methodLink "TabledOrigin$Table" 74 ⟨"java/lang/Math", "max", "(II)I"⟩ ∈ zws := zin 513 (by decide +kernel) rfl
theorem k_515 : Cond.instanceMethod ⟨"TabledOrigin", "report", "()Z"⟩ ∈ zws := zin 515 (by decide +kernel) rfl
theorem k_516 : Cond.selects "TabledOrigin" ⟨"TabledOrigin", "report", "()Z"⟩ ⟨"TabledOrigin", "report", "()Z"⟩ ∈ zws := zin 516 (by decide +kernel) rfl
set_option maxRecDepth 20000 in
theorem k_517 : Cond.code ⟨"TabledOrigin", "report", "()Z"⟩ prog_1_method_10_code 2 (some .boolean) ∈ zws := zin 517 (by rfl) rfl
theorem k_518 : Cond.methodLink "TabledOrigin" 135 ⟨"TabledOrigin$FeedbackRoad", "append", "(II)V"⟩ ∈ zws := zin 518 (by decide +kernel) rfl
theorem k_520 : Cond.instanceMethod ⟨"TabledOrigin", "goaway", "()I"⟩ ∈ zws := zin 520 (by decide +kernel) rfl
theorem k_521 : Cond.selects "TabledOrigin" ⟨"TabledOrigin", "goaway", "()I"⟩ ⟨"TabledOrigin", "goaway", "()I"⟩ ∈ zws := zin 521 (by decide +kernel) rfl
set_option maxRecDepth 20000 in
theorem k_522 : Cond.code ⟨"TabledOrigin", "goaway", "()I"⟩ prog_1_method_11_code 1 (some .int) ∈ zws := zin 522 (by rfl) rfl
theorem k_523 : Cond.methodLink "TabledOrigin" 139 ⟨"TabledOrigin$Server", "announceLimit", "()V"⟩ ∈ zws := zin 523 (by decide +kernel) rfl
theorem k_524 : Cond.instanceMethod ⟨"TabledOrigin$Server", "announceLimit", "()V"⟩ ∈ zws := zin 524 (by decide +kernel) rfl
theorem k_525 : Cond.selects "TabledOrigin$Server" ⟨"TabledOrigin$Server", "announceLimit", "()V"⟩ ⟨"TabledOrigin$Server", "announceLimit", "()V"⟩ ∈ zws := zin 525 (by decide +kernel) rfl
set_option maxRecDepth 20000 in
theorem k_526 : Cond.code ⟨"TabledOrigin$Server", "announceLimit", "()V"⟩ prog_7_method_5_code 1 none ∈ zws := zin 526 (by rfl) rfl
theorem k_528 : Cond.instanceMethod ⟨"TabledOrigin", "notice", "()I"⟩ ∈ zws := zin 528 (by decide +kernel) rfl
theorem k_529 : Cond.selects "TabledOrigin" ⟨"TabledOrigin", "notice", "()I"⟩ ⟨"TabledOrigin", "notice", "()I"⟩ ∈ zws := zin 529 (by decide +kernel) rfl
set_option maxRecDepth 20000 in
theorem k_530 : Cond.code ⟨"TabledOrigin", "notice", "()I"⟩ prog_1_method_12_code 1 (some .int) ∈ zws := zin 530 (by rfl) rfl
theorem k_531 : Cond.methodLink "TabledOrigin" 151 ⟨"TabledOrigin", "refuseFrom", "(I)I"⟩ ∈ zws := zin 531 (by decide +kernel) rfl
theorem k_533 : Cond.instanceMethod ⟨"TabledOrigin", "refuseFrom", "(I)I"⟩ ∈ zws := zin 533 (by decide +kernel) rfl
set_option maxRecDepth 20000 in
theorem k_534 : Cond.code ⟨"TabledOrigin", "refuseFrom", "(I)I"⟩ prog_1_method_27_code 5 (some .int) ∈ zws := zin 534 (by rfl) rfl
theorem k_535 : Cond.methodLink "TabledOrigin" 155 ⟨"TabledOrigin$Request", "settle", "(II)V"⟩ ∈ zws := zin 535 (by decide +kernel) rfl
theorem k_537 : Cond.instanceMethod ⟨"TabledOrigin", "cancel", "(I)Z"⟩ ∈ zws := zin 537 (by decide +kernel) rfl
theorem k_538 : Cond.selects "TabledOrigin" ⟨"TabledOrigin", "cancel", "(I)Z"⟩ ⟨"TabledOrigin", "cancel", "(I)Z"⟩ ∈ zws := zin 538 (by decide +kernel) rfl
set_option maxRecDepth 20000 in
theorem k_539 : Cond.code ⟨"TabledOrigin", "cancel", "(I)Z"⟩ prog_1_method_13_code 3 (some .boolean) ∈ zws := zin 539 (by rfl) rfl
theorem k_541 : Cond.instanceMethod ⟨"TabledOrigin", "tick", "(I)Z"⟩ ∈ zws := zin 541 (by decide +kernel) rfl
theorem k_542 : Cond.selects "TabledOrigin" ⟨"TabledOrigin", "tick", "(I)Z"⟩ ⟨"TabledOrigin", "tick", "(I)Z"⟩ ∈ zws := zin 542 (by decide +kernel) rfl
set_option maxRecDepth 20000 in
theorem k_543 : Cond.code ⟨"TabledOrigin", "tick", "(I)Z"⟩ prog_1_method_14_code 2 (some .boolean) ∈ zws := zin 543 (by rfl) rfl
theorem k_545 : Cond.instanceMethod ⟨"TabledOrigin", "outcome", "(I)I"⟩ ∈ zws := zin 545 (by decide +kernel) rfl
theorem k_546 : Cond.selects "TabledOrigin" ⟨"TabledOrigin", "outcome", "(I)I"⟩ ⟨"TabledOrigin", "outcome", "(I)I"⟩ ∈ zws := zin 546 (by decide +kernel) rfl
set_option maxRecDepth 20000 in
theorem k_547 : Cond.code ⟨"TabledOrigin", "outcome", "(I)I"⟩ prog_1_method_15_code 3 (some .int) ∈ zws := zin 547 (by rfl) rfl
theorem k_549 : Cond.instanceMethod ⟨"TabledOrigin", "content", "(I)I"⟩ ∈ zws := zin 549 (by decide +kernel) rfl
theorem k_550 : Cond.selects "TabledOrigin" ⟨"TabledOrigin", "content", "(I)I"⟩ ⟨"TabledOrigin", "content", "(I)I"⟩ ∈ zws := zin 550 (by decide +kernel) rfl
set_option maxRecDepth 20000 in
theorem k_551 : Cond.code ⟨"TabledOrigin", "content", "(I)I"⟩ prog_1_method_16_code 3 (some .int) ∈ zws := zin 551 (by rfl) rfl
theorem k_553 : Cond.instanceMethod ⟨"TabledOrigin", "stored", "(II)I"⟩ ∈ zws := zin 553 (by decide +kernel) rfl
theorem k_554 : Cond.selects "TabledOrigin" ⟨"TabledOrigin", "stored", "(II)I"⟩ ⟨"TabledOrigin", "stored", "(II)I"⟩ ∈ zws := zin 554 (by decide +kernel) rfl
set_option maxRecDepth 20000 in
theorem k_555 : Cond.code ⟨"TabledOrigin", "stored", "(II)I"⟩ prog_1_method_17_code 4 (some .int) ∈ zws := zin 555 (by rfl) rfl
theorem k_556 : Cond.methodLink "TabledOrigin" 178 ⟨"TabledOrigin$StoredAnswer", "freshFor", "(I)I"⟩ ∈ zws := zin 556 (by decide +kernel) rfl
theorem k_557 : Cond.instanceMethod ⟨"TabledOrigin$StoredAnswer", "freshFor", "(I)I"⟩ ∈ zws := zin 557 (by decide +kernel) rfl
theorem k_558 : Cond.selects "TabledOrigin$StoredAnswer" ⟨"TabledOrigin$StoredAnswer", "freshFor", "(I)I"⟩ ⟨"TabledOrigin$StoredAnswer", "freshFor", "(I)I"⟩ ∈ zws := zin 558 (by decide +kernel) rfl
set_option maxRecDepth 20000 in
theorem k_559 : Cond.code ⟨"TabledOrigin$StoredAnswer", "freshFor", "(I)I"⟩ prog_8_method_3_code 2 (some .int) ∈ zws := zin 559 (by rfl) rfl
theorem k_560 : Cond.methodLink "TabledOrigin$StoredAnswer" 20 ⟨"TabledOrigin$StoredAnswer", "isFresh", "(I)Z"⟩ ∈ zws := zin 560 (by decide +kernel) rfl
theorem k_562 : Cond.instanceMethod ⟨"TabledOrigin", "entry", "(II)I"⟩ ∈ zws := zin 562 (by decide +kernel) rfl
theorem k_563 : Cond.selects "TabledOrigin" ⟨"TabledOrigin", "entry", "(II)I"⟩ ⟨"TabledOrigin", "entry", "(II)I"⟩ ∈ zws := zin 563 (by decide +kernel) rfl
set_option maxRecDepth 20000 in
theorem k_564 : Cond.code ⟨"TabledOrigin", "entry", "(II)I"⟩ prog_1_method_18_code 5 (some .int) ∈ zws := zin 564 (by rfl) rfl
theorem k_565 : Cond.methodLink "TabledOrigin" 181 ⟨"TabledOrigin$Table", "liveCount", "()I"⟩ ∈ zws := zin 565 (by decide +kernel) rfl
theorem k_566 : Cond.methodLink "TabledOrigin" 184 ⟨"TabledOrigin$Table", "nameOf", "(I)I"⟩ ∈ zws := zin 566 (by decide +kernel) rfl
theorem k_567 : Cond.methodLink "TabledOrigin" 187 ⟨"TabledOrigin$Table", "valueOf", "(I)I"⟩ ∈ zws := zin 567 (by decide +kernel) rfl
theorem k_568 : Cond.methodLink "TabledOrigin" 190 ⟨"TabledOrigin$Table", "referencesTo", "(I)I"⟩ ∈ zws := zin 568 (by decide +kernel) rfl
theorem k_570 : Cond.instanceMethod ⟨"TabledOrigin", "count", "(I)I"⟩ ∈ zws := zin 570 (by decide +kernel) rfl
theorem k_571 : Cond.selects "TabledOrigin" ⟨"TabledOrigin", "count", "(I)I"⟩ ⟨"TabledOrigin", "count", "(I)I"⟩ ∈ zws := zin 571 (by decide +kernel) rfl
set_option maxRecDepth 20000 in
theorem k_572 : Cond.code ⟨"TabledOrigin", "count", "(I)I"⟩ prog_1_method_19_code 3 (some .int) ∈ zws := zin 572 (by rfl) rfl
theorem k_573 : Cond.methodLink "TabledOrigin" 199 ⟨"TabledOrigin$Table", "outstandingNeeding", "(I)I"⟩ ∈ zws := zin 573 (by decide +kernel) rfl
theorem k_574 : Cond.methodLink "TabledOrigin" 202 ⟨"TabledOrigin$Table", "atRisk", "()I"⟩ ∈ zws := zin 574 (by decide +kernel) rfl
theorem k_575 : Cond.methodLink "TabledOrigin" 205 ⟨"TabledOrigin", "blockedAnswers", "()I"⟩ ∈ zws := zin 575 (by decide +kernel) rfl
theorem k_577 : Cond.instanceMethod ⟨"TabledOrigin", "blockedAnswers", "()I"⟩ ∈ zws := zin 577 (by decide +kernel) rfl
set_option maxRecDepth 20000 in
theorem k_578 : Cond.code ⟨"TabledOrigin", "blockedAnswers", "()I"⟩ prog_1_method_25_code 3 (some .int) ∈ zws := zin 578 (by rfl) rfl
theorem k_582 : Cond.instanceMethod ⟨"TabledOriginModel", "<init>", "()V"⟩ ∈ zws := zin 582 (by decide +kernel) rfl
set_option maxRecDepth 20000 in
theorem k_583 : Cond.code ⟨"TabledOriginModel", "<init>", "()V"⟩ prog_11_method_1_code 2 none ∈ zws := zin 583 (by rfl) rfl
theorem k_584 : Cond.methodLink "TabledOriginModel" 1 ⟨"java/lang/Object", "<init>", "()V"⟩ ∈ zws := zin 584 (by decide +kernel) rfl
theorem k_585 : Cond.fieldLink "TabledOriginModel" 7 "TabledOriginModel" "there" "[Z" ∈ zws := zin 585 (by decide +kernel) rfl
theorem k_586 : Cond.fieldLink "TabledOriginModel" 13 "TabledOriginModel" "text" "[I" ∈ zws := zin 586 (by decide +kernel) rfl
theorem k_587 : Cond.fieldLink "TabledOriginModel" 17 "TabledOriginModel" "life" "[I" ∈ zws := zin 587 (by decide +kernel) rfl
theorem k_588 : Cond.fieldLink "TabledOriginModel" 20 "TabledOriginModel" "tag" "[I" ∈ zws := zin 588 (by decide +kernel) rfl
theorem k_589 : Cond.fieldLink "TabledOriginModel" 113 "TabledOriginModel" "newest" "I" ∈ zws := zin 589 (by decide +kernel) rfl
theorem k_590 : Cond.fieldLink "TabledOriginModel" 161 "TabledOriginModel" "clock" "I" ∈ zws := zin 590 (by decide +kernel) rfl
theorem k_591 : Cond.fieldLink "TabledOriginModel" 100 "TabledOriginModel" "requests" "I" ∈ zws := zin 591 (by decide +kernel) rfl
theorem k_592 : Cond.fieldLink "TabledOriginModel" 23 "TabledOriginModel" "writes" "[Z" ∈ zws := zin 592 (by decide +kernel) rfl
theorem k_593 : Cond.fieldLink "TabledOriginModel" 26 "TabledOriginModel" "resource" "[I" ∈ zws := zin 593 (by decide +kernel) rfl
theorem k_594 : Cond.fieldLink "TabledOriginModel" 29 "TabledOriginModel" "result" "[I" ∈ zws := zin 594 (by decide +kernel) rfl
theorem k_595 : Cond.fieldLink "TabledOriginModel" 32 "TabledOriginModel" "body" "[I" ∈ zws := zin 595 (by decide +kernel) rfl
theorem k_596 : Cond.fieldLink "TabledOriginModel" 35 "TabledOriginModel" "lasts" "[I" ∈ zws := zin 596 (by decide +kernel) rfl
theorem k_597 : Cond.fieldLink "TabledOriginModel" 38 "TabledOriginModel" "bears" "[I" ∈ zws := zin 597 (by decide +kernel) rfl
theorem k_598 : Cond.fieldLink "TabledOriginModel" 41 "TabledOriginModel" "sent" "[I" ∈ zws := zin 598 (by decide +kernel) rfl
theorem k_599 : Cond.fieldLink "TabledOriginModel" 44 "TabledOriginModel" "shown" "[I" ∈ zws := zin 599 (by decide +kernel) rfl
theorem k_600 : Cond.fieldLink "TabledOriginModel" 47 "TabledOriginModel" "road" "[I" ∈ zws := zin 600 (by decide +kernel) rfl
theorem k_601 : Cond.fieldLink "TabledOriginModel" 50 "TabledOriginModel" "status" "[I" ∈ zws := zin 601 (by decide +kernel) rfl
theorem k_602 : Cond.fieldLink "TabledOriginModel" 53 "TabledOriginModel" "ansTag" "[I" ∈ zws := zin 602 (by decide +kernel) rfl
theorem k_603 : Cond.fieldLink "TabledOriginModel" 56 "TabledOriginModel" "ansLife" "[I" ∈ zws := zin 603 (by decide +kernel) rfl
theorem k_604 : Cond.fieldLink "TabledOriginModel" 59 "TabledOriginModel" "ansText" "[I" ∈ zws := zin 604 (by decide +kernel) rfl
theorem k_605 : Cond.fieldLink "TabledOriginModel" 62 "TabledOriginModel" "refers" "[I" ∈ zws := zin 605 (by decide +kernel) rfl
theorem k_606 : Cond.fieldLink "TabledOriginModel" 65 "TabledOriginModel" "keptBy" "[I" ∈ zws := zin 606 (by decide +kernel) rfl
theorem k_607 : Cond.fieldLink "TabledOriginModel" 68 "TabledOriginModel" "keptTag" "[I" ∈ zws := zin 607 (by decide +kernel) rfl
theorem k_608 : Cond.fieldLink "TabledOriginModel" 71 "TabledOriginModel" "keptText" "[I" ∈ zws := zin 608 (by decide +kernel) rfl
theorem k_609 : Cond.fieldLink "TabledOriginModel" 74 "TabledOriginModel" "keptLife" "[I" ∈ zws := zin 609 (by decide +kernel) rfl
theorem k_610 : Cond.fieldLink "TabledOriginModel" 77 "TabledOriginModel" "keptSince" "[I" ∈ zws := zin 610 (by decide +kernel) rfl
theorem k_611 : Cond.fieldLink "TabledOriginModel" 80 "TabledOriginModel" "name" "[I" ∈ zws := zin 611 (by decide +kernel) rfl
theorem k_612 : Cond.fieldLink "TabledOriginModel" 83 "TabledOriginModel" "value" "[I" ∈ zws := zin 612 (by decide +kernel) rfl
theorem k_613 : Cond.fieldLink "TabledOriginModel" 107 "TabledOriginModel" "made" "I" ∈ zws := zin 613 (by decide +kernel) rfl
theorem k_614 : Cond.fieldLink "TabledOriginModel" 175 "TabledOriginModel" "came" "I" ∈ zws := zin 614 (by decide +kernel) rfl
theorem k_615 : Cond.fieldLink "TabledOriginModel" 141 "TabledOriginModel" "literals" "I" ∈ zws := zin 615 (by decide +kernel) rfl
theorem k_616 : Cond.fieldLink "TabledOriginModel" 138 "TabledOriginModel" "references" "I" ∈ zws := zin 616 (by decide +kernel) rfl
theorem k_617 : Cond.fieldLink "TabledOriginModel" 86 "TabledOriginModel" "word" "[I" ∈ zws := zin 617 (by decide +kernel) rfl
theorem k_618 : Cond.fieldLink "TabledOriginModel" 89 "TabledOriginModel" "about" "[I" ∈ zws := zin 618 (by decide +kernel) rfl
theorem k_619 : Cond.fieldLink "TabledOriginModel" 110 "TabledOriginModel" "words" "I" ∈ zws := zin 619 (by decide +kernel) rfl
theorem k_620 : Cond.fieldLink "TabledOriginModel" 96 "TabledOriginModel" "heard" "I" ∈ zws := zin 620 (by decide +kernel) rfl
theorem k_621 : Cond.fieldLink "TabledOriginModel" 144 "TabledOriginModel" "announced" "Z" ∈ zws := zin 621 (by decide +kernel) rfl
theorem k_622 : Cond.fieldLink "TabledOriginModel" 164 "TabledOriginModel" "noticed" "Z" ∈ zws := zin 622 (by decide +kernel) rfl
theorem k_623 : Cond.fieldLink "TabledOriginModel" 148 "TabledOriginModel" "bound" "I" ∈ zws := zin 623 (by decide +kernel) rfl
theorem k_624 : Cond.fieldLink "TabledOriginModel" 158 "TabledOriginModel" "answered" "I" ∈ zws := zin 624 (by decide +kernel) rfl
theorem k_625 : Cond.laysFinal "TabledOriginModel" "TabledOriginModel" "there" "[Z" ∈ zws := zin 625 (by decide +kernel) rfl
theorem k_627 : Cond.laysFinal "TabledOriginModel" "TabledOriginModel" "text" "[I" ∈ zws := zin 627 (by decide +kernel) rfl
theorem k_629 : Cond.laysFinal "TabledOriginModel" "TabledOriginModel" "life" "[I" ∈ zws := zin 629 (by decide +kernel) rfl
theorem k_631 : Cond.laysFinal "TabledOriginModel" "TabledOriginModel" "tag" "[I" ∈ zws := zin 631 (by decide +kernel) rfl
theorem k_633 : Cond.lays "TabledOriginModel" "TabledOriginModel" "newest" "I" ∈ zws := zin 633 (by decide +kernel) rfl
theorem k_635 : Cond.lays "TabledOriginModel" "TabledOriginModel" "clock" "I" ∈ zws := zin 635 (by decide +kernel) rfl
theorem k_637 : Cond.lays "TabledOriginModel" "TabledOriginModel" "requests" "I" ∈ zws := zin 637 (by decide +kernel) rfl
theorem k_639 : Cond.laysFinal "TabledOriginModel" "TabledOriginModel" "writes" "[Z" ∈ zws := zin 639 (by decide +kernel) rfl
theorem k_641 : Cond.laysFinal "TabledOriginModel" "TabledOriginModel" "resource" "[I" ∈ zws := zin 641 (by decide +kernel) rfl
theorem k_643 : Cond.laysFinal "TabledOriginModel" "TabledOriginModel" "result" "[I" ∈ zws := zin 643 (by decide +kernel) rfl
theorem k_645 : Cond.laysFinal "TabledOriginModel" "TabledOriginModel" "body" "[I" ∈ zws := zin 645 (by decide +kernel) rfl
theorem k_647 : Cond.laysFinal "TabledOriginModel" "TabledOriginModel" "lasts" "[I" ∈ zws := zin 647 (by decide +kernel) rfl
theorem k_649 : Cond.laysFinal "TabledOriginModel" "TabledOriginModel" "bears" "[I" ∈ zws := zin 649 (by decide +kernel) rfl
theorem k_651 : Cond.laysFinal "TabledOriginModel" "TabledOriginModel" "sent" "[I" ∈ zws := zin 651 (by decide +kernel) rfl
theorem k_653 : Cond.laysFinal "TabledOriginModel" "TabledOriginModel" "shown" "[I" ∈ zws := zin 653 (by decide +kernel) rfl
theorem k_655 : Cond.laysFinal "TabledOriginModel" "TabledOriginModel" "road" "[I" ∈ zws := zin 655 (by decide +kernel) rfl
theorem k_657 : Cond.laysFinal "TabledOriginModel" "TabledOriginModel" "status" "[I" ∈ zws := zin 657 (by decide +kernel) rfl
theorem k_659 : Cond.laysFinal "TabledOriginModel" "TabledOriginModel" "ansTag" "[I" ∈ zws := zin 659 (by decide +kernel) rfl
theorem k_661 : Cond.laysFinal "TabledOriginModel" "TabledOriginModel" "ansLife" "[I" ∈ zws := zin 661 (by decide +kernel) rfl
theorem k_663 : Cond.laysFinal "TabledOriginModel" "TabledOriginModel" "ansText" "[I" ∈ zws := zin 663 (by decide +kernel) rfl
theorem k_665 : Cond.laysFinal "TabledOriginModel" "TabledOriginModel" "refers" "[I" ∈ zws := zin 665 (by decide +kernel) rfl
theorem k_667 : Cond.laysFinal "TabledOriginModel" "TabledOriginModel" "keptBy" "[I" ∈ zws := zin 667 (by decide +kernel) rfl
theorem k_669 : Cond.laysFinal "TabledOriginModel" "TabledOriginModel" "keptTag" "[I" ∈ zws := zin 669 (by decide +kernel) rfl
theorem k_671 : Cond.laysFinal "TabledOriginModel" "TabledOriginModel" "keptText" "[I" ∈ zws := zin 671 (by decide +kernel) rfl
theorem k_673 : Cond.laysFinal "TabledOriginModel" "TabledOriginModel" "keptLife" "[I" ∈ zws := zin 673 (by decide +kernel) rfl
theorem k_675 : Cond.laysFinal "TabledOriginModel" "TabledOriginModel" "keptSince" "[I" ∈ zws := zin 675 (by decide +kernel) rfl
theorem k_677 : Cond.laysFinal "TabledOriginModel" "TabledOriginModel" "name" "[I" ∈ zws := zin 677 (by decide +kernel) rfl
theorem k_679 : Cond.laysFinal "TabledOriginModel" "TabledOriginModel" "value" "[I" ∈ zws := zin 679 (by decide +kernel) rfl
theorem k_681 : Cond.lays "TabledOriginModel" "TabledOriginModel" "made" "I" ∈ zws := zin 681 (by decide +kernel) rfl
theorem k_683 : Cond.lays "TabledOriginModel" "TabledOriginModel" "came" "I" ∈ zws := zin 683 (by decide +kernel) rfl
theorem k_685 : Cond.lays "TabledOriginModel" "TabledOriginModel" "literals" "I" ∈ zws := zin 685 (by decide +kernel) rfl
theorem k_687 : Cond.lays "TabledOriginModel" "TabledOriginModel" "references" "I" ∈ zws := zin 687 (by decide +kernel) rfl
theorem k_689 : Cond.laysFinal "TabledOriginModel" "TabledOriginModel" "word" "[I" ∈ zws := zin 689 (by decide +kernel) rfl
theorem k_691 : Cond.laysFinal "TabledOriginModel" "TabledOriginModel" "about" "[I" ∈ zws := zin 691 (by decide +kernel) rfl
theorem k_693 : Cond.lays "TabledOriginModel" "TabledOriginModel" "words" "I" ∈ zws := zin 693 (by decide +kernel) rfl
theorem k_695 : Cond.lays "TabledOriginModel" "TabledOriginModel" "heard" "I" ∈ zws := zin 695 (by decide +kernel) rfl
theorem k_697 : Cond.lays "TabledOriginModel" "TabledOriginModel" "announced" "Z" ∈ zws := zin 697 (by decide +kernel) rfl
theorem k_699 : Cond.lays "TabledOriginModel" "TabledOriginModel" "noticed" "Z" ∈ zws := zin 699 (by decide +kernel) rfl
theorem k_701 : Cond.lays "TabledOriginModel" "TabledOriginModel" "bound" "I" ∈ zws := zin 701 (by decide +kernel) rfl
theorem k_703 : Cond.lays "TabledOriginModel" "TabledOriginModel" "answered" "I" ∈ zws := zin 703 (by decide +kernel) rfl
theorem k_706 : Cond.arrayClass .boolean ∈ zws := zin 706 (by decide +kernel) rfl
theorem k_708 : Cond.instanceMethod ⟨"TabledOriginModel", "put", "(III)I"⟩ ∈ zws := zin 708 (by decide +kernel) rfl
theorem k_709 : Cond.selects "TabledOriginModel" ⟨"TabledOriginModel", "put", "(III)I"⟩ ⟨"TabledOriginModel", "put", "(III)I"⟩ ∈ zws := zin 709 (by decide +kernel) rfl
set_option maxRecDepth 20000 in
theorem k_710 : Cond.code ⟨"TabledOriginModel", "put", "(III)I"⟩ prog_11_method_11_code 4 (some .int) ∈ zws := zin 710 (by rfl) rfl
theorem k_711 : Cond.methodLink "TabledOriginModel" 116 ⟨"TabledOriginModel", "within", "(II)Z"⟩ ∈ zws := zin 711 (by decide +kernel) rfl
theorem k_712 : Cond.static ⟨"TabledOriginModel", "within", "(II)Z"⟩ ∈ zws := zin 712 (by decide +kernel) rfl
set_option maxRecDepth 20000 in
theorem k_713 : Cond.code ⟨"TabledOriginModel", "within", "(II)Z"⟩ prog_11_method_2_code 2 (some .boolean) ∈ zws := zin 713 (by rfl) rfl
theorem k_714 : Cond.methodLink "TabledOriginModel" 120 ⟨"TabledOriginModel", "write", "(III)I"⟩ ∈ zws := zin 714 (by decide +kernel) rfl
theorem k_716 : Cond.instanceMethod ⟨"TabledOriginModel", "write", "(III)I"⟩ ∈ zws := zin 716 (by decide +kernel) rfl
set_option maxRecDepth 20000 in
theorem k_717 : Cond.code ⟨"TabledOriginModel", "write", "(III)I"⟩ prog_11_method_10_code 4 (some .int) ∈ zws := zin 717 (by rfl) rfl
theorem k_719 : Cond.instanceMethod ⟨"TabledOriginModel", "drop", "(I)Z"⟩ ∈ zws := zin 719 (by decide +kernel) rfl
theorem k_720 : Cond.selects "TabledOriginModel" ⟨"TabledOriginModel", "drop", "(I)Z"⟩ ⟨"TabledOriginModel", "drop", "(I)Z"⟩ ∈ zws := zin 720 (by decide +kernel) rfl
set_option maxRecDepth 20000 in
theorem k_721 : Cond.code ⟨"TabledOriginModel", "drop", "(I)Z"⟩ prog_11_method_12_code 2 (some .boolean) ∈ zws := zin 721 (by rfl) rfl
theorem k_723 : Cond.instanceMethod ⟨"TabledOriginModel", "arrive", "(I)I"⟩ ∈ zws := zin 723 (by decide +kernel) rfl
theorem k_724 : Cond.selects "TabledOriginModel" ⟨"TabledOriginModel", "arrive", "(I)I"⟩ ⟨"TabledOriginModel", "arrive", "(I)I"⟩ ∈ zws := zin 724 (by decide +kernel) rfl
set_option maxRecDepth 20000 in
theorem k_725 : Cond.code ⟨"TabledOriginModel", "arrive", "(I)I"⟩ prog_11_method_15_code 4 (some .int) ∈ zws := zin 725 (by rfl) rfl
theorem k_726 : Cond.methodLink "TabledOriginModel" 151 ⟨"TabledOriginModel", "decide", "(I)I"⟩ ∈ zws := zin 726 (by decide +kernel) rfl
theorem k_728 : Cond.instanceMethod ⟨"TabledOriginModel", "decide", "(I)I"⟩ ∈ zws := zin 728 (by decide +kernel) rfl
set_option maxRecDepth 20000 in
theorem k_729 : Cond.code ⟨"TabledOriginModel", "decide", "(I)I"⟩ prog_11_method_14_code 3 (some .int) ∈ zws := zin 729 (by rfl) rfl
theorem k_730 : Cond.methodLink "TabledOriginModel" 154 ⟨"TabledOriginModel", "field", "(III)V"⟩ ∈ zws := zin 730 (by decide +kernel) rfl
theorem k_732 : Cond.instanceMethod ⟨"TabledOriginModel", "field", "(III)V"⟩ ∈ zws := zin 732 (by decide +kernel) rfl
set_option maxRecDepth 20000 in
theorem k_733 : Cond.code ⟨"TabledOriginModel", "field", "(III)V"⟩ prog_11_method_13_code 9 none ∈ zws := zin 733 (by rfl) rfl
theorem k_734 : Cond.methodLink "TabledOriginModel" 124 ⟨"TabledOriginModel", "after", "(I)I"⟩ ∈ zws := zin 734 (by decide +kernel) rfl
theorem k_736 : Cond.instanceMethod ⟨"TabledOriginModel", "after", "(I)I"⟩ ∈ zws := zin 736 (by decide +kernel) rfl
set_option maxRecDepth 20000 in
theorem k_737 : Cond.code ⟨"TabledOriginModel", "after", "(I)I"⟩ prog_11_method_3_code 5 (some .int) ∈ zws := zin 737 (by rfl) rfl
theorem k_738 : Cond.methodLink "TabledOriginModel" 92 ⟨"TabledOriginModel", "need", "(I)I"⟩ ∈ zws := zin 738 (by decide +kernel) rfl
theorem k_740 : Cond.instanceMethod ⟨"TabledOriginModel", "need", "(I)I"⟩ ∈ zws := zin 740 (by decide +kernel) rfl
set_option maxRecDepth 20000 in
theorem k_741 : Cond.code ⟨"TabledOriginModel", "need", "(I)I"⟩ prog_11_method_4_code 4 (some .int) ∈ zws := zin 741 (by rfl) rfl
theorem k_742 : Cond.methodLink "TabledOriginModel" 127 ⟨"TabledOriginModel", "risky", "(II)I"⟩ ∈ zws := zin 742 (by decide +kernel) rfl
theorem k_744 : Cond.instanceMethod ⟨"TabledOriginModel", "risky", "(II)I"⟩ ∈ zws := zin 744 (by decide +kernel) rfl
set_option maxRecDepth 20000 in
theorem k_745 : Cond.code ⟨"TabledOriginModel", "risky", "(II)I"⟩ prog_11_method_6_code 5 (some .int) ∈ zws := zin 745 (by rfl) rfl
theorem k_746 : Cond.methodLink "TabledOriginModel" 103 ⟨"TabledOriginModel", "outstanding", "(I)Z"⟩ ∈ zws := zin 746 (by decide +kernel) rfl
theorem k_748 : Cond.instanceMethod ⟨"TabledOriginModel", "outstanding", "(I)Z"⟩ ∈ zws := zin 748 (by decide +kernel) rfl
set_option maxRecDepth 20000 in
theorem k_749 : Cond.code ⟨"TabledOriginModel", "outstanding", "(I)Z"⟩ prog_11_method_5_code 4 (some .boolean) ∈ zws := zin 749 (by rfl) rfl
theorem k_750 : Cond.methodLink "TabledOriginModel" 131 ⟨"TabledOriginModel", "oldest", "()I"⟩ ∈ zws := zin 750 (by decide +kernel) rfl
theorem k_752 : Cond.instanceMethod ⟨"TabledOriginModel", "oldest", "()I"⟩ ∈ zws := zin 752 (by decide +kernel) rfl
set_option maxRecDepth 20000 in
theorem k_753 : Cond.code ⟨"TabledOriginModel", "oldest", "()I"⟩ prog_11_method_8_code 1 (some .int) ∈ zws := zin 753 (by rfl) rfl
theorem k_754 : Cond.methodLink "TabledOriginModel" 135 ⟨"TabledOriginModel", "uses", "(II)I"⟩ ∈ zws := zin 754 (by decide +kernel) rfl
theorem k_756 : Cond.instanceMethod ⟨"TabledOriginModel", "uses", "(II)I"⟩ ∈ zws := zin 756 (by decide +kernel) rfl
set_option maxRecDepth 20000 in
theorem k_757 : Cond.code ⟨"TabledOriginModel", "uses", "(II)I"⟩ prog_11_method_7_code 7 (some .int) ∈ zws := zin 757 (by rfl) rfl
theorem k_759 : Cond.instanceMethod ⟨"TabledOriginModel", "feedback", "()I"⟩ ∈ zws := zin 759 (by decide +kernel) rfl
theorem k_760 : Cond.selects "TabledOriginModel" ⟨"TabledOriginModel", "feedback", "()I"⟩ ⟨"TabledOriginModel", "feedback", "()I"⟩ ∈ zws := zin 760 (by decide +kernel) rfl
set_option maxRecDepth 20000 in
theorem k_761 : Cond.code ⟨"TabledOriginModel", "feedback", "()I"⟩ prog_11_method_16_code 1 (some .int) ∈ zws := zin 761 (by rfl) rfl
theorem k_763 : Cond.instanceMethod ⟨"TabledOriginModel", "goaway", "()I"⟩ ∈ zws := zin 763 (by decide +kernel) rfl
theorem k_764 : Cond.selects "TabledOriginModel" ⟨"TabledOriginModel", "goaway", "()I"⟩ ⟨"TabledOriginModel", "goaway", "()I"⟩ ∈ zws := zin 764 (by decide +kernel) rfl
set_option maxRecDepth 20000 in
theorem k_765 : Cond.code ⟨"TabledOriginModel", "goaway", "()I"⟩ prog_11_method_17_code 1 (some .int) ∈ zws := zin 765 (by rfl) rfl
theorem k_767 : Cond.instanceMethod ⟨"TabledOriginModel", "get", "(I)I"⟩ ∈ zws := zin 767 (by decide +kernel) rfl
theorem k_768 : Cond.selects "TabledOriginModel" ⟨"TabledOriginModel", "get", "(I)I"⟩ ⟨"TabledOriginModel", "get", "(I)I"⟩ ∈ zws := zin 768 (by decide +kernel) rfl
set_option maxRecDepth 20000 in
theorem k_769 : Cond.code ⟨"TabledOriginModel", "get", "(I)I"⟩ prog_11_method_19_code 2 (some .int) ∈ zws := zin 769 (by rfl) rfl
theorem k_770 : Cond.methodLink "TabledOriginModel" 167 ⟨"TabledOriginModel", "ask", "(IZII)I"⟩ ∈ zws := zin 770 (by decide +kernel) rfl
theorem k_772 : Cond.instanceMethod ⟨"TabledOriginModel", "ask", "(IZII)I"⟩ ∈ zws := zin 772 (by decide +kernel) rfl
set_option maxRecDepth 20000 in
theorem k_773 : Cond.code ⟨"TabledOriginModel", "ask", "(IZII)I"⟩ prog_11_method_18_code 7 (some .int) ∈ zws := zin 773 (by rfl) rfl
theorem k_775 : Cond.instanceMethod ⟨"TabledOriginModel", "replace", "(III)I"⟩ ∈ zws := zin 775 (by decide +kernel) rfl
theorem k_776 : Cond.selects "TabledOriginModel" ⟨"TabledOriginModel", "replace", "(III)I"⟩ ⟨"TabledOriginModel", "replace", "(III)I"⟩ ∈ zws := zin 776 (by decide +kernel) rfl
set_option maxRecDepth 20000 in
theorem k_777 : Cond.code ⟨"TabledOriginModel", "replace", "(III)I"⟩ prog_11_method_20_code 4 (some .int) ∈ zws := zin 777 (by rfl) rfl
theorem k_779 : Cond.instanceMethod ⟨"TabledOriginModel", "reply", "(I)I"⟩ ∈ zws := zin 779 (by decide +kernel) rfl
theorem k_780 : Cond.selects "TabledOriginModel" ⟨"TabledOriginModel", "reply", "(I)I"⟩ ⟨"TabledOriginModel", "reply", "(I)I"⟩ ∈ zws := zin 780 (by decide +kernel) rfl
set_option maxRecDepth 20000 in
theorem k_781 : Cond.code ⟨"TabledOriginModel", "reply", "(I)I"⟩ prog_11_method_22_code 2 (some .int) ∈ zws := zin 781 (by rfl) rfl
theorem k_782 : Cond.methodLink "TabledOriginModel" 178 ⟨"TabledOriginModel", "read", "(I)I"⟩ ∈ zws := zin 782 (by decide +kernel) rfl
theorem k_784 : Cond.instanceMethod ⟨"TabledOriginModel", "read", "(I)I"⟩ ∈ zws := zin 784 (by decide +kernel) rfl
set_option maxRecDepth 20000 in
theorem k_785 : Cond.code ⟨"TabledOriginModel", "read", "(I)I"⟩ prog_11_method_21_code 5 (some .int) ∈ zws := zin 785 (by rfl) rfl
theorem k_786 : Cond.methodLink "TabledOriginModel" 171 ⟨"TabledOriginModel", "tell", "(II)V"⟩ ∈ zws := zin 786 (by decide +kernel) rfl
theorem k_788 : Cond.instanceMethod ⟨"TabledOriginModel", "tell", "(II)V"⟩ ∈ zws := zin 788 (by decide +kernel) rfl
set_option maxRecDepth 20000 in
theorem k_789 : Cond.code ⟨"TabledOriginModel", "tell", "(II)V"⟩ prog_11_method_9_code 3 none ∈ zws := zin 789 (by rfl) rfl
theorem k_791 : Cond.instanceMethod ⟨"TabledOriginModel", "insert", "()I"⟩ ∈ zws := zin 791 (by decide +kernel) rfl
theorem k_792 : Cond.selects "TabledOriginModel" ⟨"TabledOriginModel", "insert", "()I"⟩ ⟨"TabledOriginModel", "insert", "()I"⟩ ∈ zws := zin 792 (by decide +kernel) rfl
set_option maxRecDepth 20000 in
theorem k_793 : Cond.code ⟨"TabledOriginModel", "insert", "()I"⟩ prog_11_method_23_code 4 (some .int) ∈ zws := zin 793 (by rfl) rfl
theorem k_795 : Cond.instanceMethod ⟨"TabledOriginModel", "report", "()Z"⟩ ∈ zws := zin 795 (by decide +kernel) rfl
theorem k_796 : Cond.selects "TabledOriginModel" ⟨"TabledOriginModel", "report", "()Z"⟩ ⟨"TabledOriginModel", "report", "()Z"⟩ ∈ zws := zin 796 (by decide +kernel) rfl
set_option maxRecDepth 20000 in
theorem k_797 : Cond.code ⟨"TabledOriginModel", "report", "()Z"⟩ prog_11_method_24_code 2 (some .boolean) ∈ zws := zin 797 (by rfl) rfl
theorem k_799 : Cond.instanceMethod ⟨"TabledOriginModel", "notice", "()I"⟩ ∈ zws := zin 799 (by decide +kernel) rfl
theorem k_800 : Cond.selects "TabledOriginModel" ⟨"TabledOriginModel", "notice", "()I"⟩ ⟨"TabledOriginModel", "notice", "()I"⟩ ∈ zws := zin 800 (by decide +kernel) rfl
set_option maxRecDepth 20000 in
theorem k_801 : Cond.code ⟨"TabledOriginModel", "notice", "()I"⟩ prog_11_method_25_code 3 (some .int) ∈ zws := zin 801 (by rfl) rfl
theorem k_803 : Cond.instanceMethod ⟨"TabledOriginModel", "cancel", "(I)Z"⟩ ∈ zws := zin 803 (by decide +kernel) rfl
theorem k_804 : Cond.selects "TabledOriginModel" ⟨"TabledOriginModel", "cancel", "(I)Z"⟩ ⟨"TabledOriginModel", "cancel", "(I)Z"⟩ ∈ zws := zin 804 (by decide +kernel) rfl
set_option maxRecDepth 20000 in
theorem k_805 : Cond.code ⟨"TabledOriginModel", "cancel", "(I)Z"⟩ prog_11_method_26_code 2 (some .boolean) ∈ zws := zin 805 (by rfl) rfl
theorem k_807 : Cond.instanceMethod ⟨"TabledOriginModel", "tick", "(I)Z"⟩ ∈ zws := zin 807 (by decide +kernel) rfl
theorem k_808 : Cond.selects "TabledOriginModel" ⟨"TabledOriginModel", "tick", "(I)Z"⟩ ⟨"TabledOriginModel", "tick", "(I)Z"⟩ ∈ zws := zin 808 (by decide +kernel) rfl
set_option maxRecDepth 20000 in
theorem k_809 : Cond.code ⟨"TabledOriginModel", "tick", "(I)Z"⟩ prog_11_method_27_code 2 (some .boolean) ∈ zws := zin 809 (by rfl) rfl
theorem k_811 : Cond.instanceMethod ⟨"TabledOriginModel", "outcome", "(I)I"⟩ ∈ zws := zin 811 (by decide +kernel) rfl
theorem k_812 : Cond.selects "TabledOriginModel" ⟨"TabledOriginModel", "outcome", "(I)I"⟩ ⟨"TabledOriginModel", "outcome", "(I)I"⟩ ∈ zws := zin 812 (by decide +kernel) rfl
set_option maxRecDepth 20000 in
theorem k_813 : Cond.code ⟨"TabledOriginModel", "outcome", "(I)I"⟩ prog_11_method_28_code 2 (some .int) ∈ zws := zin 813 (by rfl) rfl
theorem k_815 : Cond.instanceMethod ⟨"TabledOriginModel", "content", "(I)I"⟩ ∈ zws := zin 815 (by decide +kernel) rfl
theorem k_816 : Cond.selects "TabledOriginModel" ⟨"TabledOriginModel", "content", "(I)I"⟩ ⟨"TabledOriginModel", "content", "(I)I"⟩ ∈ zws := zin 816 (by decide +kernel) rfl
set_option maxRecDepth 20000 in
theorem k_817 : Cond.code ⟨"TabledOriginModel", "content", "(I)I"⟩ prog_11_method_29_code 3 (some .int) ∈ zws := zin 817 (by rfl) rfl
theorem k_819 : Cond.instanceMethod ⟨"TabledOriginModel", "stored", "(II)I"⟩ ∈ zws := zin 819 (by decide +kernel) rfl
theorem k_820 : Cond.selects "TabledOriginModel" ⟨"TabledOriginModel", "stored", "(II)I"⟩ ⟨"TabledOriginModel", "stored", "(II)I"⟩ ∈ zws := zin 820 (by decide +kernel) rfl
set_option maxRecDepth 20000 in
theorem k_821 : Cond.code ⟨"TabledOriginModel", "stored", "(II)I"⟩ prog_11_method_30_code 4 (some .int) ∈ zws := zin 821 (by rfl) rfl
theorem k_823 : Cond.instanceMethod ⟨"TabledOriginModel", "entry", "(II)I"⟩ ∈ zws := zin 823 (by decide +kernel) rfl
theorem k_824 : Cond.selects "TabledOriginModel" ⟨"TabledOriginModel", "entry", "(II)I"⟩ ⟨"TabledOriginModel", "entry", "(II)I"⟩ ∈ zws := zin 824 (by decide +kernel) rfl
set_option maxRecDepth 20000 in
theorem k_825 : Cond.code ⟨"TabledOriginModel", "entry", "(II)I"⟩ prog_11_method_31_code 4 (some .int) ∈ zws := zin 825 (by rfl) rfl
theorem k_827 : Cond.instanceMethod ⟨"TabledOriginModel", "count", "(I)I"⟩ ∈ zws := zin 827 (by decide +kernel) rfl
theorem k_828 : Cond.selects "TabledOriginModel" ⟨"TabledOriginModel", "count", "(I)I"⟩ ⟨"TabledOriginModel", "count", "(I)I"⟩ ∈ zws := zin 828 (by decide +kernel) rfl
set_option maxRecDepth 20000 in
theorem k_829 : Cond.code ⟨"TabledOriginModel", "count", "(I)I"⟩ prog_11_method_32_code 5 (some .int) ∈ zws := zin 829 (by rfl) rfl
theorem ks_0 : Cond.selects "TabledOrigin" ⟨"TabledOrigin", "makeRequest", "(IZII)I"⟩ ⟨"TabledOrigin", "makeRequest", "(IZII)I"⟩ ∈ zws := zsel 0 (by decide +kernel) rfl
theorem ks_1 : Cond.selects "TabledOrigin" ⟨"TabledOrigin", "requestAt", "(I)LTabledOrigin$Request;"⟩ ⟨"TabledOrigin", "requestAt", "(I)LTabledOrigin$Request;"⟩ ∈ zws := zsel 1 (by decide +kernel) rfl
theorem ks_2 : Cond.selects "TabledOrigin$Server" ⟨"TabledOrigin$Server", "answerPut", "(LTabledOrigin$Request;LTabledOrigin$Resource;)LTabledOrigin$Answer;"⟩ ⟨"TabledOrigin$Server", "answerPut", "(LTabledOrigin$Request;LTabledOrigin$Resource;)LTabledOrigin$Answer;"⟩ ∈ zws := zsel 2 (by decide +kernel) rfl
theorem ks_3 : Cond.selects "TabledOrigin$Table" ⟨"TabledOrigin$Table", "findLive", "(II)I"⟩ ⟨"TabledOrigin$Table", "findLive", "(II)I"⟩ ∈ zws := zsel 3 (by decide +kernel) rfl
theorem ks_4 : Cond.selects "TabledOrigin$Table" ⟨"TabledOrigin$Table", "refer", "(LTabledOrigin$Answer;I)V"⟩ ⟨"TabledOrigin$Table", "refer", "(LTabledOrigin$Answer;I)V"⟩ ∈ zws := zsel 4 (by decide +kernel) rfl
theorem ks_5 : Cond.selects "TabledOrigin$Table" ⟨"TabledOrigin$Table", "hasRoomFor", "(LTabledOrigin$Answer;)Z"⟩ ⟨"TabledOrigin$Table", "hasRoomFor", "(LTabledOrigin$Answer;)Z"⟩ ∈ zws := zsel 5 (by decide +kernel) rfl
theorem ks_6 : Cond.selects "TabledOrigin$Table" ⟨"TabledOrigin$Table", "makeEntry", "(II)I"⟩ ⟨"TabledOrigin$Table", "makeEntry", "(II)I"⟩ ∈ zws := zsel 6 (by decide +kernel) rfl
theorem ks_7 : Cond.selects "TabledOrigin$Server" ⟨"TabledOrigin$Server", "answerGet", "(LTabledOrigin$Request;LTabledOrigin$Resource;)LTabledOrigin$Answer;"⟩ ⟨"TabledOrigin$Server", "answerGet", "(LTabledOrigin$Request;LTabledOrigin$Resource;)LTabledOrigin$Answer;"⟩ ∈ zws := zsel 7 (by decide +kernel) rfl
theorem ks_8 : Cond.selects "TabledOrigin$Client" ⟨"TabledOrigin$Client", "store", "(LTabledOrigin$StoredAnswer;LTabledOrigin$Request;LTabledOrigin$Answer;)V"⟩ ⟨"TabledOrigin$Client", "store", "(LTabledOrigin$StoredAnswer;LTabledOrigin$Request;LTabledOrigin$Answer;)V"⟩ ∈ zws := zsel 8 (by decide +kernel) rfl
theorem ks_9 : Cond.selects "TabledOrigin$Client" ⟨"TabledOrigin$Client", "renew", "(LTabledOrigin$StoredAnswer;LTabledOrigin$Request;LTabledOrigin$Answer;)V"⟩ ⟨"TabledOrigin$Client", "renew", "(LTabledOrigin$StoredAnswer;LTabledOrigin$Request;LTabledOrigin$Answer;)V"⟩ ∈ zws := zsel 9 (by decide +kernel) rfl
theorem ks_10 : Cond.selects "TabledOrigin$Client" ⟨"TabledOrigin$Client", "acknowledge", "(LTabledOrigin$Request;LTabledOrigin$Answer;LTabledOrigin$FeedbackRoad;)V"⟩ ⟨"TabledOrigin$Client", "acknowledge", "(LTabledOrigin$Request;LTabledOrigin$Answer;LTabledOrigin$FeedbackRoad;)V"⟩ ∈ zws := zsel 10 (by decide +kernel) rfl
theorem ks_11 : Cond.selects "TabledOrigin" ⟨"TabledOrigin", "readUnblocked", "()I"⟩ ⟨"TabledOrigin", "readUnblocked", "()I"⟩ ∈ zws := zsel 11 (by decide +kernel) rfl
theorem ks_12 : Cond.selects "TabledOrigin" ⟨"TabledOrigin", "endOutstanding", "(IZ)V"⟩ ⟨"TabledOrigin", "endOutstanding", "(IZ)V"⟩ ∈ zws := zsel 12 (by decide +kernel) rfl
theorem ks_13 : Cond.selects "TabledOrigin" ⟨"TabledOrigin", "refuseFrom", "(I)I"⟩ ⟨"TabledOrigin", "refuseFrom", "(I)I"⟩ ∈ zws := zsel 13 (by decide +kernel) rfl
theorem ks_14 : Cond.selects "TabledOrigin" ⟨"TabledOrigin", "blockedAnswers", "()I"⟩ ⟨"TabledOrigin", "blockedAnswers", "()I"⟩ ∈ zws := zsel 14 (by decide +kernel) rfl
theorem ks_15 : Cond.selects "TabledOriginModel" ⟨"TabledOriginModel", "write", "(III)I"⟩ ⟨"TabledOriginModel", "write", "(III)I"⟩ ∈ zws := zsel 15 (by decide +kernel) rfl
theorem ks_16 : Cond.selects "TabledOriginModel" ⟨"TabledOriginModel", "decide", "(I)I"⟩ ⟨"TabledOriginModel", "decide", "(I)I"⟩ ∈ zws := zsel 16 (by decide +kernel) rfl
theorem ks_17 : Cond.selects "TabledOriginModel" ⟨"TabledOriginModel", "field", "(III)V"⟩ ⟨"TabledOriginModel", "field", "(III)V"⟩ ∈ zws := zsel 17 (by decide +kernel) rfl
theorem ks_18 : Cond.selects "TabledOriginModel" ⟨"TabledOriginModel", "after", "(I)I"⟩ ⟨"TabledOriginModel", "after", "(I)I"⟩ ∈ zws := zsel 18 (by decide +kernel) rfl
theorem ks_19 : Cond.selects "TabledOriginModel" ⟨"TabledOriginModel", "need", "(I)I"⟩ ⟨"TabledOriginModel", "need", "(I)I"⟩ ∈ zws := zsel 19 (by decide +kernel) rfl
theorem ks_20 : Cond.selects "TabledOriginModel" ⟨"TabledOriginModel", "risky", "(II)I"⟩ ⟨"TabledOriginModel", "risky", "(II)I"⟩ ∈ zws := zsel 20 (by decide +kernel) rfl
theorem ks_21 : Cond.selects "TabledOriginModel" ⟨"TabledOriginModel", "outstanding", "(I)Z"⟩ ⟨"TabledOriginModel", "outstanding", "(I)Z"⟩ ∈ zws := zsel 21 (by decide +kernel) rfl
theorem ks_22 : Cond.selects "TabledOriginModel" ⟨"TabledOriginModel", "oldest", "()I"⟩ ⟨"TabledOriginModel", "oldest", "()I"⟩ ∈ zws := zsel 22 (by decide +kernel) rfl
theorem ks_23 : Cond.selects "TabledOriginModel" ⟨"TabledOriginModel", "uses", "(II)I"⟩ ⟨"TabledOriginModel", "uses", "(II)I"⟩ ∈ zws := zsel 23 (by decide +kernel) rfl
theorem ks_24 : Cond.selects "TabledOriginModel" ⟨"TabledOriginModel", "ask", "(IZII)I"⟩ ⟨"TabledOriginModel", "ask", "(IZII)I"⟩ ∈ zws := zsel 24 (by decide +kernel) rfl
theorem ks_25 : Cond.selects "TabledOriginModel" ⟨"TabledOriginModel", "read", "(I)I"⟩ ⟨"TabledOriginModel", "read", "(I)I"⟩ ∈ zws := zsel 25 (by decide +kernel) rfl
theorem ks_26 : Cond.selects "TabledOriginModel" ⟨"TabledOriginModel", "tell", "(II)V"⟩ ⟨"TabledOriginModel", "tell", "(II)V"⟩ ∈ zws := zsel 26 (by decide +kernel) rfl
theorem in_0 : ∀ w ∈ u_ws fR_0 fT_0 10, w ∈ zws := by
  intro w hw
  obtain ⟨k, hk, rfl⟩ := List.mem_map.mp hw
  have hk := List.mem_range.mp hk
  match k, hk with
  | 0, _ => exact k_355
  | 1, _ => exact k_357
  | 2, _ => exact k_359
  | 3, _ => exact k_361
  | 4, _ => exact k_363
  | 5, _ => exact k_365
  | 6, _ => exact k_367
  | 7, _ => exact k_369
  | 8, _ => exact k_371
  | 9, _ => exact k_373
  | n + 10, hk => exact absurd hk (by omega)
theorem in_1 : ∀ w ∈ u_ws fR_1 fT_1 4, w ∈ zws := by
  intro w hw
  obtain ⟨k, hk, rfl⟩ := List.mem_map.mp hw
  have hk := List.mem_range.mp hk
  match k, hk with
  | 0, _ => exact k_155
  | 1, _ => exact k_157
  | 2, _ => exact k_159
  | 3, _ => exact k_161
  | n + 4, hk => exact absurd hk (by omega)
theorem in_2 : ∀ w ∈ u_ws fR_2 fT_2 4, w ∈ zws := by
  intro w hw
  obtain ⟨k, hk, rfl⟩ := List.mem_map.mp hw
  have hk := List.mem_range.mp hk
  match k, hk with
  | 0, _ => exact k_174
  | 1, _ => exact k_176
  | 2, _ => exact k_178
  | 3, _ => exact k_180
  | n + 4, hk => exact absurd hk (by omega)
theorem in_3 : ∀ w ∈ u_ws fR_3 fT_3 12, w ∈ zws := by
  intro w hw
  obtain ⟨k, hk, rfl⟩ := List.mem_map.mp hw
  have hk := List.mem_range.mp hk
  match k, hk with
  | 0, _ => exact k_267
  | 1, _ => exact k_269
  | 2, _ => exact k_271
  | 3, _ => exact k_273
  | 4, _ => exact k_275
  | 5, _ => exact k_277
  | 6, _ => exact k_279
  | 7, _ => exact k_281
  | 8, _ => exact k_283
  | 9, _ => exact k_285
  | 10, _ => exact k_287
  | 11, _ => exact k_289
  | n + 12, hk => exact absurd hk (by omega)
theorem in_4 : ∀ w ∈ u_ws fR_4 fT_4 4, w ∈ zws := by
  intro w hw
  obtain ⟨k, hk, rfl⟩ := List.mem_map.mp hw
  have hk := List.mem_range.mp hk
  match k, hk with
  | 0, _ => exact k_39
  | 1, _ => exact k_41
  | 2, _ => exact k_43
  | 3, _ => exact k_45
  | n + 4, hk => exact absurd hk (by omega)
theorem in_5 : ∀ w ∈ u_ws fR_5 fT_5 6, w ∈ zws := by
  intro w hw
  obtain ⟨k, hk, rfl⟩ := List.mem_map.mp hw
  have hk := List.mem_range.mp hk
  match k, hk with
  | 0, _ => exact k_95
  | 1, _ => exact k_97
  | 2, _ => exact k_99
  | 3, _ => exact k_101
  | 4, _ => exact k_103
  | 5, _ => exact k_105
  | n + 6, hk => exact absurd hk (by omega)
theorem in_6 : ∀ w ∈ u_ws fR_6 fT_6 6, w ∈ zws := by
  intro w hw
  obtain ⟨k, hk, rfl⟩ := List.mem_map.mp hw
  have hk := List.mem_range.mp hk
  match k, hk with
  | 0, _ => exact k_135
  | 1, _ => exact k_137
  | 2, _ => exact k_139
  | 3, _ => exact k_141
  | 4, _ => exact k_143
  | 5, _ => exact k_145
  | n + 6, hk => exact absurd hk (by omega)
theorem in_7 : ∀ w ∈ u_ws fR_7 fT_7 8, w ∈ zws := by
  intro w hw
  obtain ⟨k, hk, rfl⟩ := List.mem_map.mp hw
  have hk := List.mem_range.mp hk
  match k, hk with
  | 0, _ => exact k_68
  | 1, _ => exact k_70
  | 2, _ => exact k_72
  | 3, _ => exact k_74
  | 4, _ => exact k_76
  | 5, _ => exact k_78
  | 6, _ => exact k_80
  | 7, _ => exact k_82
  | n + 8, hk => exact absurd hk (by omega)
theorem in_8 : ∀ w ∈ u_ws fR_8 fT_8 6, w ∈ zws := by
  intro w hw
  obtain ⟨k, hk, rfl⟩ := List.mem_map.mp hw
  have hk := List.mem_range.mp hk
  match k, hk with
  | 0, _ => exact k_191
  | 1, _ => exact k_193
  | 2, _ => exact k_195
  | 3, _ => exact k_197
  | 4, _ => exact k_199
  | 5, _ => exact k_201
  | n + 6, hk => exact absurd hk (by omega)
theorem in_9 : ∀ w ∈ u_ws fR_9 fT_9 40, w ∈ zws := by
  intro w hw
  obtain ⟨k, hk, rfl⟩ := List.mem_map.mp hw
  have hk := List.mem_range.mp hk
  match k, hk with
  | 0, _ => exact k_625
  | 1, _ => exact k_627
  | 2, _ => exact k_629
  | 3, _ => exact k_631
  | 4, _ => exact k_633
  | 5, _ => exact k_635
  | 6, _ => exact k_637
  | 7, _ => exact k_639
  | 8, _ => exact k_641
  | 9, _ => exact k_643
  | 10, _ => exact k_645
  | 11, _ => exact k_647
  | 12, _ => exact k_649
  | 13, _ => exact k_651
  | 14, _ => exact k_653
  | 15, _ => exact k_655
  | 16, _ => exact k_657
  | 17, _ => exact k_659
  | 18, _ => exact k_661
  | 19, _ => exact k_663
  | 20, _ => exact k_665
  | 21, _ => exact k_667
  | 22, _ => exact k_669
  | 23, _ => exact k_671
  | 24, _ => exact k_673
  | 25, _ => exact k_675
  | 26, _ => exact k_677
  | 27, _ => exact k_679
  | 28, _ => exact k_681
  | 29, _ => exact k_683
  | 30, _ => exact k_685
  | 31, _ => exact k_687
  | 32, _ => exact k_689
  | 33, _ => exact k_691
  | 34, _ => exact k_693
  | 35, _ => exact k_695
  | 36, _ => exact k_697
  | 37, _ => exact k_699
  | 38, _ => exact k_701
  | 39, _ => exact k_703
  | n + 40, hk => exact absurd hk (by omega)
theorem df_0 : ∀ j, j < 10 → defaultValue (ty_0 j) = vp_V ([.int 0, .null, .int 0, .int 0, .int 0, .int 0, .int 0, .int 0, .int 0, .int 0] : List Value) j := by decide +kernel
theorem df_1 : ∀ j, j < 4 → defaultValue (ty_1 j) = vp_V ([.null, .int 0, .int 0, .int 0] : List Value) j := by decide +kernel
theorem df_2 : ∀ j, j < 4 → defaultValue (ty_2 j) = vp_V ([.null, .null, .int 0, .int 0] : List Value) j := by decide +kernel
theorem df_3 : ∀ j, j < 12 → defaultValue (ty_3 j) = vp_V ([.int 0, .int 0, .int 0, .int 0, .int 0, .int 0, .int 0, .int 0, .int 0, .int 0, .int 0, .null] : List Value) j := by decide +kernel
theorem df_4 : ∀ j, j < 4 → defaultValue (ty_4 j) = vp_V ([.int 0, .int 0, .int 0, .int 0] : List Value) j := by decide +kernel
theorem df_5 : ∀ j, j < 6 → defaultValue (ty_5 j) = vp_V ([.null, .null, .int 0, .int 0, .int 0, .int 0] : List Value) j := by decide +kernel
theorem df_6 : ∀ j, j < 6 → defaultValue (ty_6 j) = vp_V ([.int 0, .int 0, .int 0, .int 0, .int 0, .int 0] : List Value) j := by decide +kernel
theorem df_7 : ∀ j, j < 8 → defaultValue (ty_7 j) = vp_V ([.null, .null, .null, .int 0, .int 0, .int 0, .int 0, .int 0] : List Value) j := by decide +kernel
theorem df_8 : ∀ j, j < 6 → defaultValue (ty_8 j) = vp_V ([.null, .null, .null, .null, .int 0, .int 0] : List Value) j := by decide +kernel
theorem df_9 : ∀ j, j < 40 → defaultValue (ty_9 j) = vp_V ([.null, .null, .null, .null, .int 0, .int 0, .int 0, .null, .null, .null, .null, .null, .null, .null, .null, .null, .null, .null, .null, .null, .null, .null, .null, .null, .null, .null, .null, .null, .int 0, .int 0, .int 0, .int 0, .null, .null, .int 0, .int 0, .int 0, .int 0, .int 0, .int 0] : List Value) j := by decide +kernel
end
section
abbrev y_A_init : MethodName := ⟨"TabledOrigin$Answer", "<init>", "(I)V"⟩
abbrev rm_A_init : Room := { frames := 1, cells := 1, slots := 3, locals := 12 }
theorem hd_A_init : y_A_init.cls ≠ "java/lang/invoke/MethodHandle" ∧ y_A_init.cls ≠ "java/lang/invoke/VarHandle" ∧ (parseMethodDescriptor y_A_init.desc).map (fun d => d.parameters.length) = some 1 := by decide +kernel
theorem cw_A_init {R : Room} {s : State} {args : Array Value} {own : String} {index : Nat} (hW : ∀ w ∈ zws, w.before args s = true) (hl : Cond.methodLink own index y_A_init ∈ zws) (hR : rm_A_init.frames + 1 ≤ R.frames ∧ 8 + (2 + 11) + rm_A_init.locals ≤ R.locals) : CallB R s args own index y_A_init prog_2_method_1_code 2 none (Cond.code y_A_init prog_2_method_1_code 2 none :: zws) rm_A_init 1 3 1 ∧ y_A_init.name = "<init>" ∧ (Cond.instanceMethod y_A_init).before args s = true := cwI 1 hW (zgood k_332) rfl rfl rfl (hW _ k_11) (hW _ hl) (hW _ k_331) rfl hd_A_init hR
abbrev y_A_addReference : MethodName := ⟨"TabledOrigin$Answer", "addReference", "(I)V"⟩
abbrev rm_A_addReference : Room := { frames := 1, cells := 0, slots := 0, locals := 14 }
theorem hd_A_addReference : y_A_addReference.cls ≠ "java/lang/invoke/MethodHandle" ∧ y_A_addReference.cls ≠ "java/lang/invoke/VarHandle" ∧ (parseMethodDescriptor y_A_addReference.desc).map (fun d => d.parameters.length) = some 1 := by decide +kernel
theorem cw_A_addReference {R : Room} {s : State} {args : Array Value} {own : String} {index : Nat} (hW : ∀ w ∈ zws, w.before args s = true) (hl : Cond.methodLink own index y_A_addReference ∈ zws) (hR : rm_A_addReference.frames + 1 ≤ R.frames ∧ 8 + (2 + 11) + rm_A_addReference.locals ≤ R.locals) : CallW R s args own "TabledOrigin$Answer" index y_A_addReference prog_2_method_2_code 2 none (Cond.code y_A_addReference prog_2_method_2_code 2 none :: zws) rm_A_addReference 0 0 1 := ⟨callB_of 1 hW (zgood k_418) rfl rfl rfl (hW _ k_11) (hW _ hl) hd_A_addReference hR, hW _ k_416, hW _ k_417⟩
abbrev y_A_refersTo : MethodName := ⟨"TabledOrigin$Answer", "refersTo", "(I)Z"⟩
abbrev rm_A_refersTo : Room := { frames := 0, cells := 0, slots := 0, locals := 0 }
theorem hd_A_refersTo : y_A_refersTo.cls ≠ "java/lang/invoke/MethodHandle" ∧ y_A_refersTo.cls ≠ "java/lang/invoke/VarHandle" ∧ (parseMethodDescriptor y_A_refersTo.desc).map (fun d => d.parameters.length) = some 1 := by decide +kernel
theorem cw_A_refersTo {R : Room} {s : State} {args : Array Value} {own : String} {index : Nat} (hW : ∀ w ∈ zws, w.before args s = true) (hl : Cond.methodLink own index y_A_refersTo ∈ zws) (hR : rm_A_refersTo.frames + 1 ≤ R.frames ∧ 8 + (3 + 11) + rm_A_refersTo.locals ≤ R.locals) : CallW R s args own "TabledOrigin$Answer" index y_A_refersTo prog_2_method_3_code 3 (some .boolean) (Cond.code y_A_refersTo prog_2_method_3_code 3 (some .boolean) :: zws) rm_A_refersTo 0 0 1 := ⟨callB_of 1 hW (zgood k_431) rfl rfl rfl (hW _ k_11) (hW _ hl) hd_A_refersTo hR, hW _ k_429, hW _ k_430⟩
abbrev y_K_init : MethodName := ⟨"TabledOrigin$StoredAnswer", "<init>", "()V"⟩
abbrev rm_K_init : Room := { frames := 1, cells := 0, slots := 0, locals := 12 }
theorem hd_K_init : y_K_init.cls ≠ "java/lang/invoke/MethodHandle" ∧ y_K_init.cls ≠ "java/lang/invoke/VarHandle" ∧ (parseMethodDescriptor y_K_init.desc).map (fun d => d.parameters.length) = some 0 := by decide +kernel
theorem cw_K_init {R : Room} {s : State} {args : Array Value} {own : String} {index : Nat} (hW : ∀ w ∈ zws, w.before args s = true) (hl : va_Nw (.methodLinkNest own index y_K_init "TabledOrigin") s) (hR : rm_K_init.frames + 1 ≤ R.frames ∧ 8 + (1 + 11) + rm_K_init.locals ≤ R.locals) : va_CN R s args own index y_K_init "TabledOrigin" prog_8_method_1_code 1 none (Cond.code y_K_init prog_8_method_1_code 1 none :: zws) rm_K_init 0 0 0 ∧ y_K_init.name = "<init>" ∧ (Cond.instanceMethod y_K_init).before args s = true := ⟨va_cnB 0 hW (zgood k_119) rfl rfl rfl hl (hW _ k_6) hd_K_init hR, rfl, hW _ k_118⟩
abbrev y_C_init : MethodName := ⟨"TabledOrigin$Client", "<init>", "()V"⟩
abbrev rm_C_init : Room := { frames := 2, cells := 8, slots := 48, locals := 32 }
theorem hd_C_init : y_C_init.cls ≠ "java/lang/invoke/MethodHandle" ∧ y_C_init.cls ≠ "java/lang/invoke/VarHandle" ∧ (parseMethodDescriptor y_C_init.desc).map (fun d => d.parameters.length) = some 0 := by decide +kernel
theorem cw_C_init {R : Room} {s : State} {args : Array Value} {own : String} {index : Nat} (hW : ∀ w ∈ zws, w.before args s = true) (hl : Cond.methodLink own index y_C_init ∈ zws) (hR : rm_C_init.frames + 1 ≤ R.frames ∧ 8 + (2 + 11) + rm_C_init.locals ≤ R.locals) : CallB R s args own index y_C_init prog_3_method_1_code 2 none (Cond.code y_C_init prog_3_method_1_code 2 none :: zws) rm_C_init 8 48 0 ∧ y_C_init.name = "<init>" ∧ (Cond.instanceMethod y_C_init).before args s = true := cwI 0 hW (zgood k_112) rfl rfl rfl (hW _ k_5) (hW _ hl) (hW _ k_111) rfl hd_C_init hR
abbrev y_C_storedAt : MethodName := ⟨"TabledOrigin$Client", "storedAt", "(I)LTabledOrigin$StoredAnswer;"⟩
abbrev rm_C_storedAt : Room := { frames := 0, cells := 0, slots := 0, locals := 0 }
theorem hd_C_storedAt : y_C_storedAt.cls ≠ "java/lang/invoke/MethodHandle" ∧ y_C_storedAt.cls ≠ "java/lang/invoke/VarHandle" ∧ (parseMethodDescriptor y_C_storedAt.desc).map (fun d => d.parameters.length) = some 1 := by decide +kernel
theorem cw_C_storedAt {R : Room} {s : State} {args : Array Value} {own : String} {index : Nat} (hW : ∀ w ∈ zws, w.before args s = true) (hl : Cond.methodLink own index y_C_storedAt ∈ zws) (hR : rm_C_storedAt.frames + 1 ≤ R.frames ∧ 8 + (2 + 11) + rm_C_storedAt.locals ≤ R.locals) : CallW R s args own "TabledOrigin$Client" index y_C_storedAt prog_3_method_2_code 2 (some (.object "TabledOrigin$StoredAnswer")) (Cond.code y_C_storedAt prog_3_method_2_code 2 (some (.object "TabledOrigin$StoredAnswer")) :: zws) rm_C_storedAt 0 0 1 := ⟨callB_of 1 hW (zgood k_234) rfl rfl rfl (hW _ k_5) (hW _ hl) hd_C_storedAt hR, hW _ k_232, hW _ k_233⟩
abbrev y_K_isFresh : MethodName := ⟨"TabledOrigin$StoredAnswer", "isFresh", "(I)Z"⟩
abbrev rm_K_isFresh : Room := { frames := 0, cells := 0, slots := 0, locals := 0 }
theorem hd_K_isFresh : y_K_isFresh.cls ≠ "java/lang/invoke/MethodHandle" ∧ y_K_isFresh.cls ≠ "java/lang/invoke/VarHandle" ∧ (parseMethodDescriptor y_K_isFresh.desc).map (fun d => d.parameters.length) = some 1 := by decide +kernel
theorem cw_K_isFresh {R : Room} {s : State} {args : Array Value} {own : String} {index : Nat} (hW : ∀ w ∈ zws, w.before args s = true) (hl : Cond.methodLink own index y_K_isFresh ∈ zws) (hR : rm_K_isFresh.frames + 1 ≤ R.frames ∧ 8 + (2 + 11) + rm_K_isFresh.locals ≤ R.locals) : CallW R s args own "TabledOrigin$StoredAnswer" index y_K_isFresh prog_8_method_2_code 2 (some .boolean) (Cond.code y_K_isFresh prog_8_method_2_code 2 (some .boolean) :: zws) rm_K_isFresh 0 0 1 := ⟨callB_of 1 hW (zgood k_299) rfl rfl rfl (hW _ k_6) (hW _ hl) hd_K_isFresh hR, hW _ k_297, hW _ k_298⟩
abbrev y_Q_settle : MethodName := ⟨"TabledOrigin$Request", "settle", "(II)V"⟩
abbrev rm_Q_settle : Room := { frames := 0, cells := 0, slots := 0, locals := 0 }
theorem hd_Q_settle : y_Q_settle.cls ≠ "java/lang/invoke/MethodHandle" ∧ y_Q_settle.cls ≠ "java/lang/invoke/VarHandle" ∧ (parseMethodDescriptor y_Q_settle.desc).map (fun d => d.parameters.length) = some 2 := by decide +kernel
theorem cw_Q_settle {R : Room} {s : State} {args : Array Value} {own : String} {index : Nat} (hW : ∀ w ∈ zws, w.before args s = true) (hl : Cond.methodLink own index y_Q_settle ∈ zws) (hR : rm_Q_settle.frames + 1 ≤ R.frames ∧ 8 + (3 + 11) + rm_Q_settle.locals ≤ R.locals) : CallW R s args own "TabledOrigin$Request" index y_Q_settle prog_5_method_2_code 3 none (Cond.code y_Q_settle prog_5_method_2_code 3 none :: zws) rm_Q_settle 0 0 2 := ⟨callB_of 2 hW (zgood k_303) rfl rfl rfl (hW _ k_9) (hW _ hl) hd_Q_settle hR, hW _ k_301, hW _ k_302⟩
abbrev y_C_begin : MethodName := ⟨"TabledOrigin$Client", "begin", "(LTabledOrigin$Request;LTabledOrigin$StoredAnswer;I)V"⟩
abbrev rm_C_begin : Room := { frames := 1, cells := 0, slots := 0, locals := 22 }
theorem hd_C_begin : y_C_begin.cls ≠ "java/lang/invoke/MethodHandle" ∧ y_C_begin.cls ≠ "java/lang/invoke/VarHandle" ∧ (parseMethodDescriptor y_C_begin.desc).map (fun d => d.parameters.length) = some 3 := by decide +kernel
theorem cw_C_begin {R : Room} {s : State} {args : Array Value} {own : String} {index : Nat} (hW : ∀ w ∈ zws, w.before args s = true) (hl : Cond.methodLink own index y_C_begin ∈ zws) (hR : rm_C_begin.frames + 1 ≤ R.frames ∧ 8 + (4 + 11) + rm_C_begin.locals ≤ R.locals) : CallW R s args own "TabledOrigin$Client" index y_C_begin prog_3_method_3_code 4 none (Cond.code y_C_begin prog_3_method_3_code 4 none :: zws) rm_C_begin 0 0 3 := ⟨callB_of 3 hW (zgood k_295) rfl rfl rfl (hW _ k_5) (hW _ hl) hd_C_begin hR, hW _ k_293, hW _ k_294⟩
abbrev y_C_mustWaitFor : MethodName := ⟨"TabledOrigin$Client", "mustWaitFor", "(LTabledOrigin$Answer;)Z"⟩
abbrev rm_C_mustWaitFor : Room := { frames := 0, cells := 0, slots := 0, locals := 0 }
theorem hd_C_mustWaitFor : y_C_mustWaitFor.cls ≠ "java/lang/invoke/MethodHandle" ∧ y_C_mustWaitFor.cls ≠ "java/lang/invoke/VarHandle" ∧ (parseMethodDescriptor y_C_mustWaitFor.desc).map (fun d => d.parameters.length) = some 1 := by decide +kernel
theorem cw_C_mustWaitFor {R : Room} {s : State} {args : Array Value} {own : String} {index : Nat} (hW : ∀ w ∈ zws, w.before args s = true) (hl : Cond.methodLink own index y_C_mustWaitFor ∈ zws) (hR : rm_C_mustWaitFor.frames + 1 ≤ R.frames ∧ 8 + (2 + 11) + rm_C_mustWaitFor.locals ≤ R.locals) : CallW R s args own "TabledOrigin$Client" index y_C_mustWaitFor prog_3_method_4_code 2 (some .boolean) (Cond.code y_C_mustWaitFor prog_3_method_4_code 2 (some .boolean) :: zws) rm_C_mustWaitFor 0 0 1 := ⟨callB_of 1 hW (zgood k_451) rfl rfl rfl (hW _ k_5) (hW _ hl) hd_C_mustWaitFor hR, hW _ k_449, hW _ k_450⟩
abbrev y_K_forgetIfOlderThan : MethodName := ⟨"TabledOrigin$StoredAnswer", "forgetIfOlderThan", "(I)V"⟩
abbrev rm_K_forgetIfOlderThan : Room := { frames := 0, cells := 0, slots := 0, locals := 0 }
theorem hd_K_forgetIfOlderThan : y_K_forgetIfOlderThan.cls ≠ "java/lang/invoke/MethodHandle" ∧ y_K_forgetIfOlderThan.cls ≠ "java/lang/invoke/VarHandle" ∧ (parseMethodDescriptor y_K_forgetIfOlderThan.desc).map (fun d => d.parameters.length) = some 1 := by decide +kernel
theorem cw_K_forgetIfOlderThan {R : Room} {s : State} {args : Array Value} {own : String} {index : Nat} (hW : ∀ w ∈ zws, w.before args s = true) (hl : Cond.methodLink own index y_K_forgetIfOlderThan ∈ zws) (hR : rm_K_forgetIfOlderThan.frames + 1 ≤ R.frames ∧ 8 + (2 + 11) + rm_K_forgetIfOlderThan.locals ≤ R.locals) : CallW R s args own "TabledOrigin$StoredAnswer" index y_K_forgetIfOlderThan prog_8_method_4_code 2 none (Cond.code y_K_forgetIfOlderThan prog_8_method_4_code 2 none :: zws) rm_K_forgetIfOlderThan 0 0 1 := ⟨callB_of 1 hW (zgood k_460) rfl rfl rfl (hW _ k_6) (hW _ hl) hd_K_forgetIfOlderThan hR, hW _ k_458, hW _ k_459⟩
abbrev y_C_store : MethodName := ⟨"TabledOrigin$Client", "store", "(LTabledOrigin$StoredAnswer;LTabledOrigin$Request;LTabledOrigin$Answer;)V"⟩
abbrev rm_C_store : Room := { frames := 0, cells := 0, slots := 0, locals := 0 }
theorem hd_C_store : y_C_store.cls ≠ "java/lang/invoke/MethodHandle" ∧ y_C_store.cls ≠ "java/lang/invoke/VarHandle" ∧ (parseMethodDescriptor y_C_store.desc).map (fun d => d.parameters.length) = some 3 := by decide +kernel
theorem cw_C_store {R : Room} {s : State} {args : Array Value} {own : String} {index : Nat} (hW : ∀ w ∈ zws, w.before args s = true) (hl : Cond.methodLink own index y_C_store ∈ zws) (hR : rm_C_store.frames + 1 ≤ R.frames ∧ 8 + (4 + 11) + rm_C_store.locals ≤ R.locals) : CallW R s args own "TabledOrigin$Client" index y_C_store prog_3_method_6_code 4 none (Cond.code y_C_store prog_3_method_6_code 4 none :: zws) rm_C_store 0 0 3 := ⟨callB_of 3 hW (zgood k_464) rfl rfl rfl (hW _ k_5) (hW _ hl) hd_C_store hR, hW _ k_463, hW _ ks_8⟩
abbrev y_C_renew : MethodName := ⟨"TabledOrigin$Client", "renew", "(LTabledOrigin$StoredAnswer;LTabledOrigin$Request;LTabledOrigin$Answer;)V"⟩
abbrev rm_C_renew : Room := { frames := 0, cells := 0, slots := 0, locals := 0 }
theorem hd_C_renew : y_C_renew.cls ≠ "java/lang/invoke/MethodHandle" ∧ y_C_renew.cls ≠ "java/lang/invoke/VarHandle" ∧ (parseMethodDescriptor y_C_renew.desc).map (fun d => d.parameters.length) = some 3 := by decide +kernel
theorem cw_C_renew {R : Room} {s : State} {args : Array Value} {own : String} {index : Nat} (hW : ∀ w ∈ zws, w.before args s = true) (hl : Cond.methodLink own index y_C_renew ∈ zws) (hR : rm_C_renew.frames + 1 ≤ R.frames ∧ 8 + (4 + 11) + rm_C_renew.locals ≤ R.locals) : CallW R s args own "TabledOrigin$Client" index y_C_renew prog_3_method_7_code 4 none (Cond.code y_C_renew prog_3_method_7_code 4 none :: zws) rm_C_renew 0 0 3 := ⟨callB_of 3 hW (zgood k_468) rfl rfl rfl (hW _ k_5) (hW _ hl) hd_C_renew hR, hW _ k_467, hW _ ks_9⟩
abbrev y_F_append : MethodName := ⟨"TabledOrigin$FeedbackRoad", "append", "(II)V"⟩
abbrev rm_F_append : Room := { frames := 0, cells := 0, slots := 0, locals := 0 }
theorem hd_F_append : y_F_append.cls ≠ "java/lang/invoke/MethodHandle" ∧ y_F_append.cls ≠ "java/lang/invoke/VarHandle" ∧ (parseMethodDescriptor y_F_append.desc).map (fun d => d.parameters.length) = some 2 := by decide +kernel
theorem cw_F_append {R : Room} {s : State} {args : Array Value} {own : String} {index : Nat} (hW : ∀ w ∈ zws, w.before args s = true) (hl : Cond.methodLink own index y_F_append ∈ zws) (hR : rm_F_append.frames + 1 ≤ R.frames ∧ 8 + (3 + 11) + rm_F_append.locals ≤ R.locals) : CallW R s args own "TabledOrigin$FeedbackRoad" index y_F_append prog_4_method_2_code 3 none (Cond.code y_F_append prog_4_method_2_code 3 none :: zws) rm_F_append 0 0 2 := ⟨callB_of 2 hW (zgood k_476) rfl rfl rfl (hW _ k_7) (hW _ hl) hd_F_append hR, hW _ k_474, hW _ k_475⟩
abbrev y_C_acknowledge : MethodName := ⟨"TabledOrigin$Client", "acknowledge", "(LTabledOrigin$Request;LTabledOrigin$Answer;LTabledOrigin$FeedbackRoad;)V"⟩
abbrev rm_C_acknowledge : Room := { frames := 1, cells := 0, slots := 0, locals := 22 }
theorem hd_C_acknowledge : y_C_acknowledge.cls ≠ "java/lang/invoke/MethodHandle" ∧ y_C_acknowledge.cls ≠ "java/lang/invoke/VarHandle" ∧ (parseMethodDescriptor y_C_acknowledge.desc).map (fun d => d.parameters.length) = some 3 := by decide +kernel
theorem cw_C_acknowledge {R : Room} {s : State} {args : Array Value} {own : String} {index : Nat} (hW : ∀ w ∈ zws, w.before args s = true) (hl : Cond.methodLink own index y_C_acknowledge ∈ zws) (hR : rm_C_acknowledge.frames + 1 ≤ R.frames ∧ 8 + (4 + 11) + rm_C_acknowledge.locals ≤ R.locals) : CallW R s args own "TabledOrigin$Client" index y_C_acknowledge prog_3_method_8_code 4 none (Cond.code y_C_acknowledge prog_3_method_8_code 4 none :: zws) rm_C_acknowledge 0 0 3 := ⟨callB_of 3 hW (zgood k_472) rfl rfl rfl (hW _ k_5) (hW _ hl) hd_C_acknowledge hR, hW _ k_471, hW _ ks_10⟩
abbrev y_C_read : MethodName := ⟨"TabledOrigin$Client", "read", "(LTabledOrigin$Request;LTabledOrigin$Answer;LTabledOrigin$FeedbackRoad;)V"⟩
abbrev rm_C_read : Room := { frames := 2, cells := 0, slots := 0, locals := 45 }
theorem hd_C_read : y_C_read.cls ≠ "java/lang/invoke/MethodHandle" ∧ y_C_read.cls ≠ "java/lang/invoke/VarHandle" ∧ (parseMethodDescriptor y_C_read.desc).map (fun d => d.parameters.length) = some 3 := by decide +kernel
theorem cw_C_read {R : Room} {s : State} {args : Array Value} {own : String} {index : Nat} (hW : ∀ w ∈ zws, w.before args s = true) (hl : Cond.methodLink own index y_C_read ∈ zws) (hR : rm_C_read.frames + 1 ≤ R.frames ∧ 8 + (5 + 11) + rm_C_read.locals ≤ R.locals) : CallW R s args own "TabledOrigin$Client" index y_C_read prog_3_method_5_code 5 none (Cond.code y_C_read prog_3_method_5_code 5 none :: zws) rm_C_read 0 0 3 := ⟨callB_of 3 hW (zgood k_455) rfl rfl rfl (hW _ k_5) (hW _ hl) hd_C_read hR, hW _ k_453, hW _ k_454⟩
abbrev y_F_init : MethodName := ⟨"TabledOrigin$FeedbackRoad", "<init>", "()V"⟩
abbrev rm_F_init : Room := { frames := 1, cells := 2, slots := 480, locals := 12 }
theorem hd_F_init : y_F_init.cls ≠ "java/lang/invoke/MethodHandle" ∧ y_F_init.cls ≠ "java/lang/invoke/VarHandle" ∧ (parseMethodDescriptor y_F_init.desc).map (fun d => d.parameters.length) = some 0 := by decide +kernel
theorem cw_F_init {R : Room} {s : State} {args : Array Value} {own : String} {index : Nat} (hW : ∀ w ∈ zws, w.before args s = true) (hl : Cond.methodLink own index y_F_init ∈ zws) (hR : rm_F_init.frames + 1 ≤ R.frames ∧ 8 + (1 + 11) + rm_F_init.locals ≤ R.locals) : CallB R s args own index y_F_init prog_4_method_1_code 1 none (Cond.code y_F_init prog_4_method_1_code 1 none :: zws) rm_F_init 2 480 0 ∧ y_F_init.name = "<init>" ∧ (Cond.instanceMethod y_F_init).before args s = true := cwI 0 hW (zgood k_168) rfl rfl rfl (hW _ k_7) (hW _ hl) (hW _ k_167) rfl hd_F_init hR
abbrev y_F_nextKind : MethodName := ⟨"TabledOrigin$FeedbackRoad", "nextKind", "()I"⟩
abbrev rm_F_nextKind : Room := { frames := 0, cells := 0, slots := 0, locals := 0 }
theorem hd_F_nextKind : y_F_nextKind.cls ≠ "java/lang/invoke/MethodHandle" ∧ y_F_nextKind.cls ≠ "java/lang/invoke/VarHandle" ∧ (parseMethodDescriptor y_F_nextKind.desc).map (fun d => d.parameters.length) = some 0 := by decide +kernel
theorem cw_F_nextKind {R : Room} {s : State} {args : Array Value} {own : String} {index : Nat} (hW : ∀ w ∈ zws, w.before args s = true) (hl : Cond.methodLink own index y_F_nextKind ∈ zws) (hR : rm_F_nextKind.frames + 1 ≤ R.frames ∧ 8 + (1 + 11) + rm_F_nextKind.locals ≤ R.locals) : CallW R s args own "TabledOrigin$FeedbackRoad" index y_F_nextKind prog_4_method_3_code 1 (some .int) (Cond.code y_F_nextKind prog_4_method_3_code 1 (some .int) :: zws) rm_F_nextKind 0 0 0 := ⟨callB_of 0 hW (zgood k_496) rfl rfl rfl (hW _ k_7) (hW _ hl) hd_F_nextKind hR, hW _ k_494, hW _ k_495⟩
abbrev y_F_nextNumber : MethodName := ⟨"TabledOrigin$FeedbackRoad", "nextNumber", "()I"⟩
abbrev rm_F_nextNumber : Room := { frames := 0, cells := 0, slots := 0, locals := 0 }
theorem hd_F_nextNumber : y_F_nextNumber.cls ≠ "java/lang/invoke/MethodHandle" ∧ y_F_nextNumber.cls ≠ "java/lang/invoke/VarHandle" ∧ (parseMethodDescriptor y_F_nextNumber.desc).map (fun d => d.parameters.length) = some 0 := by decide +kernel
theorem cw_F_nextNumber {R : Room} {s : State} {args : Array Value} {own : String} {index : Nat} (hW : ∀ w ∈ zws, w.before args s = true) (hl : Cond.methodLink own index y_F_nextNumber ∈ zws) (hR : rm_F_nextNumber.frames + 1 ≤ R.frames ∧ 8 + (1 + 11) + rm_F_nextNumber.locals ≤ R.locals) : CallW R s args own "TabledOrigin$FeedbackRoad" index y_F_nextNumber prog_4_method_4_code 1 (some .int) (Cond.code y_F_nextNumber prog_4_method_4_code 1 (some .int) :: zws) rm_F_nextNumber 0 0 0 := ⟨callB_of 0 hW (zgood k_500) rfl rfl rfl (hW _ k_7) (hW _ hl) hd_F_nextNumber hR, hW _ k_498, hW _ k_499⟩
abbrev y_F_moveOn : MethodName := ⟨"TabledOrigin$FeedbackRoad", "moveOn", "()V"⟩
abbrev rm_F_moveOn : Room := { frames := 0, cells := 0, slots := 0, locals := 0 }
theorem hd_F_moveOn : y_F_moveOn.cls ≠ "java/lang/invoke/MethodHandle" ∧ y_F_moveOn.cls ≠ "java/lang/invoke/VarHandle" ∧ (parseMethodDescriptor y_F_moveOn.desc).map (fun d => d.parameters.length) = some 0 := by decide +kernel
theorem cw_F_moveOn {R : Room} {s : State} {args : Array Value} {own : String} {index : Nat} (hW : ∀ w ∈ zws, w.before args s = true) (hl : Cond.methodLink own index y_F_moveOn ∈ zws) (hR : rm_F_moveOn.frames + 1 ≤ R.frames ∧ 8 + (1 + 11) + rm_F_moveOn.locals ≤ R.locals) : CallW R s args own "TabledOrigin$FeedbackRoad" index y_F_moveOn prog_4_method_5_code 1 none (Cond.code y_F_moveOn prog_4_method_5_code 1 none :: zws) rm_F_moveOn 0 0 0 := ⟨callB_of 0 hW (zgood k_504) rfl rfl rfl (hW _ k_7) (hW _ hl) hd_F_moveOn hR, hW _ k_502, hW _ k_503⟩
abbrev y_Q_init : MethodName := ⟨"TabledOrigin$Request", "<init>", "(IIZII)V"⟩
abbrev rm_Q_init : Room := { frames := 1, cells := 0, slots := 0, locals := 12 }
theorem hd_Q_init : y_Q_init.cls ≠ "java/lang/invoke/MethodHandle" ∧ y_Q_init.cls ≠ "java/lang/invoke/VarHandle" ∧ (parseMethodDescriptor y_Q_init.desc).map (fun d => d.parameters.length) = some 5 := by decide +kernel
theorem cw_Q_init {R : Room} {s : State} {args : Array Value} {own : String} {index : Nat} (hW : ∀ w ∈ zws, w.before args s = true) (hl : Cond.methodLink own index y_Q_init ∈ zws) (hR : rm_Q_init.frames + 1 ≤ R.frames ∧ 8 + (6 + 11) + rm_Q_init.locals ≤ R.locals) : CallB R s args own index y_Q_init prog_5_method_1_code 6 none (Cond.code y_Q_init prog_5_method_1_code 6 none :: zws) rm_Q_init 0 0 5 ∧ y_Q_init.name = "<init>" ∧ (Cond.instanceMethod y_Q_init).before args s = true := cwI 5 hW (zgood k_238) rfl rfl rfl (hW _ k_9) (hW _ hl) (hW _ k_237) rfl hd_Q_init hR
abbrev y_O_init : MethodName := ⟨"TabledOrigin$Resource", "<init>", "()V"⟩
abbrev rm_O_init : Room := { frames := 1, cells := 0, slots := 0, locals := 12 }
theorem hd_O_init : y_O_init.cls ≠ "java/lang/invoke/MethodHandle" ∧ y_O_init.cls ≠ "java/lang/invoke/VarHandle" ∧ (parseMethodDescriptor y_O_init.desc).map (fun d => d.parameters.length) = some 0 := by decide +kernel
theorem cw_O_init {R : Room} {s : State} {args : Array Value} {own : String} {index : Nat} (hW : ∀ w ∈ zws, w.before args s = true) (hl : va_Nw (.methodLinkNest own index y_O_init "TabledOrigin") s) (hR : rm_O_init.frames + 1 ≤ R.frames ∧ 8 + (1 + 11) + rm_O_init.locals ≤ R.locals) : va_CN R s args own index y_O_init "TabledOrigin" prog_6_method_1_code 1 none (Cond.code y_O_init prog_6_method_1_code 1 none :: zws) rm_O_init 0 0 0 ∧ y_O_init.name = "<init>" ∧ (Cond.instanceMethod y_O_init).before args s = true := ⟨va_cnB 0 hW (zgood k_31) rfl rfl rfl hl (hW _ k_3) hd_O_init hR, rfl, hW _ k_30⟩
abbrev y_T_init : MethodName := ⟨"TabledOrigin$Table", "<init>", "()V"⟩
abbrev rm_T_init : Room := { frames := 1, cells := 3, slots := 70, locals := 12 }
theorem hd_T_init : y_T_init.cls ≠ "java/lang/invoke/MethodHandle" ∧ y_T_init.cls ≠ "java/lang/invoke/VarHandle" ∧ (parseMethodDescriptor y_T_init.desc).map (fun d => d.parameters.length) = some 0 := by decide +kernel
theorem cw_T_init {R : Room} {s : State} {args : Array Value} {own : String} {index : Nat} (hW : ∀ w ∈ zws, w.before args s = true) (hl : Cond.methodLink own index y_T_init ∈ zws) (hR : rm_T_init.frames + 1 ≤ R.frames ∧ 8 + (1 + 11) + rm_T_init.locals ≤ R.locals) : CallB R s args own index y_T_init prog_9_method_1_code 1 none (Cond.code y_T_init prog_9_method_1_code 1 none :: zws) rm_T_init 3 70 0 ∧ y_T_init.name = "<init>" ∧ (Cond.instanceMethod y_T_init).before args s = true := cwI 0 hW (zgood k_52) rfl rfl rfl (hW _ k_4) (hW _ hl) (hW _ k_51) rfl hd_T_init hR
abbrev y_S_init : MethodName := ⟨"TabledOrigin$Server", "<init>", "()V"⟩
abbrev rm_S_init : Room := { frames := 2, cells := 8, slots := 34, locals := 32 }
theorem hd_S_init : y_S_init.cls ≠ "java/lang/invoke/MethodHandle" ∧ y_S_init.cls ≠ "java/lang/invoke/VarHandle" ∧ (parseMethodDescriptor y_S_init.desc).map (fun d => d.parameters.length) = some 0 := by decide +kernel
theorem cw_S_init {R : Room} {s : State} {args : Array Value} {own : String} {index : Nat} (hW : ∀ w ∈ zws, w.before args s = true) (hl : Cond.methodLink own index y_S_init ∈ zws) (hR : rm_S_init.frames + 1 ≤ R.frames ∧ 8 + (2 + 11) + rm_S_init.locals ≤ R.locals) : CallB R s args own index y_S_init prog_7_method_1_code 2 none (Cond.code y_S_init prog_7_method_1_code 2 none :: zws) rm_S_init 8 34 0 ∧ y_S_init.name = "<init>" ∧ (Cond.instanceMethod y_S_init).before args s = true := cwI 0 hW (zgood k_24) rfl rfl rfl (hW _ k_2) (hW _ hl) (hW _ k_23) rfl hd_S_init hR
abbrev y_S_resourceAt : MethodName := ⟨"TabledOrigin$Server", "resourceAt", "(I)LTabledOrigin$Resource;"⟩
abbrev rm_S_resourceAt : Room := { frames := 0, cells := 0, slots := 0, locals := 0 }
theorem hd_S_resourceAt : y_S_resourceAt.cls ≠ "java/lang/invoke/MethodHandle" ∧ y_S_resourceAt.cls ≠ "java/lang/invoke/VarHandle" ∧ (parseMethodDescriptor y_S_resourceAt.desc).map (fun d => d.parameters.length) = some 1 := by decide +kernel
theorem cw_S_resourceAt {R : Room} {s : State} {args : Array Value} {own : String} {index : Nat} (hW : ∀ w ∈ zws, w.before args s = true) (hl : Cond.methodLink own index y_S_resourceAt ∈ zws) (hR : rm_S_resourceAt.frames + 1 ≤ R.frames ∧ 8 + (2 + 11) + rm_S_resourceAt.locals ≤ R.locals) : CallW R s args own "TabledOrigin$Server" index y_S_resourceAt prog_7_method_2_code 2 (some (.object "TabledOrigin$Resource")) (Cond.code y_S_resourceAt prog_7_method_2_code 2 (some (.object "TabledOrigin$Resource")) :: zws) rm_S_resourceAt 0 0 1 := ⟨callB_of 1 hW (zgood k_211) rfl rfl rfl (hW _ k_2) (hW _ hl) hd_S_resourceAt hR, hW _ k_209, hW _ k_210⟩
abbrev y_S_write : MethodName := ⟨"TabledOrigin$Server", "write", "(LTabledOrigin$Resource;II)V"⟩
abbrev rm_S_write : Room := { frames := 0, cells := 0, slots := 0, locals := 0 }
theorem hd_S_write : y_S_write.cls ≠ "java/lang/invoke/MethodHandle" ∧ y_S_write.cls ≠ "java/lang/invoke/VarHandle" ∧ (parseMethodDescriptor y_S_write.desc).map (fun d => d.parameters.length) = some 3 := by decide +kernel
theorem cw_S_write {R : Room} {s : State} {args : Array Value} {own : String} {index : Nat} (hW : ∀ w ∈ zws, w.before args s = true) (hl : Cond.methodLink own index y_S_write ∈ zws) (hR : rm_S_write.frames + 1 ≤ R.frames ∧ 8 + (4 + 11) + rm_S_write.locals ≤ R.locals) : CallW R s args own "TabledOrigin$Server" index y_S_write prog_7_method_3_code 4 none (Cond.code y_S_write prog_7_method_3_code 4 none :: zws) rm_S_write 0 0 3 := ⟨callB_of 3 hW (zgood k_218) rfl rfl rfl (hW _ k_2) (hW _ hl) hd_S_write hR, hW _ k_216, hW _ k_217⟩
abbrev y_T_outstandingNeeding : MethodName := ⟨"TabledOrigin$Table", "outstandingNeeding", "(I)I"⟩
abbrev rm_T_outstandingNeeding : Room := { frames := 0, cells := 0, slots := 0, locals := 0 }
theorem hd_T_outstandingNeeding : y_T_outstandingNeeding.cls ≠ "java/lang/invoke/MethodHandle" ∧ y_T_outstandingNeeding.cls ≠ "java/lang/invoke/VarHandle" ∧ (parseMethodDescriptor y_T_outstandingNeeding.desc).map (fun d => d.parameters.length) = some 1 := by decide +kernel
theorem cw_T_outstandingNeeding {R : Room} {s : State} {args : Array Value} {own : String} {index : Nat} (hW : ∀ w ∈ zws, w.before args s = true) (hl : Cond.methodLink own index y_T_outstandingNeeding ∈ zws) (hR : rm_T_outstandingNeeding.frames + 1 ≤ R.frames ∧ 8 + (5 + 11) + rm_T_outstandingNeeding.locals ≤ R.locals) : CallW R s args own "TabledOrigin$Table" index y_T_outstandingNeeding prog_9_method_9_code 5 (some .int) (Cond.code y_T_outstandingNeeding prog_9_method_9_code 5 (some .int) :: zws) rm_T_outstandingNeeding 0 0 1 := ⟨callB_of 1 hW (zgood k_388) rfl rfl rfl (hW _ k_4) (hW _ hl) hd_T_outstandingNeeding hR, hW _ k_386, hW _ k_387⟩
abbrev y_T_atRisk : MethodName := ⟨"TabledOrigin$Table", "atRisk", "()I"⟩
abbrev rm_T_atRisk : Room := { frames := 1, cells := 0, slots := 0, locals := 24 }
theorem hd_T_atRisk : y_T_atRisk.cls ≠ "java/lang/invoke/MethodHandle" ∧ y_T_atRisk.cls ≠ "java/lang/invoke/VarHandle" ∧ (parseMethodDescriptor y_T_atRisk.desc).map (fun d => d.parameters.length) = some 0 := by decide +kernel
theorem cw_T_atRisk {R : Room} {s : State} {args : Array Value} {own : String} {index : Nat} (hW : ∀ w ∈ zws, w.before args s = true) (hl : Cond.methodLink own index y_T_atRisk ∈ zws) (hR : rm_T_atRisk.frames + 1 ≤ R.frames ∧ 8 + (1 + 11) + rm_T_atRisk.locals ≤ R.locals) : CallW R s args own "TabledOrigin$Table" index y_T_atRisk prog_9_method_8_code 1 (some .int) (Cond.code y_T_atRisk prog_9_method_8_code 1 (some .int) :: zws) rm_T_atRisk 0 0 0 := ⟨callB_of 0 hW (zgood k_384) rfl rfl rfl (hW _ k_4) (hW _ hl) hd_T_atRisk hR, hW _ k_382, hW _ k_383⟩
abbrev y_T_liveCount : MethodName := ⟨"TabledOrigin$Table", "liveCount", "()I"⟩
abbrev rm_T_liveCount : Room := { frames := 1, cells := 0, slots := 0, locals := 13 }
theorem hd_T_liveCount : y_T_liveCount.cls ≠ "java/lang/invoke/MethodHandle" ∧ y_T_liveCount.cls ≠ "java/lang/invoke/VarHandle" ∧ (parseMethodDescriptor y_T_liveCount.desc).map (fun d => d.parameters.length) = some 0 := by decide +kernel
theorem cw_T_liveCount {R : Room} {s : State} {args : Array Value} {own : String} {index : Nat} (hW : ∀ w ∈ zws, w.before args s = true) (hl : Cond.methodLink own index y_T_liveCount ∈ zws) (hR : rm_T_liveCount.frames + 1 ≤ R.frames ∧ 8 + (1 + 11) + rm_T_liveCount.locals ≤ R.locals) : CallW R s args own "TabledOrigin$Table" index y_T_liveCount prog_9_method_2_code 1 (some .int) (Cond.code y_T_liveCount prog_9_method_2_code 1 (some .int) :: zws) rm_T_liveCount 0 0 0 := ⟨callB_of 0 hW (zgood k_396) rfl rfl rfl (hW _ k_4) (hW _ hl) hd_T_liveCount hR, hW _ k_394, hW _ k_395⟩
abbrev y_M_floorMod : MethodName := ⟨"java/lang/Math", "floorMod", "(II)I"⟩
abbrev rm_M_floorMod : Room := { frames := 0, cells := 0, slots := 0, locals := 0 }
theorem hd_M_floorMod : y_M_floorMod.cls ≠ "java/lang/invoke/MethodHandle" ∧ y_M_floorMod.cls ≠ "java/lang/invoke/VarHandle" ∧ (parseMethodDescriptor y_M_floorMod.desc).map (fun d => d.parameters.length) = some 2 := by decide +kernel
theorem cw_M_floorMod {R : Room} {s : State} {args : Array Value} {own : String} {index : Nat} (hW : ∀ w ∈ zws, w.before args s = true) (hl : Cond.methodLink own index y_M_floorMod ∈ zws) (hR : rm_M_floorMod.frames + 1 ≤ R.frames ∧ 8 + (3 + 11) + rm_M_floorMod.locals ≤ R.locals) : CallB R s args own index y_M_floorMod prog_12_method_50_code 3 (some .int) (Cond.code y_M_floorMod prog_12_method_50_code 3 (some .int) :: zws) rm_M_floorMod 0 0 2 ∧ (Cond.static y_M_floorMod).before args s = true := ⟨callB_of 2 hW (zgood k_406) rfl rfl rfl (hW _ k_10) (hW _ hl) hd_M_floorMod hR, hW _ k_405⟩
abbrev y_T_nameOf : MethodName := ⟨"TabledOrigin$Table", "nameOf", "(I)I"⟩
abbrev rm_T_nameOf : Room := { frames := 1, cells := 0, slots := 0, locals := 22 }
theorem hd_T_nameOf : y_T_nameOf.cls ≠ "java/lang/invoke/MethodHandle" ∧ y_T_nameOf.cls ≠ "java/lang/invoke/VarHandle" ∧ (parseMethodDescriptor y_T_nameOf.desc).map (fun d => d.parameters.length) = some 1 := by decide +kernel
theorem cw_T_nameOf {R : Room} {s : State} {args : Array Value} {own : String} {index : Nat} (hW : ∀ w ∈ zws, w.before args s = true) (hl : Cond.methodLink own index y_T_nameOf ∈ zws) (hR : rm_T_nameOf.frames + 1 ≤ R.frames ∧ 8 + (2 + 11) + rm_T_nameOf.locals ≤ R.locals) : CallW R s args own "TabledOrigin$Table" index y_T_nameOf prog_9_method_3_code 2 (some .int) (Cond.code y_T_nameOf prog_9_method_3_code 2 (some .int) :: zws) rm_T_nameOf 0 0 1 := ⟨callB_of 1 hW (zgood k_403) rfl rfl rfl (hW _ k_4) (hW _ hl) hd_T_nameOf hR, hW _ k_401, hW _ k_402⟩
abbrev y_T_valueOf : MethodName := ⟨"TabledOrigin$Table", "valueOf", "(I)I"⟩
abbrev rm_T_valueOf : Room := { frames := 1, cells := 0, slots := 0, locals := 22 }
theorem hd_T_valueOf : y_T_valueOf.cls ≠ "java/lang/invoke/MethodHandle" ∧ y_T_valueOf.cls ≠ "java/lang/invoke/VarHandle" ∧ (parseMethodDescriptor y_T_valueOf.desc).map (fun d => d.parameters.length) = some 1 := by decide +kernel
theorem cw_T_valueOf {R : Room} {s : State} {args : Array Value} {own : String} {index : Nat} (hW : ∀ w ∈ zws, w.before args s = true) (hl : Cond.methodLink own index y_T_valueOf ∈ zws) (hR : rm_T_valueOf.frames + 1 ≤ R.frames ∧ 8 + (2 + 11) + rm_T_valueOf.locals ≤ R.locals) : CallW R s args own "TabledOrigin$Table" index y_T_valueOf prog_9_method_4_code 2 (some .int) (Cond.code y_T_valueOf prog_9_method_4_code 2 (some .int) :: zws) rm_T_valueOf 0 0 1 := ⟨callB_of 1 hW (zgood k_410) rfl rfl rfl (hW _ k_4) (hW _ hl) hd_T_valueOf hR, hW _ k_408, hW _ k_409⟩
abbrev y_T_findLive : MethodName := ⟨"TabledOrigin$Table", "findLive", "(II)I"⟩
abbrev rm_T_findLive : Room := { frames := 2, cells := 0, slots := 0, locals := 43 }
theorem hd_T_findLive : y_T_findLive.cls ≠ "java/lang/invoke/MethodHandle" ∧ y_T_findLive.cls ≠ "java/lang/invoke/VarHandle" ∧ (parseMethodDescriptor y_T_findLive.desc).map (fun d => d.parameters.length) = some 2 := by decide +kernel
theorem cw_T_findLive {R : Room} {s : State} {args : Array Value} {own : String} {index : Nat} (hW : ∀ w ∈ zws, w.before args s = true) (hl : Cond.methodLink own index y_T_findLive ∈ zws) (hR : rm_T_findLive.frames + 1 ≤ R.frames ∧ 8 + (5 + 11) + rm_T_findLive.locals ≤ R.locals) : CallW R s args own "TabledOrigin$Table" index y_T_findLive prog_9_method_11_code 5 (some .int) (Cond.code y_T_findLive prog_9_method_11_code 5 (some .int) :: zws) rm_T_findLive 0 0 2 := ⟨callB_of 2 hW (zgood k_392) rfl rfl rfl (hW _ k_4) (hW _ hl) hd_T_findLive hR, hW _ k_391, hW _ ks_3⟩
abbrev y_T_refer : MethodName := ⟨"TabledOrigin$Table", "refer", "(LTabledOrigin$Answer;I)V"⟩
abbrev rm_T_refer : Room := { frames := 2, cells := 0, slots := 0, locals := 35 }
theorem hd_T_refer : y_T_refer.cls ≠ "java/lang/invoke/MethodHandle" ∧ y_T_refer.cls ≠ "java/lang/invoke/VarHandle" ∧ (parseMethodDescriptor y_T_refer.desc).map (fun d => d.parameters.length) = some 2 := by decide +kernel
theorem cw_T_refer {R : Room} {s : State} {args : Array Value} {own : String} {index : Nat} (hW : ∀ w ∈ zws, w.before args s = true) (hl : Cond.methodLink own index y_T_refer ∈ zws) (hR : rm_T_refer.frames + 1 ≤ R.frames ∧ 8 + (3 + 11) + rm_T_refer.locals ≤ R.locals) : CallW R s args own "TabledOrigin$Table" index y_T_refer prog_9_method_14_code 3 none (Cond.code y_T_refer prog_9_method_14_code 3 none :: zws) rm_T_refer 0 0 2 := ⟨callB_of 2 hW (zgood k_414) rfl rfl rfl (hW _ k_4) (hW _ hl) hd_T_refer hR, hW _ k_413, hW _ ks_4⟩
abbrev y_T_referencesTo : MethodName := ⟨"TabledOrigin$Table", "referencesTo", "(I)I"⟩
abbrev rm_T_referencesTo : Room := { frames := 1, cells := 0, slots := 0, locals := 22 }
theorem hd_T_referencesTo : y_T_referencesTo.cls ≠ "java/lang/invoke/MethodHandle" ∧ y_T_referencesTo.cls ≠ "java/lang/invoke/VarHandle" ∧ (parseMethodDescriptor y_T_referencesTo.desc).map (fun d => d.parameters.length) = some 1 := by decide +kernel
theorem cw_T_referencesTo {R : Room} {s : State} {args : Array Value} {own : String} {index : Nat} (hW : ∀ w ∈ zws, w.before args s = true) (hl : Cond.methodLink own index y_T_referencesTo ∈ zws) (hR : rm_T_referencesTo.frames + 1 ≤ R.frames ∧ 8 + (5 + 11) + rm_T_referencesTo.locals ≤ R.locals) : CallW R s args own "TabledOrigin$Table" index y_T_referencesTo prog_9_method_10_code 5 (some .int) (Cond.code y_T_referencesTo prog_9_method_10_code 5 (some .int) :: zws) rm_T_referencesTo 0 0 1 := ⟨callB_of 1 hW (zgood k_427) rfl rfl rfl (hW _ k_4) (hW _ hl) hd_T_referencesTo hR, hW _ k_425, hW _ k_426⟩
abbrev y_T_hasRoomFor : MethodName := ⟨"TabledOrigin$Table", "hasRoomFor", "(LTabledOrigin$Answer;)Z"⟩
abbrev rm_T_hasRoomFor : Room := { frames := 2, cells := 0, slots := 0, locals := 46 }
theorem hd_T_hasRoomFor : y_T_hasRoomFor.cls ≠ "java/lang/invoke/MethodHandle" ∧ y_T_hasRoomFor.cls ≠ "java/lang/invoke/VarHandle" ∧ (parseMethodDescriptor y_T_hasRoomFor.desc).map (fun d => d.parameters.length) = some 1 := by decide +kernel
theorem cw_T_hasRoomFor {R : Room} {s : State} {args : Array Value} {own : String} {index : Nat} (hW : ∀ w ∈ zws, w.before args s = true) (hl : Cond.methodLink own index y_T_hasRoomFor ∈ zws) (hR : rm_T_hasRoomFor.frames + 1 ≤ R.frames ∧ 8 + (3 + 11) + rm_T_hasRoomFor.locals ≤ R.locals) : CallW R s args own "TabledOrigin$Table" index y_T_hasRoomFor prog_9_method_12_code 3 (some .boolean) (Cond.code y_T_hasRoomFor prog_9_method_12_code 3 (some .boolean) :: zws) rm_T_hasRoomFor 0 0 1 := ⟨callB_of 1 hW (zgood k_423) rfl rfl rfl (hW _ k_4) (hW _ hl) hd_T_hasRoomFor hR, hW _ k_422, hW _ ks_5⟩
abbrev y_T_makeEntry : MethodName := ⟨"TabledOrigin$Table", "makeEntry", "(II)I"⟩
abbrev rm_T_makeEntry : Room := { frames := 1, cells := 0, slots := 0, locals := 22 }
theorem hd_T_makeEntry : y_T_makeEntry.cls ≠ "java/lang/invoke/MethodHandle" ∧ y_T_makeEntry.cls ≠ "java/lang/invoke/VarHandle" ∧ (parseMethodDescriptor y_T_makeEntry.desc).map (fun d => d.parameters.length) = some 2 := by decide +kernel
theorem cw_T_makeEntry {R : Room} {s : State} {args : Array Value} {own : String} {index : Nat} (hW : ∀ w ∈ zws, w.before args s = true) (hl : Cond.methodLink own index y_T_makeEntry ∈ zws) (hR : rm_T_makeEntry.frames + 1 ≤ R.frames ∧ 8 + (4 + 11) + rm_T_makeEntry.locals ≤ R.locals) : CallW R s args own "TabledOrigin$Table" index y_T_makeEntry prog_9_method_13_code 4 (some .int) (Cond.code y_T_makeEntry prog_9_method_13_code 4 (some .int) :: zws) rm_T_makeEntry 0 0 2 := ⟨callB_of 2 hW (zgood k_435) rfl rfl rfl (hW _ k_4) (hW _ hl) hd_T_makeEntry hR, hW _ k_434, hW _ ks_6⟩
abbrev y_T_putDown : MethodName := ⟨"TabledOrigin$Table", "putDown", "(LTabledOrigin$Answer;II)V"⟩
abbrev rm_T_putDown : Room := { frames := 3, cells := 0, slots := 0, locals := 68 }
theorem hd_T_putDown : y_T_putDown.cls ≠ "java/lang/invoke/MethodHandle" ∧ y_T_putDown.cls ≠ "java/lang/invoke/VarHandle" ∧ (parseMethodDescriptor y_T_putDown.desc).map (fun d => d.parameters.length) = some 3 := by decide +kernel
theorem cw_T_putDown {R : Room} {s : State} {args : Array Value} {own : String} {index : Nat} (hW : ∀ w ∈ zws, w.before args s = true) (hl : Cond.methodLink own index y_T_putDown ∈ zws) (hR : rm_T_putDown.frames + 1 ≤ R.frames ∧ 8 + (6 + 11) + rm_T_putDown.locals ≤ R.locals) : CallW R s args own "TabledOrigin$Table" index y_T_putDown prog_9_method_5_code 6 none (Cond.code y_T_putDown prog_9_method_5_code 6 none :: zws) rm_T_putDown 0 0 3 := ⟨callB_of 3 hW (zgood k_380) rfl rfl rfl (hW _ k_4) (hW _ hl) hd_T_putDown hR, hW _ k_378, hW _ k_379⟩
abbrev y_S_answerPut : MethodName := ⟨"TabledOrigin$Server", "answerPut", "(LTabledOrigin$Request;LTabledOrigin$Resource;)LTabledOrigin$Answer;"⟩
abbrev rm_S_answerPut : Room := { frames := 4, cells := 2, slots := 13, locals := 93 }
theorem hd_S_answerPut : y_S_answerPut.cls ≠ "java/lang/invoke/MethodHandle" ∧ y_S_answerPut.cls ≠ "java/lang/invoke/VarHandle" ∧ (parseMethodDescriptor y_S_answerPut.desc).map (fun d => d.parameters.length) = some 2 := by decide +kernel
theorem cw_S_answerPut {R : Room} {s : State} {args : Array Value} {own : String} {index : Nat} (hW : ∀ w ∈ zws, w.before args s = true) (hl : Cond.methodLink own index y_S_answerPut ∈ zws) (hR : rm_S_answerPut.frames + 1 ≤ R.frames ∧ 8 + (5 + 11) + rm_S_answerPut.locals ≤ R.locals) : CallW R s args own "TabledOrigin$Server" index y_S_answerPut prog_7_method_7_code 5 (some (.object "TabledOrigin$Answer")) (Cond.code y_S_answerPut prog_7_method_7_code 5 (some (.object "TabledOrigin$Answer")) :: zws) rm_S_answerPut 2 13 2 := ⟨callB_of 2 hW (zgood k_327) rfl rfl rfl (hW _ k_2) (hW _ hl) hd_S_answerPut hR, hW _ k_326, hW _ ks_2⟩
abbrev y_S_answerGet : MethodName := ⟨"TabledOrigin$Server", "answerGet", "(LTabledOrigin$Request;LTabledOrigin$Resource;)LTabledOrigin$Answer;"⟩
abbrev rm_S_answerGet : Room := { frames := 4, cells := 2, slots := 13, locals := 93 }
theorem hd_S_answerGet : y_S_answerGet.cls ≠ "java/lang/invoke/MethodHandle" ∧ y_S_answerGet.cls ≠ "java/lang/invoke/VarHandle" ∧ (parseMethodDescriptor y_S_answerGet.desc).map (fun d => d.parameters.length) = some 2 := by decide +kernel
theorem cw_S_answerGet {R : Room} {s : State} {args : Array Value} {own : String} {index : Nat} (hW : ∀ w ∈ zws, w.before args s = true) (hl : Cond.methodLink own index y_S_answerGet ∈ zws) (hR : rm_S_answerGet.frames + 1 ≤ R.frames ∧ 8 + (5 + 11) + rm_S_answerGet.locals ≤ R.locals) : CallW R s args own "TabledOrigin$Server" index y_S_answerGet prog_7_method_6_code 5 (some (.object "TabledOrigin$Answer")) (Cond.code y_S_answerGet prog_7_method_6_code 5 (some (.object "TabledOrigin$Answer")) :: zws) rm_S_answerGet 2 13 2 := ⟨callB_of 2 hW (zgood k_439) rfl rfl rfl (hW _ k_2) (hW _ hl) hd_S_answerGet hR, hW _ k_438, hW _ ks_7⟩
abbrev y_T_keepIfReferring : MethodName := ⟨"TabledOrigin$Table", "keepIfReferring", "(LTabledOrigin$Answer;)V"⟩
abbrev rm_T_keepIfReferring : Room := { frames := 0, cells := 0, slots := 0, locals := 0 }
theorem hd_T_keepIfReferring : y_T_keepIfReferring.cls ≠ "java/lang/invoke/MethodHandle" ∧ y_T_keepIfReferring.cls ≠ "java/lang/invoke/VarHandle" ∧ (parseMethodDescriptor y_T_keepIfReferring.desc).map (fun d => d.parameters.length) = some 1 := by decide +kernel
theorem cw_T_keepIfReferring {R : Room} {s : State} {args : Array Value} {own : String} {index : Nat} (hW : ∀ w ∈ zws, w.before args s = true) (hl : Cond.methodLink own index y_T_keepIfReferring ∈ zws) (hR : rm_T_keepIfReferring.frames + 1 ≤ R.frames ∧ 8 + (2 + 11) + rm_T_keepIfReferring.locals ≤ R.locals) : CallW R s args own "TabledOrigin$Table" index y_T_keepIfReferring prog_9_method_6_code 2 none (Cond.code y_T_keepIfReferring prog_9_method_6_code 2 none :: zws) rm_T_keepIfReferring 0 0 1 := ⟨callB_of 1 hW (zgood k_443) rfl rfl rfl (hW _ k_4) (hW _ hl) hd_T_keepIfReferring hR, hW _ k_441, hW _ k_442⟩
abbrev y_S_takeRequest : MethodName := ⟨"TabledOrigin$Server", "takeRequest", "(LTabledOrigin$Request;)I"⟩
abbrev rm_S_takeRequest : Room := { frames := 5, cells := 2, slots := 13, locals := 117 }
theorem hd_S_takeRequest : y_S_takeRequest.cls ≠ "java/lang/invoke/MethodHandle" ∧ y_S_takeRequest.cls ≠ "java/lang/invoke/VarHandle" ∧ (parseMethodDescriptor y_S_takeRequest.desc).map (fun d => d.parameters.length) = some 1 := by decide +kernel
theorem cw_S_takeRequest {R : Room} {s : State} {args : Array Value} {own : String} {index : Nat} (hW : ∀ w ∈ zws, w.before args s = true) (hl : Cond.methodLink own index y_S_takeRequest ∈ zws) (hR : rm_S_takeRequest.frames + 1 ≤ R.frames ∧ 8 + (4 + 11) + rm_S_takeRequest.locals ≤ R.locals) : CallW R s args own "TabledOrigin$Server" index y_S_takeRequest prog_7_method_4_code 4 (some .int) (Cond.code y_S_takeRequest prog_7_method_4_code 4 (some .int) :: zws) rm_S_takeRequest 2 13 1 := ⟨callB_of 1 hW (zgood k_319) rfl rfl rfl (hW _ k_2) (hW _ hl) hd_S_takeRequest hR, hW _ k_317, hW _ k_318⟩
abbrev y_S_announceLimit : MethodName := ⟨"TabledOrigin$Server", "announceLimit", "()V"⟩
abbrev rm_S_announceLimit : Room := { frames := 0, cells := 0, slots := 0, locals := 0 }
theorem hd_S_announceLimit : y_S_announceLimit.cls ≠ "java/lang/invoke/MethodHandle" ∧ y_S_announceLimit.cls ≠ "java/lang/invoke/VarHandle" ∧ (parseMethodDescriptor y_S_announceLimit.desc).map (fun d => d.parameters.length) = some 0 := by decide +kernel
theorem cw_S_announceLimit {R : Room} {s : State} {args : Array Value} {own : String} {index : Nat} (hW : ∀ w ∈ zws, w.before args s = true) (hl : Cond.methodLink own index y_S_announceLimit ∈ zws) (hR : rm_S_announceLimit.frames + 1 ≤ R.frames ∧ 8 + (1 + 11) + rm_S_announceLimit.locals ≤ R.locals) : CallW R s args own "TabledOrigin$Server" index y_S_announceLimit prog_7_method_5_code 1 none (Cond.code y_S_announceLimit prog_7_method_5_code 1 none :: zws) rm_S_announceLimit 0 0 0 := ⟨callB_of 0 hW (zgood k_526) rfl rfl rfl (hW _ k_2) (hW _ hl) hd_S_announceLimit hR, hW _ k_524, hW _ k_525⟩
abbrev y_K_freshFor : MethodName := ⟨"TabledOrigin$StoredAnswer", "freshFor", "(I)I"⟩
abbrev rm_K_freshFor : Room := { frames := 1, cells := 0, slots := 0, locals := 21 }
theorem hd_K_freshFor : y_K_freshFor.cls ≠ "java/lang/invoke/MethodHandle" ∧ y_K_freshFor.cls ≠ "java/lang/invoke/VarHandle" ∧ (parseMethodDescriptor y_K_freshFor.desc).map (fun d => d.parameters.length) = some 1 := by decide +kernel
theorem cw_K_freshFor {R : Room} {s : State} {args : Array Value} {own : String} {index : Nat} (hW : ∀ w ∈ zws, w.before args s = true) (hl : Cond.methodLink own index y_K_freshFor ∈ zws) (hR : rm_K_freshFor.frames + 1 ≤ R.frames ∧ 8 + (2 + 11) + rm_K_freshFor.locals ≤ R.locals) : CallW R s args own "TabledOrigin$StoredAnswer" index y_K_freshFor prog_8_method_3_code 2 (some .int) (Cond.code y_K_freshFor prog_8_method_3_code 2 (some .int) :: zws) rm_K_freshFor 0 0 1 := ⟨callB_of 1 hW (zgood k_559) rfl rfl rfl (hW _ k_6) (hW _ hl) hd_K_freshFor hR, hW _ k_557, hW _ k_558⟩
abbrev y_T_learn : MethodName := ⟨"TabledOrigin$Table", "learn", "(I)V"⟩
abbrev rm_T_learn : Room := { frames := 1, cells := 0, slots := 0, locals := 14 }
theorem hd_T_learn : y_T_learn.cls ≠ "java/lang/invoke/MethodHandle" ∧ y_T_learn.cls ≠ "java/lang/invoke/VarHandle" ∧ (parseMethodDescriptor y_T_learn.desc).map (fun d => d.parameters.length) = some 1 := by decide +kernel
theorem cw_T_learn {R : Room} {s : State} {args : Array Value} {own : String} {index : Nat} (hW : ∀ w ∈ zws, w.before args s = true) (hl : Cond.methodLink own index y_T_learn ∈ zws) (hR : rm_T_learn.frames + 1 ≤ R.frames ∧ 8 + (2 + 11) + rm_T_learn.locals ≤ R.locals) : CallW R s args own "TabledOrigin$Table" index y_T_learn prog_9_method_7_code 2 none (Cond.code y_T_learn prog_9_method_7_code 2 none :: zws) rm_T_learn 0 0 1 := ⟨callB_of 1 hW (zgood k_512) rfl rfl rfl (hW _ k_4) (hW _ hl) hd_T_learn hR, hW _ k_510, hW _ k_511⟩
abbrev y_X_init : MethodName := ⟨"TabledOrigin", "<init>", "()V"⟩
abbrev rm_X_init : Room := { frames := 3, cells := 22, slots := 636, locals := 53 }
theorem hd_X_init : y_X_init.cls ≠ "java/lang/invoke/MethodHandle" ∧ y_X_init.cls ≠ "java/lang/invoke/VarHandle" ∧ (parseMethodDescriptor y_X_init.desc).map (fun d => d.parameters.length) = some 0 := by decide +kernel
theorem cw_X_init {R : Room} {s : State} {args : Array Value} {own : String} {index : Nat} (hW : ∀ w ∈ zws, w.before args s = true) (hl : Cond.methodLink own index y_X_init ∈ zws) (hR : rm_X_init.frames + 1 ≤ R.frames ∧ 8 + (1 + 11) + rm_X_init.locals ≤ R.locals) : CallB R s args own index y_X_init prog_1_method_1_code 1 none (Cond.code y_X_init prog_1_method_1_code 1 none :: zws) rm_X_init 22 636 0 ∧ y_X_init.name = "<init>" ∧ (Cond.instanceMethod y_X_init).before args s = true := cwI 0 hW (zgood k_16) rfl rfl rfl (hW _ k_1) (hW _ hl) (hW _ k_15) rfl hd_X_init hR
abbrev y_X_isLifetime : MethodName := ⟨"TabledOrigin", "isLifetime", "(I)Z"⟩
abbrev rm_X_isLifetime : Room := { frames := 0, cells := 0, slots := 0, locals := 0 }
theorem hd_X_isLifetime : y_X_isLifetime.cls ≠ "java/lang/invoke/MethodHandle" ∧ y_X_isLifetime.cls ≠ "java/lang/invoke/VarHandle" ∧ (parseMethodDescriptor y_X_isLifetime.desc).map (fun d => d.parameters.length) = some 1 := by decide +kernel
theorem cw_X_isLifetime {R : Room} {s : State} {args : Array Value} {own : String} {index : Nat} (hW : ∀ w ∈ zws, w.before args s = true) (hl : Cond.methodLink own index y_X_isLifetime ∈ zws) (hR : rm_X_isLifetime.frames + 1 ≤ R.frames ∧ 8 + (1 + 11) + rm_X_isLifetime.locals ≤ R.locals) : CallB R s args own index y_X_isLifetime prog_1_method_20_code 1 (some .boolean) (Cond.code y_X_isLifetime prog_1_method_20_code 1 (some .boolean) :: zws) rm_X_isLifetime 0 0 1 ∧ (Cond.static y_X_isLifetime).before args s = true := ⟨callB_of 1 hW (zgood k_214) rfl rfl rfl (hW _ k_1) (hW _ hl) hd_X_isLifetime hR, hW _ k_213⟩
abbrev y_X_put : MethodName := ⟨"TabledOrigin", "put", "(III)I"⟩
abbrev rm_X_put : Room := { frames := 1, cells := 0, slots := 0, locals := 23 }
theorem hd_X_put : y_X_put.cls ≠ "java/lang/invoke/MethodHandle" ∧ y_X_put.cls ≠ "java/lang/invoke/VarHandle" ∧ (parseMethodDescriptor y_X_put.desc).map (fun d => d.parameters.length) = some 3 := by decide +kernel
theorem cw_X_put {R : Room} {s : State} {args : Array Value} {own : String} {index : Nat} (hW : ∀ w ∈ zws, w.before args s = true) (hl : Cond.methodLink own index y_X_put ∈ zws) (hR : rm_X_put.frames + 1 ≤ R.frames ∧ 8 + (5 + 11) + rm_X_put.locals ≤ R.locals) : CallW R s args own "TabledOrigin" index y_X_put prog_1_method_2_code 5 (some .int) (Cond.code y_X_put prog_1_method_2_code 5 (some .int) :: zws) rm_X_put 0 0 3 := ⟨callB_of 3 hW (zgood k_207) rfl rfl rfl (hW _ k_1) (hW _ hl) hd_X_put hR, hW _ k_205, hW _ k_206⟩
abbrev y_X_drop : MethodName := ⟨"TabledOrigin", "drop", "(I)Z"⟩
abbrev rm_X_drop : Room := { frames := 1, cells := 0, slots := 0, locals := 21 }
theorem hd_X_drop : y_X_drop.cls ≠ "java/lang/invoke/MethodHandle" ∧ y_X_drop.cls ≠ "java/lang/invoke/VarHandle" ∧ (parseMethodDescriptor y_X_drop.desc).map (fun d => d.parameters.length) = some 1 := by decide +kernel
theorem cw_X_drop {R : Room} {s : State} {args : Array Value} {own : String} {index : Nat} (hW : ∀ w ∈ zws, w.before args s = true) (hl : Cond.methodLink own index y_X_drop ∈ zws) (hR : rm_X_drop.frames + 1 ≤ R.frames ∧ 8 + (3 + 11) + rm_X_drop.locals ≤ R.locals) : CallW R s args own "TabledOrigin" index y_X_drop prog_1_method_3_code 3 (some .boolean) (Cond.code y_X_drop prog_1_method_3_code 3 (some .boolean) :: zws) rm_X_drop 0 0 1 := ⟨callB_of 1 hW (zgood k_222) rfl rfl rfl (hW _ k_1) (hW _ hl) hd_X_drop hR, hW _ k_220, hW _ k_221⟩
abbrev y_X_makeRequest : MethodName := ⟨"TabledOrigin", "makeRequest", "(IZII)I"⟩
abbrev rm_X_makeRequest : Room := { frames := 2, cells := 1, slots := 12, locals := 45 }
theorem hd_X_makeRequest : y_X_makeRequest.cls ≠ "java/lang/invoke/MethodHandle" ∧ y_X_makeRequest.cls ≠ "java/lang/invoke/VarHandle" ∧ (parseMethodDescriptor y_X_makeRequest.desc).map (fun d => d.parameters.length) = some 4 := by decide +kernel
theorem cw_X_makeRequest {R : Room} {s : State} {args : Array Value} {own : String} {index : Nat} (hW : ∀ w ∈ zws, w.before args s = true) (hl : Cond.methodLink own index y_X_makeRequest ∈ zws) (hR : rm_X_makeRequest.frames + 1 ≤ R.frames ∧ 8 + (7 + 11) + rm_X_makeRequest.locals ≤ R.locals) : CallW R s args own "TabledOrigin" index y_X_makeRequest prog_1_method_22_code 7 (some .int) (Cond.code y_X_makeRequest prog_1_method_22_code 7 (some .int) :: zws) rm_X_makeRequest 1 12 4 := ⟨callB_of 4 hW (zgood k_230) rfl rfl rfl (hW _ k_1) (hW _ hl) hd_X_makeRequest hR, hW _ k_229, hW _ ks_0⟩
abbrev y_X_get : MethodName := ⟨"TabledOrigin", "get", "(I)I"⟩
abbrev rm_X_get : Room := { frames := 3, cells := 1, slots := 12, locals := 71 }
theorem hd_X_get : y_X_get.cls ≠ "java/lang/invoke/MethodHandle" ∧ y_X_get.cls ≠ "java/lang/invoke/VarHandle" ∧ (parseMethodDescriptor y_X_get.desc).map (fun d => d.parameters.length) = some 1 := by decide +kernel
theorem cw_X_get {R : Room} {s : State} {args : Array Value} {own : String} {index : Nat} (hW : ∀ w ∈ zws, w.before args s = true) (hl : Cond.methodLink own index y_X_get ∈ zws) (hR : rm_X_get.frames + 1 ≤ R.frames ∧ 8 + (2 + 11) + rm_X_get.locals ≤ R.locals) : CallW R s args own "TabledOrigin" index y_X_get prog_1_method_4_code 2 (some .int) (Cond.code y_X_get prog_1_method_4_code 2 (some .int) :: zws) rm_X_get 1 12 1 := ⟨callB_of 1 hW (zgood k_226) rfl rfl rfl (hW _ k_1) (hW _ hl) hd_X_get hR, hW _ k_224, hW _ k_225⟩
abbrev y_X_replace : MethodName := ⟨"TabledOrigin", "replace", "(III)I"⟩
abbrev rm_X_replace : Room := { frames := 3, cells := 1, slots := 12, locals := 71 }
theorem hd_X_replace : y_X_replace.cls ≠ "java/lang/invoke/MethodHandle" ∧ y_X_replace.cls ≠ "java/lang/invoke/VarHandle" ∧ (parseMethodDescriptor y_X_replace.desc).map (fun d => d.parameters.length) = some 3 := by decide +kernel
theorem cw_X_replace {R : Room} {s : State} {args : Array Value} {own : String} {index : Nat} (hW : ∀ w ∈ zws, w.before args s = true) (hl : Cond.methodLink own index y_X_replace ∈ zws) (hR : rm_X_replace.frames + 1 ≤ R.frames ∧ 8 + (4 + 11) + rm_X_replace.locals ≤ R.locals) : CallW R s args own "TabledOrigin" index y_X_replace prog_1_method_5_code 4 (some .int) (Cond.code y_X_replace prog_1_method_5_code 4 (some .int) :: zws) rm_X_replace 1 12 3 := ⟨callB_of 3 hW (zgood k_307) rfl rfl rfl (hW _ k_1) (hW _ hl) hd_X_replace hR, hW _ k_305, hW _ k_306⟩
abbrev y_X_requestAt : MethodName := ⟨"TabledOrigin", "requestAt", "(I)LTabledOrigin$Request;"⟩
abbrev rm_X_requestAt : Room := { frames := 0, cells := 0, slots := 0, locals := 0 }
theorem hd_X_requestAt : y_X_requestAt.cls ≠ "java/lang/invoke/MethodHandle" ∧ y_X_requestAt.cls ≠ "java/lang/invoke/VarHandle" ∧ (parseMethodDescriptor y_X_requestAt.desc).map (fun d => d.parameters.length) = some 1 := by decide +kernel
theorem cw_X_requestAt {R : Room} {s : State} {args : Array Value} {own : String} {index : Nat} (hW : ∀ w ∈ zws, w.before args s = true) (hl : Cond.methodLink own index y_X_requestAt ∈ zws) (hR : rm_X_requestAt.frames + 1 ≤ R.frames ∧ 8 + (2 + 11) + rm_X_requestAt.locals ≤ R.locals) : CallW R s args own "TabledOrigin" index y_X_requestAt prog_1_method_21_code 2 (some (.object "TabledOrigin$Request")) (Cond.code y_X_requestAt prog_1_method_21_code 2 (some (.object "TabledOrigin$Request")) :: zws) rm_X_requestAt 0 0 1 := ⟨callB_of 1 hW (zgood k_315) rfl rfl rfl (hW _ k_1) (hW _ hl) hd_X_requestAt hR, hW _ k_314, hW _ ks_1⟩
abbrev y_X_arrive : MethodName := ⟨"TabledOrigin", "arrive", "(I)I"⟩
abbrev rm_X_arrive : Room := { frames := 6, cells := 2, slots := 13, locals := 140 }
theorem hd_X_arrive : y_X_arrive.cls ≠ "java/lang/invoke/MethodHandle" ∧ y_X_arrive.cls ≠ "java/lang/invoke/VarHandle" ∧ (parseMethodDescriptor y_X_arrive.desc).map (fun d => d.parameters.length) = some 1 := by decide +kernel
theorem cw_X_arrive {R : Room} {s : State} {args : Array Value} {own : String} {index : Nat} (hW : ∀ w ∈ zws, w.before args s = true) (hl : Cond.methodLink own index y_X_arrive ∈ zws) (hR : rm_X_arrive.frames + 1 ≤ R.frames ∧ 8 + (3 + 11) + rm_X_arrive.locals ≤ R.locals) : CallW R s args own "TabledOrigin" index y_X_arrive prog_1_method_6_code 3 (some .int) (Cond.code y_X_arrive prog_1_method_6_code 3 (some .int) :: zws) rm_X_arrive 2 13 1 := ⟨callB_of 1 hW (zgood k_311) rfl rfl rfl (hW _ k_1) (hW _ hl) hd_X_arrive hR, hW _ k_309, hW _ k_310⟩
abbrev y_X_reply : MethodName := ⟨"TabledOrigin", "reply", "(I)I"⟩
abbrev rm_X_reply : Room := { frames := 3, cells := 0, slots := 0, locals := 69 }
theorem hd_X_reply : y_X_reply.cls ≠ "java/lang/invoke/MethodHandle" ∧ y_X_reply.cls ≠ "java/lang/invoke/VarHandle" ∧ (parseMethodDescriptor y_X_reply.desc).map (fun d => d.parameters.length) = some 1 := by decide +kernel
theorem cw_X_reply {R : Room} {s : State} {args : Array Value} {own : String} {index : Nat} (hW : ∀ w ∈ zws, w.before args s = true) (hl : Cond.methodLink own index y_X_reply ∈ zws) (hR : rm_X_reply.frames + 1 ≤ R.frames ∧ 8 + (3 + 11) + rm_X_reply.locals ≤ R.locals) : CallW R s args own "TabledOrigin" index y_X_reply prog_1_method_7_code 3 (some .int) (Cond.code y_X_reply prog_1_method_7_code 3 (some .int) :: zws) rm_X_reply 0 0 1 := ⟨callB_of 1 hW (zgood k_447) rfl rfl rfl (hW _ k_1) (hW _ hl) hd_X_reply hR, hW _ k_445, hW _ k_446⟩
abbrev y_X_isBlocked : MethodName := ⟨"TabledOrigin", "isBlocked", "(LTabledOrigin$Request;)Z"⟩
abbrev rm_X_isBlocked : Room := { frames := 0, cells := 0, slots := 0, locals := 0 }
theorem hd_X_isBlocked : y_X_isBlocked.cls ≠ "java/lang/invoke/MethodHandle" ∧ y_X_isBlocked.cls ≠ "java/lang/invoke/VarHandle" ∧ (parseMethodDescriptor y_X_isBlocked.desc).map (fun d => d.parameters.length) = some 1 := by decide +kernel
theorem cw_X_isBlocked {R : Room} {s : State} {args : Array Value} {own : String} {index : Nat} (hW : ∀ w ∈ zws, w.before args s = true) (hl : Cond.methodLink own index y_X_isBlocked ∈ zws) (hR : rm_X_isBlocked.frames + 1 ≤ R.frames ∧ 8 + (1 + 11) + rm_X_isBlocked.locals ≤ R.locals) : CallB R s args own index y_X_isBlocked prog_1_method_24_code 1 (some .boolean) (Cond.code y_X_isBlocked prog_1_method_24_code 1 (some .boolean) :: zws) rm_X_isBlocked 0 0 1 ∧ (Cond.static y_X_isBlocked).before args s = true := ⟨callB_of 1 hW (zgood k_488) rfl rfl rfl (hW _ k_1) (hW _ hl) hd_X_isBlocked hR, hW _ k_487⟩
abbrev y_X_readUnblocked : MethodName := ⟨"TabledOrigin", "readUnblocked", "()I"⟩
abbrev rm_X_readUnblocked : Room := { frames := 3, cells := 0, slots := 0, locals := 69 }
theorem hd_X_readUnblocked : y_X_readUnblocked.cls ≠ "java/lang/invoke/MethodHandle" ∧ y_X_readUnblocked.cls ≠ "java/lang/invoke/VarHandle" ∧ (parseMethodDescriptor y_X_readUnblocked.desc).map (fun d => d.parameters.length) = some 0 := by decide +kernel
theorem cw_X_readUnblocked {R : Room} {s : State} {args : Array Value} {own : String} {index : Nat} (hW : ∀ w ∈ zws, w.before args s = true) (hl : Cond.methodLink own index y_X_readUnblocked ∈ zws) (hR : rm_X_readUnblocked.frames + 1 ≤ R.frames ∧ 8 + (4 + 11) + rm_X_readUnblocked.locals ≤ R.locals) : CallW R s args own "TabledOrigin" index y_X_readUnblocked prog_1_method_23_code 4 (some .int) (Cond.code y_X_readUnblocked prog_1_method_23_code 4 (some .int) :: zws) rm_X_readUnblocked 0 0 0 := ⟨callB_of 0 hW (zgood k_485) rfl rfl rfl (hW _ k_1) (hW _ hl) hd_X_readUnblocked hR, hW _ k_484, hW _ ks_11⟩
abbrev y_X_insert : MethodName := ⟨"TabledOrigin", "insert", "()I"⟩
abbrev rm_X_insert : Room := { frames := 4, cells := 0, slots := 0, locals := 92 }
theorem hd_X_insert : y_X_insert.cls ≠ "java/lang/invoke/MethodHandle" ∧ y_X_insert.cls ≠ "java/lang/invoke/VarHandle" ∧ (parseMethodDescriptor y_X_insert.desc).map (fun d => d.parameters.length) = some 0 := by decide +kernel
theorem cw_X_insert {R : Room} {s : State} {args : Array Value} {own : String} {index : Nat} (hW : ∀ w ∈ zws, w.before args s = true) (hl : Cond.methodLink own index y_X_insert ∈ zws) (hR : rm_X_insert.frames + 1 ≤ R.frames ∧ 8 + (1 + 11) + rm_X_insert.locals ≤ R.locals) : CallW R s args own "TabledOrigin" index y_X_insert prog_1_method_8_code 1 (some .int) (Cond.code y_X_insert prog_1_method_8_code 1 (some .int) :: zws) rm_X_insert 0 0 0 := ⟨callB_of 0 hW (zgood k_481) rfl rfl rfl (hW _ k_1) (hW _ hl) hd_X_insert hR, hW _ k_479, hW _ k_480⟩
abbrev y_X_endOutstanding : MethodName := ⟨"TabledOrigin", "endOutstanding", "(IZ)V"⟩
abbrev rm_X_endOutstanding : Room := { frames := 2, cells := 0, slots := 0, locals := 35 }
theorem hd_X_endOutstanding : y_X_endOutstanding.cls ≠ "java/lang/invoke/MethodHandle" ∧ y_X_endOutstanding.cls ≠ "java/lang/invoke/VarHandle" ∧ (parseMethodDescriptor y_X_endOutstanding.desc).map (fun d => d.parameters.length) = some 2 := by decide +kernel
theorem cw_X_endOutstanding {R : Room} {s : State} {args : Array Value} {own : String} {index : Nat} (hW : ∀ w ∈ zws, w.before args s = true) (hl : Cond.methodLink own index y_X_endOutstanding ∈ zws) (hR : rm_X_endOutstanding.frames + 1 ≤ R.frames ∧ 8 + (4 + 11) + rm_X_endOutstanding.locals ≤ R.locals) : CallW R s args own "TabledOrigin" index y_X_endOutstanding prog_1_method_26_code 4 none (Cond.code y_X_endOutstanding prog_1_method_26_code 4 none :: zws) rm_X_endOutstanding 0 0 2 := ⟨callB_of 2 hW (zgood k_508) rfl rfl rfl (hW _ k_1) (hW _ hl) hd_X_endOutstanding hR, hW _ k_507, hW _ ks_12⟩
abbrev y_X_feedback : MethodName := ⟨"TabledOrigin", "feedback", "()I"⟩
abbrev rm_X_feedback : Room := { frames := 3, cells := 0, slots := 0, locals := 58 }
theorem hd_X_feedback : y_X_feedback.cls ≠ "java/lang/invoke/MethodHandle" ∧ y_X_feedback.cls ≠ "java/lang/invoke/VarHandle" ∧ (parseMethodDescriptor y_X_feedback.desc).map (fun d => d.parameters.length) = some 0 := by decide +kernel
theorem cw_X_feedback {R : Room} {s : State} {args : Array Value} {own : String} {index : Nat} (hW : ∀ w ∈ zws, w.before args s = true) (hl : Cond.methodLink own index y_X_feedback ∈ zws) (hR : rm_X_feedback.frames + 1 ≤ R.frames ∧ 8 + (3 + 11) + rm_X_feedback.locals ≤ R.locals) : CallW R s args own "TabledOrigin" index y_X_feedback prog_1_method_9_code 3 (some .int) (Cond.code y_X_feedback prog_1_method_9_code 3 (some .int) :: zws) rm_X_feedback 0 0 0 := ⟨callB_of 0 hW (zgood k_492) rfl rfl rfl (hW _ k_1) (hW _ hl) hd_X_feedback hR, hW _ k_490, hW _ k_491⟩
abbrev y_X_report : MethodName := ⟨"TabledOrigin", "report", "()Z"⟩
abbrev rm_X_report : Room := { frames := 1, cells := 0, slots := 0, locals := 22 }
theorem hd_X_report : y_X_report.cls ≠ "java/lang/invoke/MethodHandle" ∧ y_X_report.cls ≠ "java/lang/invoke/VarHandle" ∧ (parseMethodDescriptor y_X_report.desc).map (fun d => d.parameters.length) = some 0 := by decide +kernel
theorem cw_X_report {R : Room} {s : State} {args : Array Value} {own : String} {index : Nat} (hW : ∀ w ∈ zws, w.before args s = true) (hl : Cond.methodLink own index y_X_report ∈ zws) (hR : rm_X_report.frames + 1 ≤ R.frames ∧ 8 + (2 + 11) + rm_X_report.locals ≤ R.locals) : CallW R s args own "TabledOrigin" index y_X_report prog_1_method_10_code 2 (some .boolean) (Cond.code y_X_report prog_1_method_10_code 2 (some .boolean) :: zws) rm_X_report 0 0 0 := ⟨callB_of 0 hW (zgood k_517) rfl rfl rfl (hW _ k_1) (hW _ hl) hd_X_report hR, hW _ k_515, hW _ k_516⟩
abbrev y_X_goaway : MethodName := ⟨"TabledOrigin", "goaway", "()I"⟩
abbrev rm_X_goaway : Room := { frames := 1, cells := 0, slots := 0, locals := 20 }
theorem hd_X_goaway : y_X_goaway.cls ≠ "java/lang/invoke/MethodHandle" ∧ y_X_goaway.cls ≠ "java/lang/invoke/VarHandle" ∧ (parseMethodDescriptor y_X_goaway.desc).map (fun d => d.parameters.length) = some 0 := by decide +kernel
theorem cw_X_goaway {R : Room} {s : State} {args : Array Value} {own : String} {index : Nat} (hW : ∀ w ∈ zws, w.before args s = true) (hl : Cond.methodLink own index y_X_goaway ∈ zws) (hR : rm_X_goaway.frames + 1 ≤ R.frames ∧ 8 + (1 + 11) + rm_X_goaway.locals ≤ R.locals) : CallW R s args own "TabledOrigin" index y_X_goaway prog_1_method_11_code 1 (some .int) (Cond.code y_X_goaway prog_1_method_11_code 1 (some .int) :: zws) rm_X_goaway 0 0 0 := ⟨callB_of 0 hW (zgood k_522) rfl rfl rfl (hW _ k_1) (hW _ hl) hd_X_goaway hR, hW _ k_520, hW _ k_521⟩
abbrev y_X_refuseFrom : MethodName := ⟨"TabledOrigin", "refuseFrom", "(I)I"⟩
abbrev rm_X_refuseFrom : Room := { frames := 1, cells := 0, slots := 0, locals := 22 }
theorem hd_X_refuseFrom : y_X_refuseFrom.cls ≠ "java/lang/invoke/MethodHandle" ∧ y_X_refuseFrom.cls ≠ "java/lang/invoke/VarHandle" ∧ (parseMethodDescriptor y_X_refuseFrom.desc).map (fun d => d.parameters.length) = some 1 := by decide +kernel
theorem cw_X_refuseFrom {R : Room} {s : State} {args : Array Value} {own : String} {index : Nat} (hW : ∀ w ∈ zws, w.before args s = true) (hl : Cond.methodLink own index y_X_refuseFrom ∈ zws) (hR : rm_X_refuseFrom.frames + 1 ≤ R.frames ∧ 8 + (5 + 11) + rm_X_refuseFrom.locals ≤ R.locals) : CallW R s args own "TabledOrigin" index y_X_refuseFrom prog_1_method_27_code 5 (some .int) (Cond.code y_X_refuseFrom prog_1_method_27_code 5 (some .int) :: zws) rm_X_refuseFrom 0 0 1 := ⟨callB_of 1 hW (zgood k_534) rfl rfl rfl (hW _ k_1) (hW _ hl) hd_X_refuseFrom hR, hW _ k_533, hW _ ks_13⟩
abbrev y_X_notice : MethodName := ⟨"TabledOrigin", "notice", "()I"⟩
abbrev rm_X_notice : Room := { frames := 2, cells := 0, slots := 0, locals := 46 }
theorem hd_X_notice : y_X_notice.cls ≠ "java/lang/invoke/MethodHandle" ∧ y_X_notice.cls ≠ "java/lang/invoke/VarHandle" ∧ (parseMethodDescriptor y_X_notice.desc).map (fun d => d.parameters.length) = some 0 := by decide +kernel
theorem cw_X_notice {R : Room} {s : State} {args : Array Value} {own : String} {index : Nat} (hW : ∀ w ∈ zws, w.before args s = true) (hl : Cond.methodLink own index y_X_notice ∈ zws) (hR : rm_X_notice.frames + 1 ≤ R.frames ∧ 8 + (1 + 11) + rm_X_notice.locals ≤ R.locals) : CallW R s args own "TabledOrigin" index y_X_notice prog_1_method_12_code 1 (some .int) (Cond.code y_X_notice prog_1_method_12_code 1 (some .int) :: zws) rm_X_notice 0 0 0 := ⟨callB_of 0 hW (zgood k_530) rfl rfl rfl (hW _ k_1) (hW _ hl) hd_X_notice hR, hW _ k_528, hW _ k_529⟩
abbrev y_X_cancel : MethodName := ⟨"TabledOrigin", "cancel", "(I)Z"⟩
abbrev rm_X_cancel : Room := { frames := 1, cells := 0, slots := 0, locals := 22 }
theorem hd_X_cancel : y_X_cancel.cls ≠ "java/lang/invoke/MethodHandle" ∧ y_X_cancel.cls ≠ "java/lang/invoke/VarHandle" ∧ (parseMethodDescriptor y_X_cancel.desc).map (fun d => d.parameters.length) = some 1 := by decide +kernel
theorem cw_X_cancel {R : Room} {s : State} {args : Array Value} {own : String} {index : Nat} (hW : ∀ w ∈ zws, w.before args s = true) (hl : Cond.methodLink own index y_X_cancel ∈ zws) (hR : rm_X_cancel.frames + 1 ≤ R.frames ∧ 8 + (3 + 11) + rm_X_cancel.locals ≤ R.locals) : CallW R s args own "TabledOrigin" index y_X_cancel prog_1_method_13_code 3 (some .boolean) (Cond.code y_X_cancel prog_1_method_13_code 3 (some .boolean) :: zws) rm_X_cancel 0 0 1 := ⟨callB_of 1 hW (zgood k_539) rfl rfl rfl (hW _ k_1) (hW _ hl) hd_X_cancel hR, hW _ k_537, hW _ k_538⟩
abbrev y_X_tick : MethodName := ⟨"TabledOrigin", "tick", "(I)Z"⟩
abbrev rm_X_tick : Room := { frames := 0, cells := 0, slots := 0, locals := 0 }
theorem hd_X_tick : y_X_tick.cls ≠ "java/lang/invoke/MethodHandle" ∧ y_X_tick.cls ≠ "java/lang/invoke/VarHandle" ∧ (parseMethodDescriptor y_X_tick.desc).map (fun d => d.parameters.length) = some 1 := by decide +kernel
theorem cw_X_tick {R : Room} {s : State} {args : Array Value} {own : String} {index : Nat} (hW : ∀ w ∈ zws, w.before args s = true) (hl : Cond.methodLink own index y_X_tick ∈ zws) (hR : rm_X_tick.frames + 1 ≤ R.frames ∧ 8 + (2 + 11) + rm_X_tick.locals ≤ R.locals) : CallW R s args own "TabledOrigin" index y_X_tick prog_1_method_14_code 2 (some .boolean) (Cond.code y_X_tick prog_1_method_14_code 2 (some .boolean) :: zws) rm_X_tick 0 0 1 := ⟨callB_of 1 hW (zgood k_543) rfl rfl rfl (hW _ k_1) (hW _ hl) hd_X_tick hR, hW _ k_541, hW _ k_542⟩
abbrev y_X_outcome : MethodName := ⟨"TabledOrigin", "outcome", "(I)I"⟩
abbrev rm_X_outcome : Room := { frames := 1, cells := 0, slots := 0, locals := 21 }
theorem hd_X_outcome : y_X_outcome.cls ≠ "java/lang/invoke/MethodHandle" ∧ y_X_outcome.cls ≠ "java/lang/invoke/VarHandle" ∧ (parseMethodDescriptor y_X_outcome.desc).map (fun d => d.parameters.length) = some 1 := by decide +kernel
theorem cw_X_outcome {R : Room} {s : State} {args : Array Value} {own : String} {index : Nat} (hW : ∀ w ∈ zws, w.before args s = true) (hl : Cond.methodLink own index y_X_outcome ∈ zws) (hR : rm_X_outcome.frames + 1 ≤ R.frames ∧ 8 + (3 + 11) + rm_X_outcome.locals ≤ R.locals) : CallW R s args own "TabledOrigin" index y_X_outcome prog_1_method_15_code 3 (some .int) (Cond.code y_X_outcome prog_1_method_15_code 3 (some .int) :: zws) rm_X_outcome 0 0 1 := ⟨callB_of 1 hW (zgood k_547) rfl rfl rfl (hW _ k_1) (hW _ hl) hd_X_outcome hR, hW _ k_545, hW _ k_546⟩
abbrev y_X_content : MethodName := ⟨"TabledOrigin", "content", "(I)I"⟩
abbrev rm_X_content : Room := { frames := 1, cells := 0, slots := 0, locals := 21 }
theorem hd_X_content : y_X_content.cls ≠ "java/lang/invoke/MethodHandle" ∧ y_X_content.cls ≠ "java/lang/invoke/VarHandle" ∧ (parseMethodDescriptor y_X_content.desc).map (fun d => d.parameters.length) = some 1 := by decide +kernel
theorem cw_X_content {R : Room} {s : State} {args : Array Value} {own : String} {index : Nat} (hW : ∀ w ∈ zws, w.before args s = true) (hl : Cond.methodLink own index y_X_content ∈ zws) (hR : rm_X_content.frames + 1 ≤ R.frames ∧ 8 + (3 + 11) + rm_X_content.locals ≤ R.locals) : CallW R s args own "TabledOrigin" index y_X_content prog_1_method_16_code 3 (some .int) (Cond.code y_X_content prog_1_method_16_code 3 (some .int) :: zws) rm_X_content 0 0 1 := ⟨callB_of 1 hW (zgood k_551) rfl rfl rfl (hW _ k_1) (hW _ hl) hd_X_content hR, hW _ k_549, hW _ k_550⟩
abbrev y_X_stored : MethodName := ⟨"TabledOrigin", "stored", "(II)I"⟩
abbrev rm_X_stored : Room := { frames := 2, cells := 0, slots := 0, locals := 42 }
theorem hd_X_stored : y_X_stored.cls ≠ "java/lang/invoke/MethodHandle" ∧ y_X_stored.cls ≠ "java/lang/invoke/VarHandle" ∧ (parseMethodDescriptor y_X_stored.desc).map (fun d => d.parameters.length) = some 2 := by decide +kernel
theorem cw_X_stored {R : Room} {s : State} {args : Array Value} {own : String} {index : Nat} (hW : ∀ w ∈ zws, w.before args s = true) (hl : Cond.methodLink own index y_X_stored ∈ zws) (hR : rm_X_stored.frames + 1 ≤ R.frames ∧ 8 + (4 + 11) + rm_X_stored.locals ≤ R.locals) : CallW R s args own "TabledOrigin" index y_X_stored prog_1_method_17_code 4 (some .int) (Cond.code y_X_stored prog_1_method_17_code 4 (some .int) :: zws) rm_X_stored 0 0 2 := ⟨callB_of 2 hW (zgood k_555) rfl rfl rfl (hW _ k_1) (hW _ hl) hd_X_stored hR, hW _ k_553, hW _ k_554⟩
abbrev y_X_entry : MethodName := ⟨"TabledOrigin", "entry", "(II)I"⟩
abbrev rm_X_entry : Room := { frames := 2, cells := 0, slots := 0, locals := 46 }
theorem hd_X_entry : y_X_entry.cls ≠ "java/lang/invoke/MethodHandle" ∧ y_X_entry.cls ≠ "java/lang/invoke/VarHandle" ∧ (parseMethodDescriptor y_X_entry.desc).map (fun d => d.parameters.length) = some 2 := by decide +kernel
theorem cw_X_entry {R : Room} {s : State} {args : Array Value} {own : String} {index : Nat} (hW : ∀ w ∈ zws, w.before args s = true) (hl : Cond.methodLink own index y_X_entry ∈ zws) (hR : rm_X_entry.frames + 1 ≤ R.frames ∧ 8 + (5 + 11) + rm_X_entry.locals ≤ R.locals) : CallW R s args own "TabledOrigin" index y_X_entry prog_1_method_18_code 5 (some .int) (Cond.code y_X_entry prog_1_method_18_code 5 (some .int) :: zws) rm_X_entry 0 0 2 := ⟨callB_of 2 hW (zgood k_564) rfl rfl rfl (hW _ k_1) (hW _ hl) hd_X_entry hR, hW _ k_562, hW _ k_563⟩
abbrev y_X_blockedAnswers : MethodName := ⟨"TabledOrigin", "blockedAnswers", "()I"⟩
abbrev rm_X_blockedAnswers : Room := { frames := 1, cells := 0, slots := 0, locals := 21 }
theorem hd_X_blockedAnswers : y_X_blockedAnswers.cls ≠ "java/lang/invoke/MethodHandle" ∧ y_X_blockedAnswers.cls ≠ "java/lang/invoke/VarHandle" ∧ (parseMethodDescriptor y_X_blockedAnswers.desc).map (fun d => d.parameters.length) = some 0 := by decide +kernel
theorem cw_X_blockedAnswers {R : Room} {s : State} {args : Array Value} {own : String} {index : Nat} (hW : ∀ w ∈ zws, w.before args s = true) (hl : Cond.methodLink own index y_X_blockedAnswers ∈ zws) (hR : rm_X_blockedAnswers.frames + 1 ≤ R.frames ∧ 8 + (3 + 11) + rm_X_blockedAnswers.locals ≤ R.locals) : CallW R s args own "TabledOrigin" index y_X_blockedAnswers prog_1_method_25_code 3 (some .int) (Cond.code y_X_blockedAnswers prog_1_method_25_code 3 (some .int) :: zws) rm_X_blockedAnswers 0 0 0 := ⟨callB_of 0 hW (zgood k_578) rfl rfl rfl (hW _ k_1) (hW _ hl) hd_X_blockedAnswers hR, hW _ k_577, hW _ ks_14⟩
abbrev y_X_count : MethodName := ⟨"TabledOrigin", "count", "(I)I"⟩
abbrev rm_X_count : Room := { frames := 2, cells := 0, slots := 0, locals := 44 }
theorem hd_X_count : y_X_count.cls ≠ "java/lang/invoke/MethodHandle" ∧ y_X_count.cls ≠ "java/lang/invoke/VarHandle" ∧ (parseMethodDescriptor y_X_count.desc).map (fun d => d.parameters.length) = some 1 := by decide +kernel
theorem cw_X_count {R : Room} {s : State} {args : Array Value} {own : String} {index : Nat} (hW : ∀ w ∈ zws, w.before args s = true) (hl : Cond.methodLink own index y_X_count ∈ zws) (hR : rm_X_count.frames + 1 ≤ R.frames ∧ 8 + (3 + 11) + rm_X_count.locals ≤ R.locals) : CallW R s args own "TabledOrigin" index y_X_count prog_1_method_19_code 3 (some .int) (Cond.code y_X_count prog_1_method_19_code 3 (some .int) :: zws) rm_X_count 0 0 1 := ⟨callB_of 1 hW (zgood k_572) rfl rfl rfl (hW _ k_1) (hW _ hl) hd_X_count hR, hW _ k_570, hW _ k_571⟩
abbrev y_Y_init : MethodName := ⟨"TabledOriginModel", "<init>", "()V"⟩
abbrev rm_Y_init : Room := { frames := 1, cells := 27, slots := 2518, locals := 12 }
theorem hd_Y_init : y_Y_init.cls ≠ "java/lang/invoke/MethodHandle" ∧ y_Y_init.cls ≠ "java/lang/invoke/VarHandle" ∧ (parseMethodDescriptor y_Y_init.desc).map (fun d => d.parameters.length) = some 0 := by decide +kernel
theorem cw_Y_init {R : Room} {s : State} {args : Array Value} {own : String} {index : Nat} (hW : ∀ w ∈ zws, w.before args s = true) (hl : Cond.methodLink own index y_Y_init ∈ zws) (hR : rm_Y_init.frames + 1 ≤ R.frames ∧ 8 + (2 + 11) + rm_Y_init.locals ≤ R.locals) : CallB R s args own index y_Y_init prog_11_method_1_code 2 none (Cond.code y_Y_init prog_11_method_1_code 2 none :: zws) rm_Y_init 27 2518 0 ∧ y_Y_init.name = "<init>" ∧ (Cond.instanceMethod y_Y_init).before args s = true := cwI 0 hW (zgood k_583) rfl rfl rfl (hW _ k_8) (hW _ hl) (hW _ k_582) rfl hd_Y_init hR
abbrev y_Y_within : MethodName := ⟨"TabledOriginModel", "within", "(II)Z"⟩
abbrev rm_Y_within : Room := { frames := 0, cells := 0, slots := 0, locals := 0 }
theorem hd_Y_within : y_Y_within.cls ≠ "java/lang/invoke/MethodHandle" ∧ y_Y_within.cls ≠ "java/lang/invoke/VarHandle" ∧ (parseMethodDescriptor y_Y_within.desc).map (fun d => d.parameters.length) = some 2 := by decide +kernel
theorem cw_Y_within {R : Room} {s : State} {args : Array Value} {own : String} {index : Nat} (hW : ∀ w ∈ zws, w.before args s = true) (hl : Cond.methodLink own index y_Y_within ∈ zws) (hR : rm_Y_within.frames + 1 ≤ R.frames ∧ 8 + (2 + 11) + rm_Y_within.locals ≤ R.locals) : CallB R s args own index y_Y_within prog_11_method_2_code 2 (some .boolean) (Cond.code y_Y_within prog_11_method_2_code 2 (some .boolean) :: zws) rm_Y_within 0 0 2 ∧ (Cond.static y_Y_within).before args s = true := ⟨callB_of 2 hW (zgood k_713) rfl rfl rfl (hW _ k_8) (hW _ hl) hd_Y_within hR, hW _ k_712⟩
abbrev y_Y_need : MethodName := ⟨"TabledOriginModel", "need", "(I)I"⟩
abbrev rm_Y_need : Room := { frames := 0, cells := 0, slots := 0, locals := 0 }
theorem hd_Y_need : y_Y_need.cls ≠ "java/lang/invoke/MethodHandle" ∧ y_Y_need.cls ≠ "java/lang/invoke/VarHandle" ∧ (parseMethodDescriptor y_Y_need.desc).map (fun d => d.parameters.length) = some 1 := by decide +kernel
theorem cw_Y_need {R : Room} {s : State} {args : Array Value} {own : String} {index : Nat} (hW : ∀ w ∈ zws, w.before args s = true) (hl : Cond.methodLink own index y_Y_need ∈ zws) (hR : rm_Y_need.frames + 1 ≤ R.frames ∧ 8 + (4 + 11) + rm_Y_need.locals ≤ R.locals) : CallW R s args own "TabledOriginModel" index y_Y_need prog_11_method_4_code 4 (some .int) (Cond.code y_Y_need prog_11_method_4_code 4 (some .int) :: zws) rm_Y_need 0 0 1 := ⟨callB_of 1 hW (zgood k_741) rfl rfl rfl (hW _ k_8) (hW _ hl) hd_Y_need hR, hW _ k_740, hW _ ks_19⟩
abbrev y_Y_after : MethodName := ⟨"TabledOriginModel", "after", "(I)I"⟩
abbrev rm_Y_after : Room := { frames := 1, cells := 0, slots := 0, locals := 23 }
theorem hd_Y_after : y_Y_after.cls ≠ "java/lang/invoke/MethodHandle" ∧ y_Y_after.cls ≠ "java/lang/invoke/VarHandle" ∧ (parseMethodDescriptor y_Y_after.desc).map (fun d => d.parameters.length) = some 1 := by decide +kernel
theorem cw_Y_after {R : Room} {s : State} {args : Array Value} {own : String} {index : Nat} (hW : ∀ w ∈ zws, w.before args s = true) (hl : Cond.methodLink own index y_Y_after ∈ zws) (hR : rm_Y_after.frames + 1 ≤ R.frames ∧ 8 + (5 + 11) + rm_Y_after.locals ≤ R.locals) : CallW R s args own "TabledOriginModel" index y_Y_after prog_11_method_3_code 5 (some .int) (Cond.code y_Y_after prog_11_method_3_code 5 (some .int) :: zws) rm_Y_after 0 0 1 := ⟨callB_of 1 hW (zgood k_737) rfl rfl rfl (hW _ k_8) (hW _ hl) hd_Y_after hR, hW _ k_736, hW _ ks_18⟩
abbrev y_Y_outstanding : MethodName := ⟨"TabledOriginModel", "outstanding", "(I)Z"⟩
abbrev rm_Y_outstanding : Room := { frames := 1, cells := 0, slots := 0, locals := 23 }
theorem hd_Y_outstanding : y_Y_outstanding.cls ≠ "java/lang/invoke/MethodHandle" ∧ y_Y_outstanding.cls ≠ "java/lang/invoke/VarHandle" ∧ (parseMethodDescriptor y_Y_outstanding.desc).map (fun d => d.parameters.length) = some 1 := by decide +kernel
theorem cw_Y_outstanding {R : Room} {s : State} {args : Array Value} {own : String} {index : Nat} (hW : ∀ w ∈ zws, w.before args s = true) (hl : Cond.methodLink own index y_Y_outstanding ∈ zws) (hR : rm_Y_outstanding.frames + 1 ≤ R.frames ∧ 8 + (4 + 11) + rm_Y_outstanding.locals ≤ R.locals) : CallW R s args own "TabledOriginModel" index y_Y_outstanding prog_11_method_5_code 4 (some .boolean) (Cond.code y_Y_outstanding prog_11_method_5_code 4 (some .boolean) :: zws) rm_Y_outstanding 0 0 1 := ⟨callB_of 1 hW (zgood k_749) rfl rfl rfl (hW _ k_8) (hW _ hl) hd_Y_outstanding hR, hW _ k_748, hW _ ks_21⟩
abbrev y_Y_risky : MethodName := ⟨"TabledOriginModel", "risky", "(II)I"⟩
abbrev rm_Y_risky : Room := { frames := 2, cells := 0, slots := 0, locals := 46 }
theorem hd_Y_risky : y_Y_risky.cls ≠ "java/lang/invoke/MethodHandle" ∧ y_Y_risky.cls ≠ "java/lang/invoke/VarHandle" ∧ (parseMethodDescriptor y_Y_risky.desc).map (fun d => d.parameters.length) = some 2 := by decide +kernel
theorem cw_Y_risky {R : Room} {s : State} {args : Array Value} {own : String} {index : Nat} (hW : ∀ w ∈ zws, w.before args s = true) (hl : Cond.methodLink own index y_Y_risky ∈ zws) (hR : rm_Y_risky.frames + 1 ≤ R.frames ∧ 8 + (5 + 11) + rm_Y_risky.locals ≤ R.locals) : CallW R s args own "TabledOriginModel" index y_Y_risky prog_11_method_6_code 5 (some .int) (Cond.code y_Y_risky prog_11_method_6_code 5 (some .int) :: zws) rm_Y_risky 0 0 2 := ⟨callB_of 2 hW (zgood k_745) rfl rfl rfl (hW _ k_8) (hW _ hl) hd_Y_risky hR, hW _ k_744, hW _ ks_20⟩
abbrev y_Y_uses : MethodName := ⟨"TabledOriginModel", "uses", "(II)I"⟩
abbrev rm_Y_uses : Room := { frames := 2, cells := 0, slots := 0, locals := 46 }
theorem hd_Y_uses : y_Y_uses.cls ≠ "java/lang/invoke/MethodHandle" ∧ y_Y_uses.cls ≠ "java/lang/invoke/VarHandle" ∧ (parseMethodDescriptor y_Y_uses.desc).map (fun d => d.parameters.length) = some 2 := by decide +kernel
theorem cw_Y_uses {R : Room} {s : State} {args : Array Value} {own : String} {index : Nat} (hW : ∀ w ∈ zws, w.before args s = true) (hl : Cond.methodLink own index y_Y_uses ∈ zws) (hR : rm_Y_uses.frames + 1 ≤ R.frames ∧ 8 + (7 + 11) + rm_Y_uses.locals ≤ R.locals) : CallW R s args own "TabledOriginModel" index y_Y_uses prog_11_method_7_code 7 (some .int) (Cond.code y_Y_uses prog_11_method_7_code 7 (some .int) :: zws) rm_Y_uses 0 0 2 := ⟨callB_of 2 hW (zgood k_757) rfl rfl rfl (hW _ k_8) (hW _ hl) hd_Y_uses hR, hW _ k_756, hW _ ks_23⟩
abbrev y_Y_oldest : MethodName := ⟨"TabledOriginModel", "oldest", "()I"⟩
abbrev rm_Y_oldest : Room := { frames := 0, cells := 0, slots := 0, locals := 0 }
theorem hd_Y_oldest : y_Y_oldest.cls ≠ "java/lang/invoke/MethodHandle" ∧ y_Y_oldest.cls ≠ "java/lang/invoke/VarHandle" ∧ (parseMethodDescriptor y_Y_oldest.desc).map (fun d => d.parameters.length) = some 0 := by decide +kernel
theorem cw_Y_oldest {R : Room} {s : State} {args : Array Value} {own : String} {index : Nat} (hW : ∀ w ∈ zws, w.before args s = true) (hl : Cond.methodLink own index y_Y_oldest ∈ zws) (hR : rm_Y_oldest.frames + 1 ≤ R.frames ∧ 8 + (1 + 11) + rm_Y_oldest.locals ≤ R.locals) : CallW R s args own "TabledOriginModel" index y_Y_oldest prog_11_method_8_code 1 (some .int) (Cond.code y_Y_oldest prog_11_method_8_code 1 (some .int) :: zws) rm_Y_oldest 0 0 0 := ⟨callB_of 0 hW (zgood k_753) rfl rfl rfl (hW _ k_8) (hW _ hl) hd_Y_oldest hR, hW _ k_752, hW _ ks_22⟩
abbrev y_Y_tell : MethodName := ⟨"TabledOriginModel", "tell", "(II)V"⟩
abbrev rm_Y_tell : Room := { frames := 0, cells := 0, slots := 0, locals := 0 }
theorem hd_Y_tell : y_Y_tell.cls ≠ "java/lang/invoke/MethodHandle" ∧ y_Y_tell.cls ≠ "java/lang/invoke/VarHandle" ∧ (parseMethodDescriptor y_Y_tell.desc).map (fun d => d.parameters.length) = some 2 := by decide +kernel
theorem cw_Y_tell {R : Room} {s : State} {args : Array Value} {own : String} {index : Nat} (hW : ∀ w ∈ zws, w.before args s = true) (hl : Cond.methodLink own index y_Y_tell ∈ zws) (hR : rm_Y_tell.frames + 1 ≤ R.frames ∧ 8 + (3 + 11) + rm_Y_tell.locals ≤ R.locals) : CallW R s args own "TabledOriginModel" index y_Y_tell prog_11_method_9_code 3 none (Cond.code y_Y_tell prog_11_method_9_code 3 none :: zws) rm_Y_tell 0 0 2 := ⟨callB_of 2 hW (zgood k_789) rfl rfl rfl (hW _ k_8) (hW _ hl) hd_Y_tell hR, hW _ k_788, hW _ ks_26⟩
abbrev y_Y_write : MethodName := ⟨"TabledOriginModel", "write", "(III)I"⟩
abbrev rm_Y_write : Room := { frames := 0, cells := 0, slots := 0, locals := 0 }
theorem hd_Y_write : y_Y_write.cls ≠ "java/lang/invoke/MethodHandle" ∧ y_Y_write.cls ≠ "java/lang/invoke/VarHandle" ∧ (parseMethodDescriptor y_Y_write.desc).map (fun d => d.parameters.length) = some 3 := by decide +kernel
theorem cw_Y_write {R : Room} {s : State} {args : Array Value} {own : String} {index : Nat} (hW : ∀ w ∈ zws, w.before args s = true) (hl : Cond.methodLink own index y_Y_write ∈ zws) (hR : rm_Y_write.frames + 1 ≤ R.frames ∧ 8 + (4 + 11) + rm_Y_write.locals ≤ R.locals) : CallW R s args own "TabledOriginModel" index y_Y_write prog_11_method_10_code 4 (some .int) (Cond.code y_Y_write prog_11_method_10_code 4 (some .int) :: zws) rm_Y_write 0 0 3 := ⟨callB_of 3 hW (zgood k_717) rfl rfl rfl (hW _ k_8) (hW _ hl) hd_Y_write hR, hW _ k_716, hW _ ks_15⟩
abbrev y_Y_put : MethodName := ⟨"TabledOriginModel", "put", "(III)I"⟩
abbrev rm_Y_put : Room := { frames := 1, cells := 0, slots := 0, locals := 23 }
theorem hd_Y_put : y_Y_put.cls ≠ "java/lang/invoke/MethodHandle" ∧ y_Y_put.cls ≠ "java/lang/invoke/VarHandle" ∧ (parseMethodDescriptor y_Y_put.desc).map (fun d => d.parameters.length) = some 3 := by decide +kernel
theorem cw_Y_put {R : Room} {s : State} {args : Array Value} {own : String} {index : Nat} (hW : ∀ w ∈ zws, w.before args s = true) (hl : Cond.methodLink own index y_Y_put ∈ zws) (hR : rm_Y_put.frames + 1 ≤ R.frames ∧ 8 + (4 + 11) + rm_Y_put.locals ≤ R.locals) : CallW R s args own "TabledOriginModel" index y_Y_put prog_11_method_11_code 4 (some .int) (Cond.code y_Y_put prog_11_method_11_code 4 (some .int) :: zws) rm_Y_put 0 0 3 := ⟨callB_of 3 hW (zgood k_710) rfl rfl rfl (hW _ k_8) (hW _ hl) hd_Y_put hR, hW _ k_708, hW _ k_709⟩
abbrev y_Y_drop : MethodName := ⟨"TabledOriginModel", "drop", "(I)Z"⟩
abbrev rm_Y_drop : Room := { frames := 1, cells := 0, slots := 0, locals := 21 }
theorem hd_Y_drop : y_Y_drop.cls ≠ "java/lang/invoke/MethodHandle" ∧ y_Y_drop.cls ≠ "java/lang/invoke/VarHandle" ∧ (parseMethodDescriptor y_Y_drop.desc).map (fun d => d.parameters.length) = some 1 := by decide +kernel
theorem cw_Y_drop {R : Room} {s : State} {args : Array Value} {own : String} {index : Nat} (hW : ∀ w ∈ zws, w.before args s = true) (hl : Cond.methodLink own index y_Y_drop ∈ zws) (hR : rm_Y_drop.frames + 1 ≤ R.frames ∧ 8 + (2 + 11) + rm_Y_drop.locals ≤ R.locals) : CallW R s args own "TabledOriginModel" index y_Y_drop prog_11_method_12_code 2 (some .boolean) (Cond.code y_Y_drop prog_11_method_12_code 2 (some .boolean) :: zws) rm_Y_drop 0 0 1 := ⟨callB_of 1 hW (zgood k_721) rfl rfl rfl (hW _ k_8) (hW _ hl) hd_Y_drop hR, hW _ k_719, hW _ k_720⟩
abbrev y_Y_field : MethodName := ⟨"TabledOriginModel", "field", "(III)V"⟩
abbrev rm_Y_field : Room := { frames := 3, cells := 0, slots := 0, locals := 72 }
theorem hd_Y_field : y_Y_field.cls ≠ "java/lang/invoke/MethodHandle" ∧ y_Y_field.cls ≠ "java/lang/invoke/VarHandle" ∧ (parseMethodDescriptor y_Y_field.desc).map (fun d => d.parameters.length) = some 3 := by decide +kernel
theorem cw_Y_field {R : Room} {s : State} {args : Array Value} {own : String} {index : Nat} (hW : ∀ w ∈ zws, w.before args s = true) (hl : Cond.methodLink own index y_Y_field ∈ zws) (hR : rm_Y_field.frames + 1 ≤ R.frames ∧ 8 + (9 + 11) + rm_Y_field.locals ≤ R.locals) : CallW R s args own "TabledOriginModel" index y_Y_field prog_11_method_13_code 9 none (Cond.code y_Y_field prog_11_method_13_code 9 none :: zws) rm_Y_field 0 0 3 := ⟨callB_of 3 hW (zgood k_733) rfl rfl rfl (hW _ k_8) (hW _ hl) hd_Y_field hR, hW _ k_732, hW _ ks_17⟩
abbrev y_Y_decide : MethodName := ⟨"TabledOriginModel", "decide", "(I)I"⟩
abbrev rm_Y_decide : Room := { frames := 1, cells := 0, slots := 0, locals := 23 }
theorem hd_Y_decide : y_Y_decide.cls ≠ "java/lang/invoke/MethodHandle" ∧ y_Y_decide.cls ≠ "java/lang/invoke/VarHandle" ∧ (parseMethodDescriptor y_Y_decide.desc).map (fun d => d.parameters.length) = some 1 := by decide +kernel
theorem cw_Y_decide {R : Room} {s : State} {args : Array Value} {own : String} {index : Nat} (hW : ∀ w ∈ zws, w.before args s = true) (hl : Cond.methodLink own index y_Y_decide ∈ zws) (hR : rm_Y_decide.frames + 1 ≤ R.frames ∧ 8 + (3 + 11) + rm_Y_decide.locals ≤ R.locals) : CallW R s args own "TabledOriginModel" index y_Y_decide prog_11_method_14_code 3 (some .int) (Cond.code y_Y_decide prog_11_method_14_code 3 (some .int) :: zws) rm_Y_decide 0 0 1 := ⟨callB_of 1 hW (zgood k_729) rfl rfl rfl (hW _ k_8) (hW _ hl) hd_Y_decide hR, hW _ k_728, hW _ ks_16⟩
abbrev y_Y_arrive : MethodName := ⟨"TabledOriginModel", "arrive", "(I)I"⟩
abbrev rm_Y_arrive : Room := { frames := 4, cells := 0, slots := 0, locals := 100 }
theorem hd_Y_arrive : y_Y_arrive.cls ≠ "java/lang/invoke/MethodHandle" ∧ y_Y_arrive.cls ≠ "java/lang/invoke/VarHandle" ∧ (parseMethodDescriptor y_Y_arrive.desc).map (fun d => d.parameters.length) = some 1 := by decide +kernel
theorem cw_Y_arrive {R : Room} {s : State} {args : Array Value} {own : String} {index : Nat} (hW : ∀ w ∈ zws, w.before args s = true) (hl : Cond.methodLink own index y_Y_arrive ∈ zws) (hR : rm_Y_arrive.frames + 1 ≤ R.frames ∧ 8 + (4 + 11) + rm_Y_arrive.locals ≤ R.locals) : CallW R s args own "TabledOriginModel" index y_Y_arrive prog_11_method_15_code 4 (some .int) (Cond.code y_Y_arrive prog_11_method_15_code 4 (some .int) :: zws) rm_Y_arrive 0 0 1 := ⟨callB_of 1 hW (zgood k_725) rfl rfl rfl (hW _ k_8) (hW _ hl) hd_Y_arrive hR, hW _ k_723, hW _ k_724⟩
abbrev y_Y_feedback : MethodName := ⟨"TabledOriginModel", "feedback", "()I"⟩
abbrev rm_Y_feedback : Room := { frames := 0, cells := 0, slots := 0, locals := 0 }
theorem hd_Y_feedback : y_Y_feedback.cls ≠ "java/lang/invoke/MethodHandle" ∧ y_Y_feedback.cls ≠ "java/lang/invoke/VarHandle" ∧ (parseMethodDescriptor y_Y_feedback.desc).map (fun d => d.parameters.length) = some 0 := by decide +kernel
theorem cw_Y_feedback {R : Room} {s : State} {args : Array Value} {own : String} {index : Nat} (hW : ∀ w ∈ zws, w.before args s = true) (hl : Cond.methodLink own index y_Y_feedback ∈ zws) (hR : rm_Y_feedback.frames + 1 ≤ R.frames ∧ 8 + (1 + 11) + rm_Y_feedback.locals ≤ R.locals) : CallW R s args own "TabledOriginModel" index y_Y_feedback prog_11_method_16_code 1 (some .int) (Cond.code y_Y_feedback prog_11_method_16_code 1 (some .int) :: zws) rm_Y_feedback 0 0 0 := ⟨callB_of 0 hW (zgood k_761) rfl rfl rfl (hW _ k_8) (hW _ hl) hd_Y_feedback hR, hW _ k_759, hW _ k_760⟩
abbrev y_Y_goaway : MethodName := ⟨"TabledOriginModel", "goaway", "()I"⟩
abbrev rm_Y_goaway : Room := { frames := 0, cells := 0, slots := 0, locals := 0 }
theorem hd_Y_goaway : y_Y_goaway.cls ≠ "java/lang/invoke/MethodHandle" ∧ y_Y_goaway.cls ≠ "java/lang/invoke/VarHandle" ∧ (parseMethodDescriptor y_Y_goaway.desc).map (fun d => d.parameters.length) = some 0 := by decide +kernel
theorem cw_Y_goaway {R : Room} {s : State} {args : Array Value} {own : String} {index : Nat} (hW : ∀ w ∈ zws, w.before args s = true) (hl : Cond.methodLink own index y_Y_goaway ∈ zws) (hR : rm_Y_goaway.frames + 1 ≤ R.frames ∧ 8 + (1 + 11) + rm_Y_goaway.locals ≤ R.locals) : CallW R s args own "TabledOriginModel" index y_Y_goaway prog_11_method_17_code 1 (some .int) (Cond.code y_Y_goaway prog_11_method_17_code 1 (some .int) :: zws) rm_Y_goaway 0 0 0 := ⟨callB_of 0 hW (zgood k_765) rfl rfl rfl (hW _ k_8) (hW _ hl) hd_Y_goaway hR, hW _ k_763, hW _ k_764⟩
abbrev y_Y_ask : MethodName := ⟨"TabledOriginModel", "ask", "(IZII)I"⟩
abbrev rm_Y_ask : Room := { frames := 0, cells := 0, slots := 0, locals := 0 }
theorem hd_Y_ask : y_Y_ask.cls ≠ "java/lang/invoke/MethodHandle" ∧ y_Y_ask.cls ≠ "java/lang/invoke/VarHandle" ∧ (parseMethodDescriptor y_Y_ask.desc).map (fun d => d.parameters.length) = some 4 := by decide +kernel
theorem cw_Y_ask {R : Room} {s : State} {args : Array Value} {own : String} {index : Nat} (hW : ∀ w ∈ zws, w.before args s = true) (hl : Cond.methodLink own index y_Y_ask ∈ zws) (hR : rm_Y_ask.frames + 1 ≤ R.frames ∧ 8 + (7 + 11) + rm_Y_ask.locals ≤ R.locals) : CallW R s args own "TabledOriginModel" index y_Y_ask prog_11_method_18_code 7 (some .int) (Cond.code y_Y_ask prog_11_method_18_code 7 (some .int) :: zws) rm_Y_ask 0 0 4 := ⟨callB_of 4 hW (zgood k_773) rfl rfl rfl (hW _ k_8) (hW _ hl) hd_Y_ask hR, hW _ k_772, hW _ ks_24⟩
abbrev y_Y_get : MethodName := ⟨"TabledOriginModel", "get", "(I)I"⟩
abbrev rm_Y_get : Room := { frames := 1, cells := 0, slots := 0, locals := 26 }
theorem hd_Y_get : y_Y_get.cls ≠ "java/lang/invoke/MethodHandle" ∧ y_Y_get.cls ≠ "java/lang/invoke/VarHandle" ∧ (parseMethodDescriptor y_Y_get.desc).map (fun d => d.parameters.length) = some 1 := by decide +kernel
theorem cw_Y_get {R : Room} {s : State} {args : Array Value} {own : String} {index : Nat} (hW : ∀ w ∈ zws, w.before args s = true) (hl : Cond.methodLink own index y_Y_get ∈ zws) (hR : rm_Y_get.frames + 1 ≤ R.frames ∧ 8 + (2 + 11) + rm_Y_get.locals ≤ R.locals) : CallW R s args own "TabledOriginModel" index y_Y_get prog_11_method_19_code 2 (some .int) (Cond.code y_Y_get prog_11_method_19_code 2 (some .int) :: zws) rm_Y_get 0 0 1 := ⟨callB_of 1 hW (zgood k_769) rfl rfl rfl (hW _ k_8) (hW _ hl) hd_Y_get hR, hW _ k_767, hW _ k_768⟩
abbrev y_Y_replace : MethodName := ⟨"TabledOriginModel", "replace", "(III)I"⟩
abbrev rm_Y_replace : Room := { frames := 1, cells := 0, slots := 0, locals := 26 }
theorem hd_Y_replace : y_Y_replace.cls ≠ "java/lang/invoke/MethodHandle" ∧ y_Y_replace.cls ≠ "java/lang/invoke/VarHandle" ∧ (parseMethodDescriptor y_Y_replace.desc).map (fun d => d.parameters.length) = some 3 := by decide +kernel
theorem cw_Y_replace {R : Room} {s : State} {args : Array Value} {own : String} {index : Nat} (hW : ∀ w ∈ zws, w.before args s = true) (hl : Cond.methodLink own index y_Y_replace ∈ zws) (hR : rm_Y_replace.frames + 1 ≤ R.frames ∧ 8 + (4 + 11) + rm_Y_replace.locals ≤ R.locals) : CallW R s args own "TabledOriginModel" index y_Y_replace prog_11_method_20_code 4 (some .int) (Cond.code y_Y_replace prog_11_method_20_code 4 (some .int) :: zws) rm_Y_replace 0 0 3 := ⟨callB_of 3 hW (zgood k_777) rfl rfl rfl (hW _ k_8) (hW _ hl) hd_Y_replace hR, hW _ k_775, hW _ k_776⟩
abbrev y_Y_read : MethodName := ⟨"TabledOriginModel", "read", "(I)I"⟩
abbrev rm_Y_read : Room := { frames := 1, cells := 0, slots := 0, locals := 23 }
theorem hd_Y_read : y_Y_read.cls ≠ "java/lang/invoke/MethodHandle" ∧ y_Y_read.cls ≠ "java/lang/invoke/VarHandle" ∧ (parseMethodDescriptor y_Y_read.desc).map (fun d => d.parameters.length) = some 1 := by decide +kernel
theorem cw_Y_read {R : Room} {s : State} {args : Array Value} {own : String} {index : Nat} (hW : ∀ w ∈ zws, w.before args s = true) (hl : Cond.methodLink own index y_Y_read ∈ zws) (hR : rm_Y_read.frames + 1 ≤ R.frames ∧ 8 + (5 + 11) + rm_Y_read.locals ≤ R.locals) : CallW R s args own "TabledOriginModel" index y_Y_read prog_11_method_21_code 5 (some .int) (Cond.code y_Y_read prog_11_method_21_code 5 (some .int) :: zws) rm_Y_read 0 0 1 := ⟨callB_of 1 hW (zgood k_785) rfl rfl rfl (hW _ k_8) (hW _ hl) hd_Y_read hR, hW _ k_784, hW _ ks_25⟩
abbrev y_Y_reply : MethodName := ⟨"TabledOriginModel", "reply", "(I)I"⟩
abbrev rm_Y_reply : Room := { frames := 2, cells := 0, slots := 0, locals := 47 }
theorem hd_Y_reply : y_Y_reply.cls ≠ "java/lang/invoke/MethodHandle" ∧ y_Y_reply.cls ≠ "java/lang/invoke/VarHandle" ∧ (parseMethodDescriptor y_Y_reply.desc).map (fun d => d.parameters.length) = some 1 := by decide +kernel
theorem cw_Y_reply {R : Room} {s : State} {args : Array Value} {own : String} {index : Nat} (hW : ∀ w ∈ zws, w.before args s = true) (hl : Cond.methodLink own index y_Y_reply ∈ zws) (hR : rm_Y_reply.frames + 1 ≤ R.frames ∧ 8 + (2 + 11) + rm_Y_reply.locals ≤ R.locals) : CallW R s args own "TabledOriginModel" index y_Y_reply prog_11_method_22_code 2 (some .int) (Cond.code y_Y_reply prog_11_method_22_code 2 (some .int) :: zws) rm_Y_reply 0 0 1 := ⟨callB_of 1 hW (zgood k_781) rfl rfl rfl (hW _ k_8) (hW _ hl) hd_Y_reply hR, hW _ k_779, hW _ k_780⟩
abbrev y_Y_insert : MethodName := ⟨"TabledOriginModel", "insert", "()I"⟩
abbrev rm_Y_insert : Room := { frames := 2, cells := 0, slots := 0, locals := 47 }
theorem hd_Y_insert : y_Y_insert.cls ≠ "java/lang/invoke/MethodHandle" ∧ y_Y_insert.cls ≠ "java/lang/invoke/VarHandle" ∧ (parseMethodDescriptor y_Y_insert.desc).map (fun d => d.parameters.length) = some 0 := by decide +kernel
theorem cw_Y_insert {R : Room} {s : State} {args : Array Value} {own : String} {index : Nat} (hW : ∀ w ∈ zws, w.before args s = true) (hl : Cond.methodLink own index y_Y_insert ∈ zws) (hR : rm_Y_insert.frames + 1 ≤ R.frames ∧ 8 + (4 + 11) + rm_Y_insert.locals ≤ R.locals) : CallW R s args own "TabledOriginModel" index y_Y_insert prog_11_method_23_code 4 (some .int) (Cond.code y_Y_insert prog_11_method_23_code 4 (some .int) :: zws) rm_Y_insert 0 0 0 := ⟨callB_of 0 hW (zgood k_793) rfl rfl rfl (hW _ k_8) (hW _ hl) hd_Y_insert hR, hW _ k_791, hW _ k_792⟩
abbrev y_Y_report : MethodName := ⟨"TabledOriginModel", "report", "()Z"⟩
abbrev rm_Y_report : Room := { frames := 2, cells := 0, slots := 0, locals := 47 }
theorem hd_Y_report : y_Y_report.cls ≠ "java/lang/invoke/MethodHandle" ∧ y_Y_report.cls ≠ "java/lang/invoke/VarHandle" ∧ (parseMethodDescriptor y_Y_report.desc).map (fun d => d.parameters.length) = some 0 := by decide +kernel
theorem cw_Y_report {R : Room} {s : State} {args : Array Value} {own : String} {index : Nat} (hW : ∀ w ∈ zws, w.before args s = true) (hl : Cond.methodLink own index y_Y_report ∈ zws) (hR : rm_Y_report.frames + 1 ≤ R.frames ∧ 8 + (2 + 11) + rm_Y_report.locals ≤ R.locals) : CallW R s args own "TabledOriginModel" index y_Y_report prog_11_method_24_code 2 (some .boolean) (Cond.code y_Y_report prog_11_method_24_code 2 (some .boolean) :: zws) rm_Y_report 0 0 0 := ⟨callB_of 0 hW (zgood k_797) rfl rfl rfl (hW _ k_8) (hW _ hl) hd_Y_report hR, hW _ k_795, hW _ k_796⟩
abbrev y_Y_notice : MethodName := ⟨"TabledOriginModel", "notice", "()I"⟩
abbrev rm_Y_notice : Room := { frames := 0, cells := 0, slots := 0, locals := 0 }
theorem hd_Y_notice : y_Y_notice.cls ≠ "java/lang/invoke/MethodHandle" ∧ y_Y_notice.cls ≠ "java/lang/invoke/VarHandle" ∧ (parseMethodDescriptor y_Y_notice.desc).map (fun d => d.parameters.length) = some 0 := by decide +kernel
theorem cw_Y_notice {R : Room} {s : State} {args : Array Value} {own : String} {index : Nat} (hW : ∀ w ∈ zws, w.before args s = true) (hl : Cond.methodLink own index y_Y_notice ∈ zws) (hR : rm_Y_notice.frames + 1 ≤ R.frames ∧ 8 + (3 + 11) + rm_Y_notice.locals ≤ R.locals) : CallW R s args own "TabledOriginModel" index y_Y_notice prog_11_method_25_code 3 (some .int) (Cond.code y_Y_notice prog_11_method_25_code 3 (some .int) :: zws) rm_Y_notice 0 0 0 := ⟨callB_of 0 hW (zgood k_801) rfl rfl rfl (hW _ k_8) (hW _ hl) hd_Y_notice hR, hW _ k_799, hW _ k_800⟩
abbrev y_Y_cancel : MethodName := ⟨"TabledOriginModel", "cancel", "(I)Z"⟩
abbrev rm_Y_cancel : Room := { frames := 1, cells := 0, slots := 0, locals := 22 }
theorem hd_Y_cancel : y_Y_cancel.cls ≠ "java/lang/invoke/MethodHandle" ∧ y_Y_cancel.cls ≠ "java/lang/invoke/VarHandle" ∧ (parseMethodDescriptor y_Y_cancel.desc).map (fun d => d.parameters.length) = some 1 := by decide +kernel
theorem cw_Y_cancel {R : Room} {s : State} {args : Array Value} {own : String} {index : Nat} (hW : ∀ w ∈ zws, w.before args s = true) (hl : Cond.methodLink own index y_Y_cancel ∈ zws) (hR : rm_Y_cancel.frames + 1 ≤ R.frames ∧ 8 + (2 + 11) + rm_Y_cancel.locals ≤ R.locals) : CallW R s args own "TabledOriginModel" index y_Y_cancel prog_11_method_26_code 2 (some .boolean) (Cond.code y_Y_cancel prog_11_method_26_code 2 (some .boolean) :: zws) rm_Y_cancel 0 0 1 := ⟨callB_of 1 hW (zgood k_805) rfl rfl rfl (hW _ k_8) (hW _ hl) hd_Y_cancel hR, hW _ k_803, hW _ k_804⟩
abbrev y_Y_tick : MethodName := ⟨"TabledOriginModel", "tick", "(I)Z"⟩
abbrev rm_Y_tick : Room := { frames := 1, cells := 0, slots := 0, locals := 21 }
theorem hd_Y_tick : y_Y_tick.cls ≠ "java/lang/invoke/MethodHandle" ∧ y_Y_tick.cls ≠ "java/lang/invoke/VarHandle" ∧ (parseMethodDescriptor y_Y_tick.desc).map (fun d => d.parameters.length) = some 1 := by decide +kernel
theorem cw_Y_tick {R : Room} {s : State} {args : Array Value} {own : String} {index : Nat} (hW : ∀ w ∈ zws, w.before args s = true) (hl : Cond.methodLink own index y_Y_tick ∈ zws) (hR : rm_Y_tick.frames + 1 ≤ R.frames ∧ 8 + (2 + 11) + rm_Y_tick.locals ≤ R.locals) : CallW R s args own "TabledOriginModel" index y_Y_tick prog_11_method_27_code 2 (some .boolean) (Cond.code y_Y_tick prog_11_method_27_code 2 (some .boolean) :: zws) rm_Y_tick 0 0 1 := ⟨callB_of 1 hW (zgood k_809) rfl rfl rfl (hW _ k_8) (hW _ hl) hd_Y_tick hR, hW _ k_807, hW _ k_808⟩
abbrev y_Y_outcome : MethodName := ⟨"TabledOriginModel", "outcome", "(I)I"⟩
abbrev rm_Y_outcome : Room := { frames := 1, cells := 0, slots := 0, locals := 21 }
theorem hd_Y_outcome : y_Y_outcome.cls ≠ "java/lang/invoke/MethodHandle" ∧ y_Y_outcome.cls ≠ "java/lang/invoke/VarHandle" ∧ (parseMethodDescriptor y_Y_outcome.desc).map (fun d => d.parameters.length) = some 1 := by decide +kernel
theorem cw_Y_outcome {R : Room} {s : State} {args : Array Value} {own : String} {index : Nat} (hW : ∀ w ∈ zws, w.before args s = true) (hl : Cond.methodLink own index y_Y_outcome ∈ zws) (hR : rm_Y_outcome.frames + 1 ≤ R.frames ∧ 8 + (2 + 11) + rm_Y_outcome.locals ≤ R.locals) : CallW R s args own "TabledOriginModel" index y_Y_outcome prog_11_method_28_code 2 (some .int) (Cond.code y_Y_outcome prog_11_method_28_code 2 (some .int) :: zws) rm_Y_outcome 0 0 1 := ⟨callB_of 1 hW (zgood k_813) rfl rfl rfl (hW _ k_8) (hW _ hl) hd_Y_outcome hR, hW _ k_811, hW _ k_812⟩
abbrev y_Y_content : MethodName := ⟨"TabledOriginModel", "content", "(I)I"⟩
abbrev rm_Y_content : Room := { frames := 1, cells := 0, slots := 0, locals := 21 }
theorem hd_Y_content : y_Y_content.cls ≠ "java/lang/invoke/MethodHandle" ∧ y_Y_content.cls ≠ "java/lang/invoke/VarHandle" ∧ (parseMethodDescriptor y_Y_content.desc).map (fun d => d.parameters.length) = some 1 := by decide +kernel
theorem cw_Y_content {R : Room} {s : State} {args : Array Value} {own : String} {index : Nat} (hW : ∀ w ∈ zws, w.before args s = true) (hl : Cond.methodLink own index y_Y_content ∈ zws) (hR : rm_Y_content.frames + 1 ≤ R.frames ∧ 8 + (3 + 11) + rm_Y_content.locals ≤ R.locals) : CallW R s args own "TabledOriginModel" index y_Y_content prog_11_method_29_code 3 (some .int) (Cond.code y_Y_content prog_11_method_29_code 3 (some .int) :: zws) rm_Y_content 0 0 1 := ⟨callB_of 1 hW (zgood k_817) rfl rfl rfl (hW _ k_8) (hW _ hl) hd_Y_content hR, hW _ k_815, hW _ k_816⟩
abbrev y_Y_stored : MethodName := ⟨"TabledOriginModel", "stored", "(II)I"⟩
abbrev rm_Y_stored : Room := { frames := 1, cells := 0, slots := 0, locals := 21 }
theorem hd_Y_stored : y_Y_stored.cls ≠ "java/lang/invoke/MethodHandle" ∧ y_Y_stored.cls ≠ "java/lang/invoke/VarHandle" ∧ (parseMethodDescriptor y_Y_stored.desc).map (fun d => d.parameters.length) = some 2 := by decide +kernel
theorem cw_Y_stored {R : Room} {s : State} {args : Array Value} {own : String} {index : Nat} (hW : ∀ w ∈ zws, w.before args s = true) (hl : Cond.methodLink own index y_Y_stored ∈ zws) (hR : rm_Y_stored.frames + 1 ≤ R.frames ∧ 8 + (4 + 11) + rm_Y_stored.locals ≤ R.locals) : CallW R s args own "TabledOriginModel" index y_Y_stored prog_11_method_30_code 4 (some .int) (Cond.code y_Y_stored prog_11_method_30_code 4 (some .int) :: zws) rm_Y_stored 0 0 2 := ⟨callB_of 2 hW (zgood k_821) rfl rfl rfl (hW _ k_8) (hW _ hl) hd_Y_stored hR, hW _ k_819, hW _ k_820⟩
abbrev y_Y_entry : MethodName := ⟨"TabledOriginModel", "entry", "(II)I"⟩
abbrev rm_Y_entry : Room := { frames := 3, cells := 0, slots := 0, locals := 72 }
theorem hd_Y_entry : y_Y_entry.cls ≠ "java/lang/invoke/MethodHandle" ∧ y_Y_entry.cls ≠ "java/lang/invoke/VarHandle" ∧ (parseMethodDescriptor y_Y_entry.desc).map (fun d => d.parameters.length) = some 2 := by decide +kernel
theorem cw_Y_entry {R : Room} {s : State} {args : Array Value} {own : String} {index : Nat} (hW : ∀ w ∈ zws, w.before args s = true) (hl : Cond.methodLink own index y_Y_entry ∈ zws) (hR : rm_Y_entry.frames + 1 ≤ R.frames ∧ 8 + (4 + 11) + rm_Y_entry.locals ≤ R.locals) : CallW R s args own "TabledOriginModel" index y_Y_entry prog_11_method_31_code 4 (some .int) (Cond.code y_Y_entry prog_11_method_31_code 4 (some .int) :: zws) rm_Y_entry 0 0 2 := ⟨callB_of 2 hW (zgood k_825) rfl rfl rfl (hW _ k_8) (hW _ hl) hd_Y_entry hR, hW _ k_823, hW _ k_824⟩
abbrev y_Y_count : MethodName := ⟨"TabledOriginModel", "count", "(I)I"⟩
abbrev rm_Y_count : Room := { frames := 3, cells := 0, slots := 0, locals := 70 }
theorem hd_Y_count : y_Y_count.cls ≠ "java/lang/invoke/MethodHandle" ∧ y_Y_count.cls ≠ "java/lang/invoke/VarHandle" ∧ (parseMethodDescriptor y_Y_count.desc).map (fun d => d.parameters.length) = some 1 := by decide +kernel
theorem cw_Y_count {R : Room} {s : State} {args : Array Value} {own : String} {index : Nat} (hW : ∀ w ∈ zws, w.before args s = true) (hl : Cond.methodLink own index y_Y_count ∈ zws) (hR : rm_Y_count.frames + 1 ≤ R.frames ∧ 8 + (5 + 11) + rm_Y_count.locals ≤ R.locals) : CallW R s args own "TabledOriginModel" index y_Y_count prog_11_method_32_code 5 (some .int) (Cond.code y_Y_count prog_11_method_32_code 5 (some .int) :: zws) rm_Y_count 0 0 1 := ⟨callB_of 1 hW (zgood k_829) rfl rfl rfl (hW _ k_8) (hW _ hl) hd_Y_count hR, hW _ k_827, hW _ k_828⟩
end
