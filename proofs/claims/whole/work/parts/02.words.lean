theorem k_1 : Cond.initialized "TabledOrigin" ∈ zws := zin 1 (by decide +kernel) rfl
theorem k_2 : Cond.initialized "TabledOrigin$Server" ∈ zws := zin 2 (by decide +kernel) rfl
theorem k_3 : Cond.initialized "TabledOrigin$Resource" ∈ zws := zin 3 (by decide +kernel) rfl
theorem k_4 : Cond.initialized "TabledOrigin$Table" ∈ zws := zin 4 (by decide +kernel) rfl
theorem k_5 : Cond.initialized "TabledOrigin$Client" ∈ zws := zin 5 (by decide +kernel) rfl
theorem k_6 : Cond.initialized "TabledOrigin$StoredAnswer" ∈ zws := zin 6 (by decide +kernel) rfl
theorem k_7 : Cond.initialized "TabledOrigin$FeedbackRoad" ∈ zws := zin 7 (by decide +kernel) rfl
theorem k_8 : Cond.initialized "TabledOriginModel" ∈ zws := zin 8 (by decide +kernel) rfl
theorem k_9 : Cond.initialized "TabledOrigin$Request" ∈ zws := zin 9 (by decide +kernel) rfl
theorem k_10 : Cond.initialized "java/lang/Math" ∈ zws := zin 10 (by decide +kernel) rfl
theorem k_11 : Cond.initialized "TabledOrigin$Answer" ∈ zws := zin 11 (by decide +kernel) rfl
theorem k_15 : Cond.instanceMethod ⟨"TabledOrigin", "<init>", "()V"⟩ ∈ zws := zin 15 (by decide +kernel) rfl
set_option maxRecDepth 20000 in
theorem k_16 : Cond.code ⟨"TabledOrigin", "<init>", "()V"⟩ prog_1_method_1_code 1 none ∈ zws := zin 16 (by rfl) rfl
theorem k_17 : Cond.methodLink "TabledOrigin" 3 ⟨"java/lang/Object", "<init>", "()V"⟩ ∈ zws := zin 17 (by decide +kernel) rfl
theorem k_18 : Cond.instanceMethod ⟨"java/lang/Object", "<init>", "()V"⟩ ∈ zws := zin 18 (by decide +kernel) rfl
set_option maxRecDepth 20000 in
theorem k_19 : Cond.code ⟨"java/lang/Object", "<init>", "()V"⟩ object_method_1_code 1 none ∈ zws := zin 19 (by rfl) rfl
theorem k_20 : Cond.classLink "TabledOrigin" 9 "TabledOrigin$Server" ∈ zws := zin 20 (by decide +kernel) rfl
theorem k_21 : Cond.instantiable "TabledOrigin$Server" 6 ∈ zws := zin 21 (by decide +kernel) rfl
theorem k_22 : Cond.methodLink "TabledOrigin" 11 ⟨"TabledOrigin$Server", "<init>", "()V"⟩ ∈ zws := zin 22 (by decide +kernel) rfl
theorem k_23 : Cond.instanceMethod ⟨"TabledOrigin$Server", "<init>", "()V"⟩ ∈ zws := zin 23 (by decide +kernel) rfl
set_option maxRecDepth 20000 in
theorem k_24 : Cond.code ⟨"TabledOrigin$Server", "<init>", "()V"⟩ prog_7_method_1_code 2 none ∈ zws := zin 24 (by rfl) rfl
theorem k_25 : Cond.methodLink "TabledOrigin$Server" 3 ⟨"java/lang/Object", "<init>", "()V"⟩ ∈ zws := zin 25 (by decide +kernel) rfl
theorem k_26 : Cond.classLink "TabledOrigin$Server" 9 "TabledOrigin$Resource" ∈ zws := zin 26 (by decide +kernel) rfl
theorem k_28 : Cond.instantiable "TabledOrigin$Resource" 4 ∈ zws := zin 28 (by decide +kernel) rfl
theorem k_30 : Cond.instanceMethod ⟨"TabledOrigin$Resource", "<init>", "()V"⟩ ∈ zws := zin 30 (by decide +kernel) rfl
set_option maxRecDepth 20000 in
theorem k_31 : Cond.code ⟨"TabledOrigin$Resource", "<init>", "()V"⟩ prog_6_method_1_code 1 none ∈ zws := zin 31 (by rfl) rfl
theorem k_32 : Cond.methodLink "TabledOrigin$Resource" 1 ⟨"java/lang/Object", "<init>", "()V"⟩ ∈ zws := zin 32 (by decide +kernel) rfl
theorem k_33 : Cond.fieldLink "TabledOrigin$Server" 29 "TabledOrigin$Resource" "there" "Z" ∈ zws := zin 33 (by decide +kernel) rfl
theorem k_34 : Cond.fieldLink "TabledOrigin" 60 "TabledOrigin$Resource" "there" "Z" ∈ zws := zin 34 (by decide +kernel) rfl
theorem k_35 : Cond.fieldLink "TabledOrigin" 55 "TabledOrigin$Resource" "tag" "I" ∈ zws := zin 35 (by decide +kernel) rfl
theorem k_36 : Cond.fieldLink "TabledOrigin$Server" 33 "TabledOrigin$Resource" "tag" "I" ∈ zws := zin 36 (by decide +kernel) rfl
theorem k_37 : Cond.fieldLink "TabledOrigin$Server" 36 "TabledOrigin$Resource" "content" "I" ∈ zws := zin 37 (by decide +kernel) rfl
theorem k_38 : Cond.fieldLink "TabledOrigin$Server" 39 "TabledOrigin$Resource" "lifetime" "I" ∈ zws := zin 38 (by decide +kernel) rfl
theorem k_39 : Cond.lays "TabledOrigin$Resource" "TabledOrigin$Resource" "there" "Z" ∈ zws := zin 39 (by decide +kernel) rfl
theorem k_41 : Cond.lays "TabledOrigin$Resource" "TabledOrigin$Resource" "tag" "I" ∈ zws := zin 41 (by decide +kernel) rfl
theorem k_43 : Cond.lays "TabledOrigin$Resource" "TabledOrigin$Resource" "content" "I" ∈ zws := zin 43 (by decide +kernel) rfl
theorem k_45 : Cond.lays "TabledOrigin$Resource" "TabledOrigin$Resource" "lifetime" "I" ∈ zws := zin 45 (by decide +kernel) rfl
theorem k_48 : Cond.classLink "TabledOrigin$Server" 18 "TabledOrigin$Table" ∈ zws := zin 48 (by decide +kernel) rfl
theorem k_49 : Cond.instantiable "TabledOrigin$Table" 8 ∈ zws := zin 49 (by decide +kernel) rfl
theorem k_50 : Cond.methodLink "TabledOrigin$Server" 20 ⟨"TabledOrigin$Table", "<init>", "()V"⟩ ∈ zws := zin 50 (by decide +kernel) rfl
theorem k_51 : Cond.instanceMethod ⟨"TabledOrigin$Table", "<init>", "()V"⟩ ∈ zws := zin 51 (by decide +kernel) rfl
set_option maxRecDepth 20000 in
theorem k_52 : Cond.code ⟨"TabledOrigin$Table", "<init>", "()V"⟩ prog_9_method_1_code 1 none ∈ zws := zin 52 (by rfl) rfl
theorem k_53 : Cond.methodLink "TabledOrigin$Table" 3 ⟨"java/lang/Object", "<init>", "()V"⟩ ∈ zws := zin 53 (by decide +kernel) rfl
theorem k_54 : Cond.classLink "TabledOrigin$Table" 18 "TabledOrigin$Answer" ∈ zws := zin 54 (by decide +kernel) rfl
theorem k_56 : Cond.fieldLink "TabledOrigin$Table" 9 "TabledOrigin$Table" "names" "[I" ∈ zws := zin 56 (by decide +kernel) rfl
theorem k_57 : Cond.fieldLink "TabledOrigin$Table" 15 "TabledOrigin$Table" "values" "[I" ∈ zws := zin 57 (by decide +kernel) rfl
theorem k_58 : Cond.fieldLink "TabledOrigin$Table" 20 "TabledOrigin$Table" "answers" "[LTabledOrigin$Answer;" ∈ zws := zin 58 (by decide +kernel) rfl
theorem k_59 : Cond.fieldLink "TabledOrigin$Table" 67 "TabledOrigin$Table" "answerCount" "I" ∈ zws := zin 59 (by decide +kernel) rfl
theorem k_60 : Cond.fieldLink "TabledOrigin$Table" 24 "TabledOrigin$Table" "made" "I" ∈ zws := zin 60 (by decide +kernel) rfl
theorem k_61 : Cond.fieldLink "TabledOrigin" 107 "TabledOrigin$Table" "made" "I" ∈ zws := zin 61 (by decide +kernel) rfl
theorem k_62 : Cond.fieldLink "TabledOrigin$Table" 40 "TabledOrigin$Table" "known" "I" ∈ zws := zin 62 (by decide +kernel) rfl
theorem k_63 : Cond.fieldLink "TabledOrigin" 125 "TabledOrigin$Table" "known" "I" ∈ zws := zin 63 (by decide +kernel) rfl
theorem k_64 : Cond.fieldLink "TabledOrigin$Table" 61 "TabledOrigin$Table" "literals" "I" ∈ zws := zin 64 (by decide +kernel) rfl
theorem k_65 : Cond.fieldLink "TabledOrigin" 193 "TabledOrigin$Table" "literals" "I" ∈ zws := zin 65 (by decide +kernel) rfl
theorem k_66 : Cond.fieldLink "TabledOrigin$Table" 101 "TabledOrigin$Table" "references" "I" ∈ zws := zin 66 (by decide +kernel) rfl
theorem k_67 : Cond.fieldLink "TabledOrigin" 196 "TabledOrigin$Table" "references" "I" ∈ zws := zin 67 (by decide +kernel) rfl
theorem k_68 : Cond.laysFinal "TabledOrigin$Table" "TabledOrigin$Table" "names" "[I" ∈ zws := zin 68 (by decide +kernel) rfl
theorem k_70 : Cond.laysFinal "TabledOrigin$Table" "TabledOrigin$Table" "values" "[I" ∈ zws := zin 70 (by decide +kernel) rfl
theorem k_72 : Cond.laysFinal "TabledOrigin$Table" "TabledOrigin$Table" "answers" "[LTabledOrigin$Answer;" ∈ zws := zin 72 (by decide +kernel) rfl
theorem k_74 : Cond.lays "TabledOrigin$Table" "TabledOrigin$Table" "answerCount" "I" ∈ zws := zin 74 (by decide +kernel) rfl
theorem k_76 : Cond.lays "TabledOrigin$Table" "TabledOrigin$Table" "made" "I" ∈ zws := zin 76 (by decide +kernel) rfl
theorem k_78 : Cond.lays "TabledOrigin$Table" "TabledOrigin$Table" "known" "I" ∈ zws := zin 78 (by decide +kernel) rfl
theorem k_80 : Cond.lays "TabledOrigin$Table" "TabledOrigin$Table" "literals" "I" ∈ zws := zin 80 (by decide +kernel) rfl
theorem k_82 : Cond.lays "TabledOrigin$Table" "TabledOrigin$Table" "references" "I" ∈ zws := zin 82 (by decide +kernel) rfl
theorem k_85 : Cond.arrayClass .int ∈ zws := zin 85 (by decide +kernel) rfl
theorem k_86 : Cond.fieldLink "TabledOrigin$Server" 11 "TabledOrigin$Server" "resources" "[LTabledOrigin$Resource;" ∈ zws := zin 86 (by decide +kernel) rfl
theorem k_87 : Cond.fieldLink "TabledOrigin$Server" 21 "TabledOrigin$Server" "table" "LTabledOrigin$Table;" ∈ zws := zin 87 (by decide +kernel) rfl
theorem k_88 : Cond.fieldLink "TabledOrigin" 103 "TabledOrigin$Server" "table" "LTabledOrigin$Table;" ∈ zws := zin 88 (by decide +kernel) rfl
theorem k_89 : Cond.fieldLink "TabledOrigin$Server" 25 "TabledOrigin$Server" "newestTag" "I" ∈ zws := zin 89 (by decide +kernel) rfl
theorem k_90 : Cond.fieldLink "TabledOrigin$Server" 60 "TabledOrigin$Server" "answeredEnd" "I" ∈ zws := zin 90 (by decide +kernel) rfl
theorem k_91 : Cond.fieldLink "TabledOrigin$Server" 51 "TabledOrigin$Server" "limitAnnounced" "Z" ∈ zws := zin 91 (by decide +kernel) rfl
theorem k_92 : Cond.fieldLink "TabledOrigin" 145 "TabledOrigin$Server" "limitAnnounced" "Z" ∈ zws := zin 92 (by decide +kernel) rfl
theorem k_93 : Cond.fieldLink "TabledOrigin$Server" 57 "TabledOrigin$Server" "limit" "I" ∈ zws := zin 93 (by decide +kernel) rfl
theorem k_94 : Cond.fieldLink "TabledOrigin" 142 "TabledOrigin$Server" "limit" "I" ∈ zws := zin 94 (by decide +kernel) rfl
theorem k_95 : Cond.laysFinal "TabledOrigin$Server" "TabledOrigin$Server" "resources" "[LTabledOrigin$Resource;" ∈ zws := zin 95 (by decide +kernel) rfl
theorem k_97 : Cond.laysFinal "TabledOrigin$Server" "TabledOrigin$Server" "table" "LTabledOrigin$Table;" ∈ zws := zin 97 (by decide +kernel) rfl
theorem k_99 : Cond.lays "TabledOrigin$Server" "TabledOrigin$Server" "newestTag" "I" ∈ zws := zin 99 (by decide +kernel) rfl
theorem k_101 : Cond.lays "TabledOrigin$Server" "TabledOrigin$Server" "answeredEnd" "I" ∈ zws := zin 101 (by decide +kernel) rfl
theorem k_103 : Cond.lays "TabledOrigin$Server" "TabledOrigin$Server" "limitAnnounced" "Z" ∈ zws := zin 103 (by decide +kernel) rfl
theorem k_105 : Cond.lays "TabledOrigin$Server" "TabledOrigin$Server" "limit" "I" ∈ zws := zin 105 (by decide +kernel) rfl
theorem k_108 : Cond.classLink "TabledOrigin" 16 "TabledOrigin$Client" ∈ zws := zin 108 (by decide +kernel) rfl
theorem k_109 : Cond.instantiable "TabledOrigin$Client" 4 ∈ zws := zin 109 (by decide +kernel) rfl
theorem k_110 : Cond.methodLink "TabledOrigin" 18 ⟨"TabledOrigin$Client", "<init>", "()V"⟩ ∈ zws := zin 110 (by decide +kernel) rfl
theorem k_111 : Cond.instanceMethod ⟨"TabledOrigin$Client", "<init>", "()V"⟩ ∈ zws := zin 111 (by decide +kernel) rfl
set_option maxRecDepth 20000 in
theorem k_112 : Cond.code ⟨"TabledOrigin$Client", "<init>", "()V"⟩ prog_3_method_1_code 2 none ∈ zws := zin 112 (by rfl) rfl
theorem k_113 : Cond.methodLink "TabledOrigin$Client" 3 ⟨"java/lang/Object", "<init>", "()V"⟩ ∈ zws := zin 113 (by decide +kernel) rfl
theorem k_114 : Cond.classLink "TabledOrigin$Client" 9 "TabledOrigin$StoredAnswer" ∈ zws := zin 114 (by decide +kernel) rfl
theorem k_116 : Cond.instantiable "TabledOrigin$StoredAnswer" 6 ∈ zws := zin 116 (by decide +kernel) rfl
theorem k_118 : Cond.instanceMethod ⟨"TabledOrigin$StoredAnswer", "<init>", "()V"⟩ ∈ zws := zin 118 (by decide +kernel) rfl
set_option maxRecDepth 20000 in
theorem k_119 : Cond.code ⟨"TabledOrigin$StoredAnswer", "<init>", "()V"⟩ prog_8_method_1_code 1 none ∈ zws := zin 119 (by rfl) rfl
theorem k_120 : Cond.methodLink "TabledOrigin$StoredAnswer" 1 ⟨"java/lang/Object", "<init>", "()V"⟩ ∈ zws := zin 120 (by decide +kernel) rfl
theorem k_121 : Cond.fieldLink "TabledOrigin$StoredAnswer" 7 "TabledOrigin$StoredAnswer" "there" "Z" ∈ zws := zin 121 (by decide +kernel) rfl
theorem k_122 : Cond.fieldLink "TabledOrigin$Client" 45 "TabledOrigin$StoredAnswer" "there" "Z" ∈ zws := zin 122 (by decide +kernel) rfl
theorem k_123 : Cond.fieldLink "TabledOrigin" 168 "TabledOrigin$StoredAnswer" "there" "Z" ∈ zws := zin 123 (by decide +kernel) rfl
theorem k_124 : Cond.fieldLink "TabledOrigin$Client" 48 "TabledOrigin$StoredAnswer" "tag" "I" ∈ zws := zin 124 (by decide +kernel) rfl
theorem k_125 : Cond.fieldLink "TabledOrigin" 171 "TabledOrigin$StoredAnswer" "tag" "I" ∈ zws := zin 125 (by decide +kernel) rfl
theorem k_126 : Cond.fieldLink "TabledOrigin$Client" 28 "TabledOrigin$StoredAnswer" "content" "I" ∈ zws := zin 126 (by decide +kernel) rfl
theorem k_127 : Cond.fieldLink "TabledOrigin" 172 "TabledOrigin$StoredAnswer" "content" "I" ∈ zws := zin 127 (by decide +kernel) rfl
theorem k_128 : Cond.fieldLink "TabledOrigin$StoredAnswer" 17 "TabledOrigin$StoredAnswer" "lifetime" "I" ∈ zws := zin 128 (by decide +kernel) rfl
theorem k_129 : Cond.fieldLink "TabledOrigin$Client" 99 "TabledOrigin$StoredAnswer" "lifetime" "I" ∈ zws := zin 129 (by decide +kernel) rfl
theorem k_130 : Cond.fieldLink "TabledOrigin$StoredAnswer" 13 "TabledOrigin$StoredAnswer" "since" "I" ∈ zws := zin 130 (by decide +kernel) rfl
theorem k_131 : Cond.fieldLink "TabledOrigin$Client" 100 "TabledOrigin$StoredAnswer" "since" "I" ∈ zws := zin 131 (by decide +kernel) rfl
theorem k_132 : Cond.fieldLink "TabledOrigin$StoredAnswer" 24 "TabledOrigin$StoredAnswer" "request" "I" ∈ zws := zin 132 (by decide +kernel) rfl
theorem k_133 : Cond.fieldLink "TabledOrigin$Client" 92 "TabledOrigin$StoredAnswer" "request" "I" ∈ zws := zin 133 (by decide +kernel) rfl
theorem k_134 : Cond.fieldLink "TabledOrigin" 175 "TabledOrigin$StoredAnswer" "request" "I" ∈ zws := zin 134 (by decide +kernel) rfl
theorem k_135 : Cond.lays "TabledOrigin$StoredAnswer" "TabledOrigin$StoredAnswer" "there" "Z" ∈ zws := zin 135 (by decide +kernel) rfl
theorem k_137 : Cond.lays "TabledOrigin$StoredAnswer" "TabledOrigin$StoredAnswer" "tag" "I" ∈ zws := zin 137 (by decide +kernel) rfl
theorem k_139 : Cond.lays "TabledOrigin$StoredAnswer" "TabledOrigin$StoredAnswer" "content" "I" ∈ zws := zin 139 (by decide +kernel) rfl
theorem k_141 : Cond.lays "TabledOrigin$StoredAnswer" "TabledOrigin$StoredAnswer" "lifetime" "I" ∈ zws := zin 141 (by decide +kernel) rfl
theorem k_143 : Cond.lays "TabledOrigin$StoredAnswer" "TabledOrigin$StoredAnswer" "since" "I" ∈ zws := zin 143 (by decide +kernel) rfl
theorem k_145 : Cond.lays "TabledOrigin$StoredAnswer" "TabledOrigin$StoredAnswer" "request" "I" ∈ zws := zin 145 (by decide +kernel) rfl
theorem k_148 : Cond.fieldLink "TabledOrigin$Client" 11 "TabledOrigin$Client" "storedAnswers" "[LTabledOrigin$StoredAnswer;" ∈ zws := zin 148 (by decide +kernel) rfl
theorem k_149 : Cond.fieldLink "TabledOrigin$Client" 60 "TabledOrigin$Client" "instructionsCome" "I" ∈ zws := zin 149 (by decide +kernel) rfl
theorem k_150 : Cond.fieldLink "TabledOrigin" 100 "TabledOrigin$Client" "instructionsCome" "I" ∈ zws := zin 150 (by decide +kernel) rfl
theorem k_151 : Cond.fieldLink "TabledOrigin$Client" 108 "TabledOrigin$Client" "told" "I" ∈ zws := zin 151 (by decide +kernel) rfl
theorem k_152 : Cond.fieldLink "TabledOrigin" 132 "TabledOrigin$Client" "told" "I" ∈ zws := zin 152 (by decide +kernel) rfl
theorem k_153 : Cond.fieldLink "TabledOrigin$Client" 36 "TabledOrigin$Client" "noticeTaken" "Z" ∈ zws := zin 153 (by decide +kernel) rfl
theorem k_154 : Cond.fieldLink "TabledOrigin" 148 "TabledOrigin$Client" "noticeTaken" "Z" ∈ zws := zin 154 (by decide +kernel) rfl
theorem k_155 : Cond.laysFinal "TabledOrigin$Client" "TabledOrigin$Client" "storedAnswers" "[LTabledOrigin$StoredAnswer;" ∈ zws := zin 155 (by decide +kernel) rfl
theorem k_157 : Cond.lays "TabledOrigin$Client" "TabledOrigin$Client" "instructionsCome" "I" ∈ zws := zin 157 (by decide +kernel) rfl
theorem k_159 : Cond.lays "TabledOrigin$Client" "TabledOrigin$Client" "told" "I" ∈ zws := zin 159 (by decide +kernel) rfl
theorem k_161 : Cond.lays "TabledOrigin$Client" "TabledOrigin$Client" "noticeTaken" "Z" ∈ zws := zin 161 (by decide +kernel) rfl
theorem k_164 : Cond.classLink "TabledOrigin" 23 "TabledOrigin$FeedbackRoad" ∈ zws := zin 164 (by decide +kernel) rfl
theorem k_165 : Cond.instantiable "TabledOrigin$FeedbackRoad" 4 ∈ zws := zin 165 (by decide +kernel) rfl
theorem k_166 : Cond.methodLink "TabledOrigin" 25 ⟨"TabledOrigin$FeedbackRoad", "<init>", "()V"⟩ ∈ zws := zin 166 (by decide +kernel) rfl
theorem k_167 : Cond.instanceMethod ⟨"TabledOrigin$FeedbackRoad", "<init>", "()V"⟩ ∈ zws := zin 167 (by decide +kernel) rfl
set_option maxRecDepth 20000 in
theorem k_168 : Cond.code ⟨"TabledOrigin$FeedbackRoad", "<init>", "()V"⟩ prog_4_method_1_code 1 none ∈ zws := zin 168 (by rfl) rfl
theorem k_169 : Cond.methodLink "TabledOrigin$FeedbackRoad" 3 ⟨"java/lang/Object", "<init>", "()V"⟩ ∈ zws := zin 169 (by decide +kernel) rfl
theorem k_170 : Cond.fieldLink "TabledOrigin$FeedbackRoad" 9 "TabledOrigin$FeedbackRoad" "kinds" "[I" ∈ zws := zin 170 (by decide +kernel) rfl
theorem k_171 : Cond.fieldLink "TabledOrigin$FeedbackRoad" 15 "TabledOrigin$FeedbackRoad" "numbers" "[I" ∈ zws := zin 171 (by decide +kernel) rfl
theorem k_172 : Cond.fieldLink "TabledOrigin$FeedbackRoad" 18 "TabledOrigin$FeedbackRoad" "length" "I" ∈ zws := zin 172 (by decide +kernel) rfl
theorem k_173 : Cond.fieldLink "TabledOrigin$FeedbackRoad" 22 "TabledOrigin$FeedbackRoad" "taken" "I" ∈ zws := zin 173 (by decide +kernel) rfl
theorem k_174 : Cond.laysFinal "TabledOrigin$FeedbackRoad" "TabledOrigin$FeedbackRoad" "kinds" "[I" ∈ zws := zin 174 (by decide +kernel) rfl
theorem k_176 : Cond.laysFinal "TabledOrigin$FeedbackRoad" "TabledOrigin$FeedbackRoad" "numbers" "[I" ∈ zws := zin 176 (by decide +kernel) rfl
theorem k_178 : Cond.lays "TabledOrigin$FeedbackRoad" "TabledOrigin$FeedbackRoad" "length" "I" ∈ zws := zin 178 (by decide +kernel) rfl
theorem k_180 : Cond.lays "TabledOrigin$FeedbackRoad" "TabledOrigin$FeedbackRoad" "taken" "I" ∈ zws := zin 180 (by decide +kernel) rfl
theorem k_183 : Cond.classLink "TabledOrigin" 30 "TabledOrigin$Request" ∈ zws := zin 183 (by decide +kernel) rfl
theorem k_185 : Cond.fieldLink "TabledOrigin" 12 "TabledOrigin" "server" "LTabledOrigin$Server;" ∈ zws := zin 185 (by decide +kernel) rfl
theorem k_186 : Cond.fieldLink "TabledOrigin" 19 "TabledOrigin" "client" "LTabledOrigin$Client;" ∈ zws := zin 186 (by decide +kernel) rfl
theorem k_187 : Cond.fieldLink "TabledOrigin" 26 "TabledOrigin" "feedbackRoad" "LTabledOrigin$FeedbackRoad;" ∈ zws := zin 187 (by decide +kernel) rfl
theorem k_188 : Cond.fieldLink "TabledOrigin" 32 "TabledOrigin" "requests" "[LTabledOrigin$Request;" ∈ zws := zin 188 (by decide +kernel) rfl
theorem k_189 : Cond.fieldLink "TabledOrigin" 36 "TabledOrigin" "requestCount" "I" ∈ zws := zin 189 (by decide +kernel) rfl
theorem k_190 : Cond.fieldLink "TabledOrigin" 40 "TabledOrigin" "clock" "I" ∈ zws := zin 190 (by decide +kernel) rfl
theorem k_191 : Cond.laysFinal "TabledOrigin" "TabledOrigin" "server" "LTabledOrigin$Server;" ∈ zws := zin 191 (by decide +kernel) rfl
theorem k_193 : Cond.laysFinal "TabledOrigin" "TabledOrigin" "client" "LTabledOrigin$Client;" ∈ zws := zin 193 (by decide +kernel) rfl
theorem k_195 : Cond.laysFinal "TabledOrigin" "TabledOrigin" "feedbackRoad" "LTabledOrigin$FeedbackRoad;" ∈ zws := zin 195 (by decide +kernel) rfl
theorem k_197 : Cond.laysFinal "TabledOrigin" "TabledOrigin" "requests" "[LTabledOrigin$Request;" ∈ zws := zin 197 (by decide +kernel) rfl
theorem k_199 : Cond.lays "TabledOrigin" "TabledOrigin" "requestCount" "I" ∈ zws := zin 199 (by decide +kernel) rfl
theorem k_201 : Cond.lays "TabledOrigin" "TabledOrigin" "clock" "I" ∈ zws := zin 201 (by decide +kernel) rfl
theorem k_205 : Cond.instanceMethod ⟨"TabledOrigin", "put", "(III)I"⟩ ∈ zws := zin 205 (by decide +kernel) rfl
theorem k_206 : Cond.selects "TabledOrigin" ⟨"TabledOrigin", "put", "(III)I"⟩ ⟨"TabledOrigin", "put", "(III)I"⟩ ∈ zws := zin 206 (by decide +kernel) rfl
set_option maxRecDepth 20000 in
theorem k_207 : Cond.code ⟨"TabledOrigin", "put", "(III)I"⟩ prog_1_method_2_code 5 (some .int) ∈ zws := zin 207 (by rfl) rfl
theorem k_208 : Cond.methodLink "TabledOrigin" 43 ⟨"TabledOrigin$Server", "resourceAt", "(I)LTabledOrigin$Resource;"⟩ ∈ zws := zin 208 (by decide +kernel) rfl
theorem k_209 : Cond.instanceMethod ⟨"TabledOrigin$Server", "resourceAt", "(I)LTabledOrigin$Resource;"⟩ ∈ zws := zin 209 (by decide +kernel) rfl
theorem k_210 : Cond.selects "TabledOrigin$Server" ⟨"TabledOrigin$Server", "resourceAt", "(I)LTabledOrigin$Resource;"⟩ ⟨"TabledOrigin$Server", "resourceAt", "(I)LTabledOrigin$Resource;"⟩ ∈ zws := zin 210 (by decide +kernel) rfl
set_option maxRecDepth 20000 in
theorem k_211 : Cond.code ⟨"TabledOrigin$Server", "resourceAt", "(I)LTabledOrigin$Resource;"⟩ prog_7_method_2_code 2 (some (.object "TabledOrigin$Resource")) ∈ zws := zin 211 (by rfl) rfl
theorem k_212 : Cond.methodLink "TabledOrigin" 47 ⟨"TabledOrigin", "isLifetime", "(I)Z"⟩ ∈ zws := zin 212 (by decide +kernel) rfl
theorem k_213 : Cond.static ⟨"TabledOrigin", "isLifetime", "(I)Z"⟩ ∈ zws := zin 213 (by decide +kernel) rfl
set_option maxRecDepth 20000 in
theorem k_214 : Cond.code ⟨"TabledOrigin", "isLifetime", "(I)Z"⟩ prog_1_method_20_code 1 (some .boolean) ∈ zws := zin 214 (by rfl) rfl
theorem k_215 : Cond.methodLink "TabledOrigin" 51 ⟨"TabledOrigin$Server", "write", "(LTabledOrigin$Resource;II)V"⟩ ∈ zws := zin 215 (by decide +kernel) rfl
theorem k_216 : Cond.instanceMethod ⟨"TabledOrigin$Server", "write", "(LTabledOrigin$Resource;II)V"⟩ ∈ zws := zin 216 (by decide +kernel) rfl
theorem k_217 : Cond.selects "TabledOrigin$Server" ⟨"TabledOrigin$Server", "write", "(LTabledOrigin$Resource;II)V"⟩ ⟨"TabledOrigin$Server", "write", "(LTabledOrigin$Resource;II)V"⟩ ∈ zws := zin 217 (by decide +kernel) rfl
set_option maxRecDepth 20000 in
theorem k_218 : Cond.code ⟨"TabledOrigin$Server", "write", "(LTabledOrigin$Resource;II)V"⟩ prog_7_method_3_code 4 none ∈ zws := zin 218 (by rfl) rfl
theorem k_220 : Cond.instanceMethod ⟨"TabledOrigin", "drop", "(I)Z"⟩ ∈ zws := zin 220 (by decide +kernel) rfl
theorem k_221 : Cond.selects "TabledOrigin" ⟨"TabledOrigin", "drop", "(I)Z"⟩ ⟨"TabledOrigin", "drop", "(I)Z"⟩ ∈ zws := zin 221 (by decide +kernel) rfl
set_option maxRecDepth 20000 in
theorem k_222 : Cond.code ⟨"TabledOrigin", "drop", "(I)Z"⟩ prog_1_method_3_code 3 (some .boolean) ∈ zws := zin 222 (by rfl) rfl
theorem k_224 : Cond.instanceMethod ⟨"TabledOrigin", "get", "(I)I"⟩ ∈ zws := zin 224 (by decide +kernel) rfl
theorem k_225 : Cond.selects "TabledOrigin" ⟨"TabledOrigin", "get", "(I)I"⟩ ⟨"TabledOrigin", "get", "(I)I"⟩ ∈ zws := zin 225 (by decide +kernel) rfl
set_option maxRecDepth 20000 in
theorem k_226 : Cond.code ⟨"TabledOrigin", "get", "(I)I"⟩ prog_1_method_4_code 2 (some .int) ∈ zws := zin 226 (by rfl) rfl
theorem k_227 : Cond.methodLink "TabledOrigin" 64 ⟨"TabledOrigin", "makeRequest", "(IZII)I"⟩ ∈ zws := zin 227 (by decide +kernel) rfl
theorem k_229 : Cond.instanceMethod ⟨"TabledOrigin", "makeRequest", "(IZII)I"⟩ ∈ zws := zin 229 (by decide +kernel) rfl
set_option maxRecDepth 20000 in
theorem k_230 : Cond.code ⟨"TabledOrigin", "makeRequest", "(IZII)I"⟩ prog_1_method_22_code 7 (some .int) ∈ zws := zin 230 (by rfl) rfl
theorem k_231 : Cond.methodLink "TabledOrigin" 164 ⟨"TabledOrigin$Client", "storedAt", "(I)LTabledOrigin$StoredAnswer;"⟩ ∈ zws := zin 231 (by decide +kernel) rfl
theorem k_232 : Cond.instanceMethod ⟨"TabledOrigin$Client", "storedAt", "(I)LTabledOrigin$StoredAnswer;"⟩ ∈ zws := zin 232 (by decide +kernel) rfl
theorem k_233 : Cond.selects "TabledOrigin$Client" ⟨"TabledOrigin$Client", "storedAt", "(I)LTabledOrigin$StoredAnswer;"⟩ ⟨"TabledOrigin$Client", "storedAt", "(I)LTabledOrigin$StoredAnswer;"⟩ ∈ zws := zin 233 (by decide +kernel) rfl
set_option maxRecDepth 20000 in
theorem k_234 : Cond.code ⟨"TabledOrigin$Client", "storedAt", "(I)LTabledOrigin$StoredAnswer;"⟩ prog_3_method_2_code 2 (some (.object "TabledOrigin$StoredAnswer")) ∈ zws := zin 234 (by rfl) rfl
theorem k_235 : Cond.instantiable "TabledOrigin$Request" 12 ∈ zws := zin 235 (by decide +kernel) rfl
theorem k_236 : Cond.methodLink "TabledOrigin" 208 ⟨"TabledOrigin$Request", "<init>", "(IIZII)V"⟩ ∈ zws := zin 236 (by decide +kernel) rfl
theorem k_237 : Cond.instanceMethod ⟨"TabledOrigin$Request", "<init>", "(IIZII)V"⟩ ∈ zws := zin 237 (by decide +kernel) rfl
set_option maxRecDepth 20000 in
theorem k_238 : Cond.code ⟨"TabledOrigin$Request", "<init>", "(IIZII)V"⟩ prog_5_method_1_code 6 none ∈ zws := zin 238 (by rfl) rfl
theorem k_239 : Cond.methodLink "TabledOrigin$Request" 3 ⟨"java/lang/Object", "<init>", "()V"⟩ ∈ zws := zin 239 (by decide +kernel) rfl
theorem k_240 : Cond.fieldLink "TabledOrigin$Request" 9 "TabledOrigin$Request" "number" "I" ∈ zws := zin 240 (by decide +kernel) rfl
theorem k_241 : Cond.fieldLink "TabledOrigin$Server" 54 "TabledOrigin$Request" "number" "I" ∈ zws := zin 241 (by decide +kernel) rfl
theorem k_242 : Cond.fieldLink "TabledOrigin$Client" 73 "TabledOrigin$Request" "number" "I" ∈ zws := zin 242 (by decide +kernel) rfl
theorem k_243 : Cond.fieldLink "TabledOrigin" 158 "TabledOrigin$Request" "number" "I" ∈ zws := zin 243 (by decide +kernel) rfl
theorem k_244 : Cond.fieldLink "TabledOrigin$Request" 15 "TabledOrigin$Request" "resource" "I" ∈ zws := zin 244 (by decide +kernel) rfl
theorem k_245 : Cond.fieldLink "TabledOrigin$Server" 42 "TabledOrigin$Request" "resource" "I" ∈ zws := zin 245 (by decide +kernel) rfl
theorem k_246 : Cond.fieldLink "TabledOrigin$Client" 63 "TabledOrigin$Request" "resource" "I" ∈ zws := zin 246 (by decide +kernel) rfl
theorem k_247 : Cond.fieldLink "TabledOrigin$Request" 18 "TabledOrigin$Request" "isPut" "Z" ∈ zws := zin 247 (by decide +kernel) rfl
theorem k_248 : Cond.fieldLink "TabledOrigin$Client" 18 "TabledOrigin$Request" "isPut" "Z" ∈ zws := zin 248 (by decide +kernel) rfl
theorem k_249 : Cond.fieldLink "TabledOrigin$Server" 69 "TabledOrigin$Request" "isPut" "Z" ∈ zws := zin 249 (by decide +kernel) rfl
theorem k_250 : Cond.fieldLink "TabledOrigin$Request" 22 "TabledOrigin$Request" "content" "I" ∈ zws := zin 250 (by decide +kernel) rfl
theorem k_251 : Cond.fieldLink "TabledOrigin$Server" 103 "TabledOrigin$Request" "content" "I" ∈ zws := zin 251 (by decide +kernel) rfl
theorem k_252 : Cond.fieldLink "TabledOrigin$Request" 25 "TabledOrigin$Request" "lifetime" "I" ∈ zws := zin 252 (by decide +kernel) rfl
theorem k_253 : Cond.fieldLink "TabledOrigin$Server" 104 "TabledOrigin$Request" "lifetime" "I" ∈ zws := zin 253 (by decide +kernel) rfl
theorem k_254 : Cond.fieldLink "TabledOrigin$Request" 28 "TabledOrigin$Request" "tag" "I" ∈ zws := zin 254 (by decide +kernel) rfl
theorem k_255 : Cond.fieldLink "TabledOrigin$Client" 51 "TabledOrigin$Request" "tag" "I" ∈ zws := zin 255 (by decide +kernel) rfl
theorem k_256 : Cond.fieldLink "TabledOrigin$Server" 95 "TabledOrigin$Request" "tag" "I" ∈ zws := zin 256 (by decide +kernel) rfl
theorem k_257 : Cond.fieldLink "TabledOrigin$Client" 39 "TabledOrigin$Request" "sent" "I" ∈ zws := zin 257 (by decide +kernel) rfl
theorem k_258 : Cond.fieldLink "TabledOrigin$Client" 52 "TabledOrigin$Request" "keptContent" "I" ∈ zws := zin 258 (by decide +kernel) rfl
theorem k_259 : Cond.fieldLink "TabledOrigin$Client" 42 "TabledOrigin$Request" "underWay" "Z" ∈ zws := zin 259 (by decide +kernel) rfl
theorem k_260 : Cond.fieldLink "TabledOrigin" 72 "TabledOrigin$Request" "underWay" "Z" ∈ zws := zin 260 (by decide +kernel) rfl
theorem k_261 : Cond.fieldLink "TabledOrigin$Request" 31 "TabledOrigin$Request" "outcome" "I" ∈ zws := zin 261 (by decide +kernel) rfl
theorem k_262 : Cond.fieldLink "TabledOrigin" 97 "TabledOrigin$Request" "outcome" "I" ∈ zws := zin 262 (by decide +kernel) rfl
theorem k_263 : Cond.fieldLink "TabledOrigin$Request" 34 "TabledOrigin$Request" "outcomeContent" "I" ∈ zws := zin 263 (by decide +kernel) rfl
theorem k_264 : Cond.fieldLink "TabledOrigin" 161 "TabledOrigin$Request" "outcomeContent" "I" ∈ zws := zin 264 (by decide +kernel) rfl
theorem k_265 : Cond.fieldLink "TabledOrigin$Server" 83 "TabledOrigin$Request" "answer" "LTabledOrigin$Answer;" ∈ zws := zin 265 (by decide +kernel) rfl
theorem k_266 : Cond.fieldLink "TabledOrigin" 79 "TabledOrigin$Request" "answer" "LTabledOrigin$Answer;" ∈ zws := zin 266 (by decide +kernel) rfl
theorem k_267 : Cond.laysFinal "TabledOrigin$Request" "TabledOrigin$Request" "number" "I" ∈ zws := zin 267 (by decide +kernel) rfl
theorem k_269 : Cond.laysFinal "TabledOrigin$Request" "TabledOrigin$Request" "resource" "I" ∈ zws := zin 269 (by decide +kernel) rfl
theorem k_271 : Cond.laysFinal "TabledOrigin$Request" "TabledOrigin$Request" "isPut" "Z" ∈ zws := zin 271 (by decide +kernel) rfl
theorem k_273 : Cond.laysFinal "TabledOrigin$Request" "TabledOrigin$Request" "content" "I" ∈ zws := zin 273 (by decide +kernel) rfl
theorem k_275 : Cond.laysFinal "TabledOrigin$Request" "TabledOrigin$Request" "lifetime" "I" ∈ zws := zin 275 (by decide +kernel) rfl
theorem k_277 : Cond.lays "TabledOrigin$Request" "TabledOrigin$Request" "tag" "I" ∈ zws := zin 277 (by decide +kernel) rfl
theorem k_279 : Cond.lays "TabledOrigin$Request" "TabledOrigin$Request" "sent" "I" ∈ zws := zin 279 (by decide +kernel) rfl
theorem k_281 : Cond.lays "TabledOrigin$Request" "TabledOrigin$Request" "keptContent" "I" ∈ zws := zin 281 (by decide +kernel) rfl
theorem k_283 : Cond.lays "TabledOrigin$Request" "TabledOrigin$Request" "underWay" "Z" ∈ zws := zin 283 (by decide +kernel) rfl
theorem k_285 : Cond.lays "TabledOrigin$Request" "TabledOrigin$Request" "outcome" "I" ∈ zws := zin 285 (by decide +kernel) rfl
theorem k_287 : Cond.lays "TabledOrigin$Request" "TabledOrigin$Request" "outcomeContent" "I" ∈ zws := zin 287 (by decide +kernel) rfl
theorem k_289 : Cond.lays "TabledOrigin$Request" "TabledOrigin$Request" "answer" "LTabledOrigin$Answer;" ∈ zws := zin 289 (by decide +kernel) rfl
theorem k_292 : Cond.methodLink "TabledOrigin" 211 ⟨"TabledOrigin$Client", "begin", "(LTabledOrigin$Request;LTabledOrigin$StoredAnswer;I)V"⟩ ∈ zws := zin 292 (by decide +kernel) rfl
theorem k_293 : Cond.instanceMethod ⟨"TabledOrigin$Client", "begin", "(LTabledOrigin$Request;LTabledOrigin$StoredAnswer;I)V"⟩ ∈ zws := zin 293 (by decide +kernel) rfl
theorem k_294 : Cond.selects "TabledOrigin$Client" ⟨"TabledOrigin$Client", "begin", "(LTabledOrigin$Request;LTabledOrigin$StoredAnswer;I)V"⟩ ⟨"TabledOrigin$Client", "begin", "(LTabledOrigin$Request;LTabledOrigin$StoredAnswer;I)V"⟩ ∈ zws := zin 294 (by decide +kernel) rfl
set_option maxRecDepth 20000 in
theorem k_295 : Cond.code ⟨"TabledOrigin$Client", "begin", "(LTabledOrigin$Request;LTabledOrigin$StoredAnswer;I)V"⟩ prog_3_method_3_code 4 none ∈ zws := zin 295 (by rfl) rfl
theorem k_296 : Cond.methodLink "TabledOrigin$Client" 24 ⟨"TabledOrigin$StoredAnswer", "isFresh", "(I)Z"⟩ ∈ zws := zin 296 (by decide +kernel) rfl
theorem k_297 : Cond.instanceMethod ⟨"TabledOrigin$StoredAnswer", "isFresh", "(I)Z"⟩ ∈ zws := zin 297 (by decide +kernel) rfl
theorem k_298 : Cond.selects "TabledOrigin$StoredAnswer" ⟨"TabledOrigin$StoredAnswer", "isFresh", "(I)Z"⟩ ⟨"TabledOrigin$StoredAnswer", "isFresh", "(I)Z"⟩ ∈ zws := zin 298 (by decide +kernel) rfl
set_option maxRecDepth 20000 in
theorem k_299 : Cond.code ⟨"TabledOrigin$StoredAnswer", "isFresh", "(I)Z"⟩ prog_8_method_2_code 2 (some .boolean) ∈ zws := zin 299 (by rfl) rfl
theorem k_300 : Cond.methodLink "TabledOrigin$Client" 32 ⟨"TabledOrigin$Request", "settle", "(II)V"⟩ ∈ zws := zin 300 (by decide +kernel) rfl
theorem k_301 : Cond.instanceMethod ⟨"TabledOrigin$Request", "settle", "(II)V"⟩ ∈ zws := zin 301 (by decide +kernel) rfl
theorem k_302 : Cond.selects "TabledOrigin$Request" ⟨"TabledOrigin$Request", "settle", "(II)V"⟩ ⟨"TabledOrigin$Request", "settle", "(II)V"⟩ ∈ zws := zin 302 (by decide +kernel) rfl
set_option maxRecDepth 20000 in
theorem k_303 : Cond.code ⟨"TabledOrigin$Request", "settle", "(II)V"⟩ prog_5_method_2_code 3 none ∈ zws := zin 303 (by rfl) rfl
theorem k_305 : Cond.instanceMethod ⟨"TabledOrigin", "replace", "(III)I"⟩ ∈ zws := zin 305 (by decide +kernel) rfl
theorem k_306 : Cond.selects "TabledOrigin" ⟨"TabledOrigin", "replace", "(III)I"⟩ ⟨"TabledOrigin", "replace", "(III)I"⟩ ∈ zws := zin 306 (by decide +kernel) rfl
set_option maxRecDepth 20000 in
theorem k_307 : Cond.code ⟨"TabledOrigin", "replace", "(III)I"⟩ prog_1_method_5_code 4 (some .int) ∈ zws := zin 307 (by rfl) rfl
theorem k_309 : Cond.instanceMethod ⟨"TabledOrigin", "arrive", "(I)I"⟩ ∈ zws := zin 309 (by decide +kernel) rfl
theorem k_310 : Cond.selects "TabledOrigin" ⟨"TabledOrigin", "arrive", "(I)I"⟩ ⟨"TabledOrigin", "arrive", "(I)I"⟩ ∈ zws := zin 310 (by decide +kernel) rfl
set_option maxRecDepth 20000 in
theorem k_311 : Cond.code ⟨"TabledOrigin", "arrive", "(I)I"⟩ prog_1_method_6_code 3 (some .int) ∈ zws := zin 311 (by rfl) rfl
theorem k_312 : Cond.methodLink "TabledOrigin" 68 ⟨"TabledOrigin", "requestAt", "(I)LTabledOrigin$Request;"⟩ ∈ zws := zin 312 (by decide +kernel) rfl
theorem k_314 : Cond.instanceMethod ⟨"TabledOrigin", "requestAt", "(I)LTabledOrigin$Request;"⟩ ∈ zws := zin 314 (by decide +kernel) rfl
set_option maxRecDepth 20000 in
theorem k_315 : Cond.code ⟨"TabledOrigin", "requestAt", "(I)LTabledOrigin$Request;"⟩ prog_1_method_21_code 2 (some (.object "TabledOrigin$Request")) ∈ zws := zin 315 (by rfl) rfl
theorem k_316 : Cond.methodLink "TabledOrigin" 75 ⟨"TabledOrigin$Server", "takeRequest", "(LTabledOrigin$Request;)I"⟩ ∈ zws := zin 316 (by decide +kernel) rfl
theorem k_317 : Cond.instanceMethod ⟨"TabledOrigin$Server", "takeRequest", "(LTabledOrigin$Request;)I"⟩ ∈ zws := zin 317 (by decide +kernel) rfl
theorem k_318 : Cond.selects "TabledOrigin$Server" ⟨"TabledOrigin$Server", "takeRequest", "(LTabledOrigin$Request;)I"⟩ ⟨"TabledOrigin$Server", "takeRequest", "(LTabledOrigin$Request;)I"⟩ ∈ zws := zin 318 (by decide +kernel) rfl
set_option maxRecDepth 20000 in
theorem k_319 : Cond.code ⟨"TabledOrigin$Server", "takeRequest", "(LTabledOrigin$Request;)I"⟩ prog_7_method_4_code 4 (some .int) ∈ zws := zin 319 (by rfl) rfl
theorem k_320 : Cond.methodLink "TabledOrigin$Server" 47 ⟨"TabledOrigin$Server", "resourceAt", "(I)LTabledOrigin$Resource;"⟩ ∈ zws := zin 320 (by decide +kernel) rfl
theorem k_321 : Cond.methodLink "TabledOrigin$Server" 63 ⟨"java/lang/Math", "max", "(II)I"⟩ ∈ zws := zin 321 (by decide +kernel) rfl
theorem k_322 : Cond.static ⟨"java/lang/Math", "max", "(II)I"⟩ ∈ zws := zin 322 (by decide +kernel) rfl
set_option maxRecDepth 20000 in
theorem k_323 : Cond.code ⟨"java/lang/Math", "max", "(II)I"⟩ prog_12_method_65_code 2 (some .int) ∈ zws := zin 323 (by rfl) rfl
theorem k_324 : Cond.methodLink "TabledOrigin$Server" 72 ⟨"TabledOrigin$Server", "answerPut", "(LTabledOrigin$Request;LTabledOrigin$Resource;)LTabledOrigin$Answer;"⟩ ∈ zws := zin 324 (by decide +kernel) rfl
theorem k_326 : Cond.instanceMethod ⟨"TabledOrigin$Server", "answerPut", "(LTabledOrigin$Request;LTabledOrigin$Resource;)LTabledOrigin$Answer;"⟩ ∈ zws := zin 326 (by decide +kernel) rfl
set_option maxRecDepth 20000 in
theorem k_327 : Cond.code ⟨"TabledOrigin$Server", "answerPut", "(LTabledOrigin$Request;LTabledOrigin$Resource;)LTabledOrigin$Answer;"⟩ prog_7_method_7_code 5 (some (.object "TabledOrigin$Answer")) ∈ zws := zin 327 (by rfl) rfl
theorem k_328 : Cond.classLink "TabledOrigin$Server" 88 "TabledOrigin$Answer" ∈ zws := zin 328 (by decide +kernel) rfl
theorem k_329 : Cond.instantiable "TabledOrigin$Answer" 10 ∈ zws := zin 329 (by decide +kernel) rfl
theorem k_330 : Cond.methodLink "TabledOrigin$Server" 92 ⟨"TabledOrigin$Answer", "<init>", "(I)V"⟩ ∈ zws := zin 330 (by decide +kernel) rfl
theorem k_331 : Cond.instanceMethod ⟨"TabledOrigin$Answer", "<init>", "(I)V"⟩ ∈ zws := zin 331 (by decide +kernel) rfl
set_option maxRecDepth 20000 in
theorem k_332 : Cond.code ⟨"TabledOrigin$Answer", "<init>", "(I)V"⟩ prog_2_method_1_code 2 none ∈ zws := zin 332 (by rfl) rfl
theorem k_333 : Cond.methodLink "TabledOrigin$Answer" 3 ⟨"java/lang/Object", "<init>", "()V"⟩ ∈ zws := zin 333 (by decide +kernel) rfl
theorem k_334 : Cond.fieldLink "TabledOrigin$Answer" 9 "TabledOrigin$Answer" "status" "I" ∈ zws := zin 334 (by decide +kernel) rfl
theorem k_335 : Cond.fieldLink "TabledOrigin$Server" 87 "TabledOrigin$Answer" "status" "I" ∈ zws := zin 335 (by decide +kernel) rfl
theorem k_336 : Cond.fieldLink "TabledOrigin$Client" 70 "TabledOrigin$Answer" "status" "I" ∈ zws := zin 336 (by decide +kernel) rfl
theorem k_337 : Cond.fieldLink "TabledOrigin$Answer" 15 "TabledOrigin$Answer" "referredTo" "[I" ∈ zws := zin 337 (by decide +kernel) rfl
theorem k_338 : Cond.fieldLink "TabledOrigin$Answer" 23 "TabledOrigin$Answer" "referenceCount" "I" ∈ zws := zin 338 (by decide +kernel) rfl
theorem k_339 : Cond.fieldLink "TabledOrigin$Table" 64 "TabledOrigin$Answer" "referenceCount" "I" ∈ zws := zin 339 (by decide +kernel) rfl
theorem k_340 : Cond.fieldLink "TabledOrigin$Answer" 26 "TabledOrigin$Answer" "need" "I" ∈ zws := zin 340 (by decide +kernel) rfl
theorem k_341 : Cond.fieldLink "TabledOrigin$Client" 55 "TabledOrigin$Answer" "need" "I" ∈ zws := zin 341 (by decide +kernel) rfl
theorem k_342 : Cond.fieldLink "TabledOrigin$Table" 37 "TabledOrigin$Answer" "need" "I" ∈ zws := zin 342 (by decide +kernel) rfl
theorem k_343 : Cond.fieldLink "TabledOrigin" 222 "TabledOrigin$Answer" "need" "I" ∈ zws := zin 343 (by decide +kernel) rfl
theorem k_344 : Cond.fieldLink "TabledOrigin$Client" 95 "TabledOrigin$Answer" "tag" "I" ∈ zws := zin 344 (by decide +kernel) rfl
theorem k_345 : Cond.fieldLink "TabledOrigin$Server" 96 "TabledOrigin$Answer" "tag" "I" ∈ zws := zin 345 (by decide +kernel) rfl
theorem k_346 : Cond.fieldLink "TabledOrigin$Client" 96 "TabledOrigin$Answer" "lifetime" "I" ∈ zws := zin 346 (by decide +kernel) rfl
theorem k_347 : Cond.fieldLink "TabledOrigin$Server" 97 "TabledOrigin$Answer" "lifetime" "I" ∈ zws := zin 347 (by decide +kernel) rfl
theorem k_348 : Cond.fieldLink "TabledOrigin$Client" 80 "TabledOrigin$Answer" "content" "I" ∈ zws := zin 348 (by decide +kernel) rfl
theorem k_349 : Cond.fieldLink "TabledOrigin$Server" 102 "TabledOrigin$Answer" "content" "I" ∈ zws := zin 349 (by decide +kernel) rfl
theorem k_350 : Cond.fieldLink "TabledOrigin$Answer" 19 "TabledOrigin$Answer" "underWay" "Z" ∈ zws := zin 350 (by decide +kernel) rfl
theorem k_351 : Cond.fieldLink "TabledOrigin" 83 "TabledOrigin$Answer" "underWay" "Z" ∈ zws := zin 351 (by decide +kernel) rfl
theorem k_352 : Cond.fieldLink "TabledOrigin" 90 "TabledOrigin$Answer" "blocked" "Z" ∈ zws := zin 352 (by decide +kernel) rfl
theorem k_353 : Cond.fieldLink "TabledOrigin$Table" 70 "TabledOrigin$Answer" "outstanding" "Z" ∈ zws := zin 353 (by decide +kernel) rfl
theorem k_354 : Cond.fieldLink "TabledOrigin" 219 "TabledOrigin$Answer" "outstanding" "Z" ∈ zws := zin 354 (by decide +kernel) rfl
theorem k_355 : Cond.laysFinal "TabledOrigin$Answer" "TabledOrigin$Answer" "status" "I" ∈ zws := zin 355 (by decide +kernel) rfl
theorem k_357 : Cond.laysFinal "TabledOrigin$Answer" "TabledOrigin$Answer" "referredTo" "[I" ∈ zws := zin 357 (by decide +kernel) rfl
theorem k_359 : Cond.lays "TabledOrigin$Answer" "TabledOrigin$Answer" "referenceCount" "I" ∈ zws := zin 359 (by decide +kernel) rfl
theorem k_361 : Cond.lays "TabledOrigin$Answer" "TabledOrigin$Answer" "need" "I" ∈ zws := zin 361 (by decide +kernel) rfl
theorem k_363 : Cond.lays "TabledOrigin$Answer" "TabledOrigin$Answer" "tag" "I" ∈ zws := zin 363 (by decide +kernel) rfl
theorem k_365 : Cond.lays "TabledOrigin$Answer" "TabledOrigin$Answer" "lifetime" "I" ∈ zws := zin 365 (by decide +kernel) rfl
theorem k_367 : Cond.lays "TabledOrigin$Answer" "TabledOrigin$Answer" "content" "I" ∈ zws := zin 367 (by decide +kernel) rfl
theorem k_369 : Cond.lays "TabledOrigin$Answer" "TabledOrigin$Answer" "underWay" "Z" ∈ zws := zin 369 (by decide +kernel) rfl
theorem k_371 : Cond.lays "TabledOrigin$Answer" "TabledOrigin$Answer" "blocked" "Z" ∈ zws := zin 371 (by decide +kernel) rfl
theorem k_373 : Cond.lays "TabledOrigin$Answer" "TabledOrigin$Answer" "outstanding" "Z" ∈ zws := zin 373 (by decide +kernel) rfl
theorem k_376 : Cond.methodLink "TabledOrigin$Server" 105 ⟨"TabledOrigin$Server", "write", "(LTabledOrigin$Resource;II)V"⟩ ∈ zws := zin 376 (by decide +kernel) rfl
theorem k_377 : Cond.methodLink "TabledOrigin$Server" 98 ⟨"TabledOrigin$Table", "putDown", "(LTabledOrigin$Answer;II)V"⟩ ∈ zws := zin 377 (by decide +kernel) rfl
theorem k_378 : Cond.instanceMethod ⟨"TabledOrigin$Table", "putDown", "(LTabledOrigin$Answer;II)V"⟩ ∈ zws := zin 378 (by decide +kernel) rfl
theorem k_379 : Cond.selects "TabledOrigin$Table" ⟨"TabledOrigin$Table", "putDown", "(LTabledOrigin$Answer;II)V"⟩ ⟨"TabledOrigin$Table", "putDown", "(LTabledOrigin$Answer;II)V"⟩ ∈ zws := zin 379 (by decide +kernel) rfl
set_option maxRecDepth 20000 in
theorem k_380 : Cond.code ⟨"TabledOrigin$Table", "putDown", "(LTabledOrigin$Answer;II)V"⟩ prog_9_method_5_code 6 none ∈ zws := zin 380 (by rfl) rfl
theorem k_381 : Cond.methodLink "TabledOrigin$Table" 43 ⟨"TabledOrigin$Table", "atRisk", "()I"⟩ ∈ zws := zin 381 (by decide +kernel) rfl
theorem k_382 : Cond.instanceMethod ⟨"TabledOrigin$Table", "atRisk", "()I"⟩ ∈ zws := zin 382 (by decide +kernel) rfl
theorem k_383 : Cond.selects "TabledOrigin$Table" ⟨"TabledOrigin$Table", "atRisk", "()I"⟩ ⟨"TabledOrigin$Table", "atRisk", "()I"⟩ ∈ zws := zin 383 (by decide +kernel) rfl
set_option maxRecDepth 20000 in
theorem k_384 : Cond.code ⟨"TabledOrigin$Table", "atRisk", "()I"⟩ prog_9_method_8_code 1 (some .int) ∈ zws := zin 384 (by rfl) rfl
theorem k_385 : Cond.methodLink "TabledOrigin$Table" 77 ⟨"TabledOrigin$Table", "outstandingNeeding", "(I)I"⟩ ∈ zws := zin 385 (by decide +kernel) rfl
theorem k_386 : Cond.instanceMethod ⟨"TabledOrigin$Table", "outstandingNeeding", "(I)I"⟩ ∈ zws := zin 386 (by decide +kernel) rfl
theorem k_387 : Cond.selects "TabledOrigin$Table" ⟨"TabledOrigin$Table", "outstandingNeeding", "(I)I"⟩ ⟨"TabledOrigin$Table", "outstandingNeeding", "(I)I"⟩ ∈ zws := zin 387 (by decide +kernel) rfl
set_option maxRecDepth 20000 in
theorem k_388 : Cond.code ⟨"TabledOrigin$Table", "outstandingNeeding", "(I)I"⟩ prog_9_method_9_code 5 (some .int) ∈ zws := zin 388 (by rfl) rfl
theorem k_389 : Cond.methodLink "TabledOrigin$Table" 47 ⟨"TabledOrigin$Table", "findLive", "(II)I"⟩ ∈ zws := zin 389 (by decide +kernel) rfl
theorem k_391 : Cond.instanceMethod ⟨"TabledOrigin$Table", "findLive", "(II)I"⟩ ∈ zws := zin 391 (by decide +kernel) rfl
set_option maxRecDepth 20000 in
theorem k_392 : Cond.code ⟨"TabledOrigin$Table", "findLive", "(II)I"⟩ prog_9_method_11_code 5 (some .int) ∈ zws := zin 392 (by rfl) rfl
theorem k_393 : Cond.methodLink "TabledOrigin$Table" 85 ⟨"TabledOrigin$Table", "liveCount", "()I"⟩ ∈ zws := zin 393 (by decide +kernel) rfl
theorem k_394 : Cond.instanceMethod ⟨"TabledOrigin$Table", "liveCount", "()I"⟩ ∈ zws := zin 394 (by decide +kernel) rfl
theorem k_395 : Cond.selects "TabledOrigin$Table" ⟨"TabledOrigin$Table", "liveCount", "()I"⟩ ⟨"TabledOrigin$Table", "liveCount", "()I"⟩ ∈ zws := zin 395 (by decide +kernel) rfl
set_option maxRecDepth 20000 in
theorem k_396 : Cond.code ⟨"TabledOrigin$Table", "liveCount", "()I"⟩ prog_9_method_2_code 1 (some .int) ∈ zws := zin 396 (by rfl) rfl
theorem k_397 : Cond.methodLink "TabledOrigin$Table" 28 ⟨"java/lang/Math", "min", "(II)I"⟩ ∈ zws := zin 397 (by decide +kernel) rfl
theorem k_398 : Cond.static ⟨"java/lang/Math", "min", "(II)I"⟩ ∈ zws := zin 398 (by decide +kernel) rfl
set_option maxRecDepth 20000 in
theorem k_399 : Cond.code ⟨"java/lang/Math", "min", "(II)I"⟩ prog_12_method_69_code 2 (some .int) ∈ zws := zin 399 (by rfl) rfl
theorem k_400 : Cond.methodLink "TabledOrigin$Table" 88 ⟨"TabledOrigin$Table", "nameOf", "(I)I"⟩ ∈ zws := zin 400 (by decide +kernel) rfl
theorem k_401 : Cond.instanceMethod ⟨"TabledOrigin$Table", "nameOf", "(I)I"⟩ ∈ zws := zin 401 (by decide +kernel) rfl
theorem k_402 : Cond.selects "TabledOrigin$Table" ⟨"TabledOrigin$Table", "nameOf", "(I)I"⟩ ⟨"TabledOrigin$Table", "nameOf", "(I)I"⟩ ∈ zws := zin 402 (by decide +kernel) rfl
set_option maxRecDepth 20000 in
theorem k_403 : Cond.code ⟨"TabledOrigin$Table", "nameOf", "(I)I"⟩ prog_9_method_3_code 2 (some .int) ∈ zws := zin 403 (by rfl) rfl
theorem k_404 : Cond.methodLink "TabledOrigin$Table" 34 ⟨"java/lang/Math", "floorMod", "(II)I"⟩ ∈ zws := zin 404 (by decide +kernel) rfl
theorem k_405 : Cond.static ⟨"java/lang/Math", "floorMod", "(II)I"⟩ ∈ zws := zin 405 (by decide +kernel) rfl
set_option maxRecDepth 20000 in
theorem k_406 : Cond.code ⟨"java/lang/Math", "floorMod", "(II)I"⟩ prog_12_method_50_code 3 (some .int) ∈ zws := zin 406 (by rfl) rfl
theorem k_407 : Cond.methodLink "TabledOrigin$Table" 91 ⟨"TabledOrigin$Table", "valueOf", "(I)I"⟩ ∈ zws := zin 407 (by decide +kernel) rfl
theorem k_408 : Cond.instanceMethod ⟨"TabledOrigin$Table", "valueOf", "(I)I"⟩ ∈ zws := zin 408 (by decide +kernel) rfl
theorem k_409 : Cond.selects "TabledOrigin$Table" ⟨"TabledOrigin$Table", "valueOf", "(I)I"⟩ ⟨"TabledOrigin$Table", "valueOf", "(I)I"⟩ ∈ zws := zin 409 (by decide +kernel) rfl
set_option maxRecDepth 20000 in
theorem k_410 : Cond.code ⟨"TabledOrigin$Table", "valueOf", "(I)I"⟩ prog_9_method_4_code 2 (some .int) ∈ zws := zin 410 (by rfl) rfl
theorem k_411 : Cond.methodLink "TabledOrigin$Table" 50 ⟨"TabledOrigin$Table", "refer", "(LTabledOrigin$Answer;I)V"⟩ ∈ zws := zin 411 (by decide +kernel) rfl
theorem k_413 : Cond.instanceMethod ⟨"TabledOrigin$Table", "refer", "(LTabledOrigin$Answer;I)V"⟩ ∈ zws := zin 413 (by decide +kernel) rfl
set_option maxRecDepth 20000 in
theorem k_414 : Cond.code ⟨"TabledOrigin$Table", "refer", "(LTabledOrigin$Answer;I)V"⟩ prog_9_method_14_code 3 none ∈ zws := zin 414 (by rfl) rfl
theorem k_415 : Cond.methodLink "TabledOrigin$Table" 97 ⟨"TabledOrigin$Answer", "addReference", "(I)V"⟩ ∈ zws := zin 415 (by decide +kernel) rfl
theorem k_416 : Cond.instanceMethod ⟨"TabledOrigin$Answer", "addReference", "(I)V"⟩ ∈ zws := zin 416 (by decide +kernel) rfl
theorem k_417 : Cond.selects "TabledOrigin$Answer" ⟨"TabledOrigin$Answer", "addReference", "(I)V"⟩ ⟨"TabledOrigin$Answer", "addReference", "(I)V"⟩ ∈ zws := zin 417 (by decide +kernel) rfl
set_option maxRecDepth 20000 in
theorem k_418 : Cond.code ⟨"TabledOrigin$Answer", "addReference", "(I)V"⟩ prog_2_method_2_code 2 none ∈ zws := zin 418 (by rfl) rfl
theorem k_419 : Cond.methodLink "TabledOrigin$Answer" 29 ⟨"java/lang/Math", "max", "(II)I"⟩ ∈ zws := zin 419 (by decide +kernel) rfl
theorem k_420 : Cond.methodLink "TabledOrigin$Table" 54 ⟨"TabledOrigin$Table", "hasRoomFor", "(LTabledOrigin$Answer;)Z"⟩ ∈ zws := zin 420 (by decide +kernel) rfl
theorem k_422 : Cond.instanceMethod ⟨"TabledOrigin$Table", "hasRoomFor", "(LTabledOrigin$Answer;)Z"⟩ ∈ zws := zin 422 (by decide +kernel) rfl
set_option maxRecDepth 20000 in
theorem k_423 : Cond.code ⟨"TabledOrigin$Table", "hasRoomFor", "(LTabledOrigin$Answer;)Z"⟩ prog_9_method_12_code 3 (some .boolean) ∈ zws := zin 423 (by rfl) rfl
theorem k_424 : Cond.methodLink "TabledOrigin$Table" 94 ⟨"TabledOrigin$Table", "referencesTo", "(I)I"⟩ ∈ zws := zin 424 (by decide +kernel) rfl
theorem k_425 : Cond.instanceMethod ⟨"TabledOrigin$Table", "referencesTo", "(I)I"⟩ ∈ zws := zin 425 (by decide +kernel) rfl
theorem k_426 : Cond.selects "TabledOrigin$Table" ⟨"TabledOrigin$Table", "referencesTo", "(I)I"⟩ ⟨"TabledOrigin$Table", "referencesTo", "(I)I"⟩ ∈ zws := zin 426 (by decide +kernel) rfl
set_option maxRecDepth 20000 in
theorem k_427 : Cond.code ⟨"TabledOrigin$Table", "referencesTo", "(I)I"⟩ prog_9_method_10_code 5 (some .int) ∈ zws := zin 427 (by rfl) rfl
theorem k_428 : Cond.methodLink "TabledOrigin$Table" 81 ⟨"TabledOrigin$Answer", "refersTo", "(I)Z"⟩ ∈ zws := zin 428 (by decide +kernel) rfl
theorem k_429 : Cond.instanceMethod ⟨"TabledOrigin$Answer", "refersTo", "(I)Z"⟩ ∈ zws := zin 429 (by decide +kernel) rfl
theorem k_430 : Cond.selects "TabledOrigin$Answer" ⟨"TabledOrigin$Answer", "refersTo", "(I)Z"⟩ ⟨"TabledOrigin$Answer", "refersTo", "(I)Z"⟩ ∈ zws := zin 430 (by decide +kernel) rfl
set_option maxRecDepth 20000 in
theorem k_431 : Cond.code ⟨"TabledOrigin$Answer", "refersTo", "(I)Z"⟩ prog_2_method_3_code 3 (some .boolean) ∈ zws := zin 431 (by rfl) rfl
theorem k_432 : Cond.methodLink "TabledOrigin$Table" 58 ⟨"TabledOrigin$Table", "makeEntry", "(II)I"⟩ ∈ zws := zin 432 (by decide +kernel) rfl
theorem k_434 : Cond.instanceMethod ⟨"TabledOrigin$Table", "makeEntry", "(II)I"⟩ ∈ zws := zin 434 (by decide +kernel) rfl
set_option maxRecDepth 20000 in
theorem k_435 : Cond.code ⟨"TabledOrigin$Table", "makeEntry", "(II)I"⟩ prog_9_method_13_code 4 (some .int) ∈ zws := zin 435 (by rfl) rfl
theorem k_436 : Cond.methodLink "TabledOrigin$Server" 76 ⟨"TabledOrigin$Server", "answerGet", "(LTabledOrigin$Request;LTabledOrigin$Resource;)LTabledOrigin$Answer;"⟩ ∈ zws := zin 436 (by decide +kernel) rfl
theorem k_438 : Cond.instanceMethod ⟨"TabledOrigin$Server", "answerGet", "(LTabledOrigin$Request;LTabledOrigin$Resource;)LTabledOrigin$Answer;"⟩ ∈ zws := zin 438 (by decide +kernel) rfl
set_option maxRecDepth 20000 in
theorem k_439 : Cond.code ⟨"TabledOrigin$Server", "answerGet", "(LTabledOrigin$Request;LTabledOrigin$Resource;)LTabledOrigin$Answer;"⟩ prog_7_method_6_code 5 (some (.object "TabledOrigin$Answer")) ∈ zws := zin 439 (by rfl) rfl
theorem k_440 : Cond.methodLink "TabledOrigin$Server" 79 ⟨"TabledOrigin$Table", "keepIfReferring", "(LTabledOrigin$Answer;)V"⟩ ∈ zws := zin 440 (by decide +kernel) rfl
theorem k_441 : Cond.instanceMethod ⟨"TabledOrigin$Table", "keepIfReferring", "(LTabledOrigin$Answer;)V"⟩ ∈ zws := zin 441 (by decide +kernel) rfl
theorem k_442 : Cond.selects "TabledOrigin$Table" ⟨"TabledOrigin$Table", "keepIfReferring", "(LTabledOrigin$Answer;)V"⟩ ⟨"TabledOrigin$Table", "keepIfReferring", "(LTabledOrigin$Answer;)V"⟩ ∈ zws := zin 442 (by decide +kernel) rfl
set_option maxRecDepth 20000 in
theorem k_443 : Cond.code ⟨"TabledOrigin$Table", "keepIfReferring", "(LTabledOrigin$Answer;)V"⟩ prog_9_method_6_code 2 none ∈ zws := zin 443 (by rfl) rfl
theorem k_445 : Cond.instanceMethod ⟨"TabledOrigin", "reply", "(I)I"⟩ ∈ zws := zin 445 (by decide +kernel) rfl
theorem k_446 : Cond.selects "TabledOrigin" ⟨"TabledOrigin", "reply", "(I)I"⟩ ⟨"TabledOrigin", "reply", "(I)I"⟩ ∈ zws := zin 446 (by decide +kernel) rfl
set_option maxRecDepth 20000 in
theorem k_447 : Cond.code ⟨"TabledOrigin", "reply", "(I)I"⟩ prog_1_method_7_code 3 (some .int) ∈ zws := zin 447 (by rfl) rfl
theorem k_448 : Cond.methodLink "TabledOrigin" 86 ⟨"TabledOrigin$Client", "mustWaitFor", "(LTabledOrigin$Answer;)Z"⟩ ∈ zws := zin 448 (by decide +kernel) rfl
theorem k_449 : Cond.instanceMethod ⟨"TabledOrigin$Client", "mustWaitFor", "(LTabledOrigin$Answer;)Z"⟩ ∈ zws := zin 449 (by decide +kernel) rfl
theorem k_450 : Cond.selects "TabledOrigin$Client" ⟨"TabledOrigin$Client", "mustWaitFor", "(LTabledOrigin$Answer;)Z"⟩ ⟨"TabledOrigin$Client", "mustWaitFor", "(LTabledOrigin$Answer;)Z"⟩ ∈ zws := zin 450 (by decide +kernel) rfl
set_option maxRecDepth 20000 in
theorem k_451 : Cond.code ⟨"TabledOrigin$Client", "mustWaitFor", "(LTabledOrigin$Answer;)Z"⟩ prog_3_method_4_code 2 (some .boolean) ∈ zws := zin 451 (by rfl) rfl
theorem k_452 : Cond.methodLink "TabledOrigin" 93 ⟨"TabledOrigin$Client", "read", "(LTabledOrigin$Request;LTabledOrigin$Answer;LTabledOrigin$FeedbackRoad;)V"⟩ ∈ zws := zin 452 (by decide +kernel) rfl
theorem k_453 : Cond.instanceMethod ⟨"TabledOrigin$Client", "read", "(LTabledOrigin$Request;LTabledOrigin$Answer;LTabledOrigin$FeedbackRoad;)V"⟩ ∈ zws := zin 453 (by decide +kernel) rfl
theorem k_454 : Cond.selects "TabledOrigin$Client" ⟨"TabledOrigin$Client", "read", "(LTabledOrigin$Request;LTabledOrigin$Answer;LTabledOrigin$FeedbackRoad;)V"⟩ ⟨"TabledOrigin$Client", "read", "(LTabledOrigin$Request;LTabledOrigin$Answer;LTabledOrigin$FeedbackRoad;)V"⟩ ∈ zws := zin 454 (by decide +kernel) rfl
set_option maxRecDepth 20000 in
theorem k_455 : Cond.code ⟨"TabledOrigin$Client", "read", "(LTabledOrigin$Request;LTabledOrigin$Answer;LTabledOrigin$FeedbackRoad;)V"⟩ prog_3_method_5_code 5 none ∈ zws := zin 455 (by rfl) rfl
theorem k_456 : Cond.methodLink "TabledOrigin$Client" 66 ⟨"TabledOrigin$Client", "storedAt", "(I)LTabledOrigin$StoredAnswer;"⟩ ∈ zws := zin 456 (by decide +kernel) rfl
theorem k_457 : Cond.methodLink "TabledOrigin$Client" 76 ⟨"TabledOrigin$StoredAnswer", "forgetIfOlderThan", "(I)V"⟩ ∈ zws := zin 457 (by decide +kernel) rfl
theorem k_458 : Cond.instanceMethod ⟨"TabledOrigin$StoredAnswer", "forgetIfOlderThan", "(I)V"⟩ ∈ zws := zin 458 (by decide +kernel) rfl
theorem k_459 : Cond.selects "TabledOrigin$StoredAnswer" ⟨"TabledOrigin$StoredAnswer", "forgetIfOlderThan", "(I)V"⟩ ⟨"TabledOrigin$StoredAnswer", "forgetIfOlderThan", "(I)V"⟩ ∈ zws := zin 459 (by decide +kernel) rfl
set_option maxRecDepth 20000 in
theorem k_460 : Cond.code ⟨"TabledOrigin$StoredAnswer", "forgetIfOlderThan", "(I)V"⟩ prog_8_method_4_code 2 none ∈ zws := zin 460 (by rfl) rfl
theorem k_461 : Cond.methodLink "TabledOrigin$Client" 81 ⟨"TabledOrigin$Client", "store", "(LTabledOrigin$StoredAnswer;LTabledOrigin$Request;LTabledOrigin$Answer;)V"⟩ ∈ zws := zin 461 (by decide +kernel) rfl
theorem k_463 : Cond.instanceMethod ⟨"TabledOrigin$Client", "store", "(LTabledOrigin$StoredAnswer;LTabledOrigin$Request;LTabledOrigin$Answer;)V"⟩ ∈ zws := zin 463 (by decide +kernel) rfl
set_option maxRecDepth 20000 in
theorem k_464 : Cond.code ⟨"TabledOrigin$Client", "store", "(LTabledOrigin$StoredAnswer;LTabledOrigin$Request;LTabledOrigin$Answer;)V"⟩ prog_3_method_6_code 4 none ∈ zws := zin 464 (by rfl) rfl
theorem k_465 : Cond.methodLink "TabledOrigin$Client" 85 ⟨"TabledOrigin$Client", "renew", "(LTabledOrigin$StoredAnswer;LTabledOrigin$Request;LTabledOrigin$Answer;)V"⟩ ∈ zws := zin 465 (by decide +kernel) rfl
theorem k_467 : Cond.instanceMethod ⟨"TabledOrigin$Client", "renew", "(LTabledOrigin$StoredAnswer;LTabledOrigin$Request;LTabledOrigin$Answer;)V"⟩ ∈ zws := zin 467 (by decide +kernel) rfl
set_option maxRecDepth 20000 in
theorem k_468 : Cond.code ⟨"TabledOrigin$Client", "renew", "(LTabledOrigin$StoredAnswer;LTabledOrigin$Request;LTabledOrigin$Answer;)V"⟩ prog_3_method_7_code 4 none ∈ zws := zin 468 (by rfl) rfl
theorem k_469 : Cond.methodLink "TabledOrigin$Client" 88 ⟨"TabledOrigin$Client", "acknowledge", "(LTabledOrigin$Request;LTabledOrigin$Answer;LTabledOrigin$FeedbackRoad;)V"⟩ ∈ zws := zin 469 (by decide +kernel) rfl
theorem k_471 : Cond.instanceMethod ⟨"TabledOrigin$Client", "acknowledge", "(LTabledOrigin$Request;LTabledOrigin$Answer;LTabledOrigin$FeedbackRoad;)V"⟩ ∈ zws := zin 471 (by decide +kernel) rfl
set_option maxRecDepth 20000 in
theorem k_472 : Cond.code ⟨"TabledOrigin$Client", "acknowledge", "(LTabledOrigin$Request;LTabledOrigin$Answer;LTabledOrigin$FeedbackRoad;)V"⟩ prog_3_method_8_code 4 none ∈ zws := zin 472 (by rfl) rfl
theorem k_473 : Cond.methodLink "TabledOrigin$Client" 103 ⟨"TabledOrigin$FeedbackRoad", "append", "(II)V"⟩ ∈ zws := zin 473 (by decide +kernel) rfl
theorem k_474 : Cond.instanceMethod ⟨"TabledOrigin$FeedbackRoad", "append", "(II)V"⟩ ∈ zws := zin 474 (by decide +kernel) rfl
theorem k_475 : Cond.selects "TabledOrigin$FeedbackRoad" ⟨"TabledOrigin$FeedbackRoad", "append", "(II)V"⟩ ⟨"TabledOrigin$FeedbackRoad", "append", "(II)V"⟩ ∈ zws := zin 475 (by decide +kernel) rfl
set_option maxRecDepth 20000 in
theorem k_476 : Cond.code ⟨"TabledOrigin$FeedbackRoad", "append", "(II)V"⟩ prog_4_method_2_code 3 none ∈ zws := zin 476 (by rfl) rfl
theorem k_477 : Cond.methodLink "TabledOrigin$Client" 111 ⟨"java/lang/Math", "max", "(II)I"⟩ ∈ zws := zin 477 (by decide +kernel) rfl
theorem k_479 : Cond.instanceMethod ⟨"TabledOrigin", "insert", "()I"⟩ ∈ zws := zin 479 (by decide +kernel) rfl
theorem k_480 : Cond.selects "TabledOrigin" ⟨"TabledOrigin", "insert", "()I"⟩ ⟨"TabledOrigin", "insert", "()I"⟩ ∈ zws := zin 480 (by decide +kernel) rfl
set_option maxRecDepth 20000 in
theorem k_481 : Cond.code ⟨"TabledOrigin", "insert", "()I"⟩ prog_1_method_8_code 1 (some .int) ∈ zws := zin 481 (by rfl) rfl
theorem k_482 : Cond.methodLink "TabledOrigin" 112 ⟨"TabledOrigin", "readUnblocked", "()I"⟩ ∈ zws := zin 482 (by decide +kernel) rfl
theorem k_484 : Cond.instanceMethod ⟨"TabledOrigin", "readUnblocked", "()I"⟩ ∈ zws := zin 484 (by decide +kernel) rfl
set_option maxRecDepth 20000 in
theorem k_485 : Cond.code ⟨"TabledOrigin", "readUnblocked", "()I"⟩ prog_1_method_23_code 4 (some .int) ∈ zws := zin 485 (by rfl) rfl
theorem k_486 : Cond.methodLink "TabledOrigin" 215 ⟨"TabledOrigin", "isBlocked", "(LTabledOrigin$Request;)Z"⟩ ∈ zws := zin 486 (by decide +kernel) rfl
theorem k_487 : Cond.static ⟨"TabledOrigin", "isBlocked", "(LTabledOrigin$Request;)Z"⟩ ∈ zws := zin 487 (by decide +kernel) rfl
set_option maxRecDepth 20000 in
theorem k_488 : Cond.code ⟨"TabledOrigin", "isBlocked", "(LTabledOrigin$Request;)Z"⟩ prog_1_method_24_code 1 (some .boolean) ∈ zws := zin 488 (by rfl) rfl
theorem k_490 : Cond.instanceMethod ⟨"TabledOrigin", "feedback", "()I"⟩ ∈ zws := zin 490 (by decide +kernel) rfl
theorem k_491 : Cond.selects "TabledOrigin" ⟨"TabledOrigin", "feedback", "()I"⟩ ⟨"TabledOrigin", "feedback", "()I"⟩ ∈ zws := zin 491 (by decide +kernel) rfl
set_option maxRecDepth 20000 in
theorem k_492 : Cond.code ⟨"TabledOrigin", "feedback", "()I"⟩ prog_1_method_9_code 3 (some .int) ∈ zws := zin 492 (by rfl) rfl
theorem k_493 : Cond.methodLink "TabledOrigin" 116 ⟨"TabledOrigin$FeedbackRoad", "nextKind", "()I"⟩ ∈ zws := zin 493 (by decide +kernel) rfl
theorem k_494 : Cond.instanceMethod ⟨"TabledOrigin$FeedbackRoad", "nextKind", "()I"⟩ ∈ zws := zin 494 (by decide +kernel) rfl
theorem k_495 : Cond.selects "TabledOrigin$FeedbackRoad" ⟨"TabledOrigin$FeedbackRoad", "nextKind", "()I"⟩ ⟨"TabledOrigin$FeedbackRoad", "nextKind", "()I"⟩ ∈ zws := zin 495 (by decide +kernel) rfl
set_option maxRecDepth 20000 in
theorem k_496 : Cond.code ⟨"TabledOrigin$FeedbackRoad", "nextKind", "()I"⟩ prog_4_method_3_code 1 (some .int) ∈ zws := zin 496 (by rfl) rfl
theorem k_497 : Cond.methodLink "TabledOrigin" 119 ⟨"TabledOrigin$FeedbackRoad", "nextNumber", "()I"⟩ ∈ zws := zin 497 (by decide +kernel) rfl
theorem k_498 : Cond.instanceMethod ⟨"TabledOrigin$FeedbackRoad", "nextNumber", "()I"⟩ ∈ zws := zin 498 (by decide +kernel) rfl
theorem k_499 : Cond.selects "TabledOrigin$FeedbackRoad" ⟨"TabledOrigin$FeedbackRoad", "nextNumber", "()I"⟩ ⟨"TabledOrigin$FeedbackRoad", "nextNumber", "()I"⟩ ∈ zws := zin 499 (by decide +kernel) rfl
set_option maxRecDepth 20000 in
theorem k_500 : Cond.code ⟨"TabledOrigin$FeedbackRoad", "nextNumber", "()I"⟩ prog_4_method_4_code 1 (some .int) ∈ zws := zin 500 (by rfl) rfl
theorem k_501 : Cond.methodLink "TabledOrigin" 122 ⟨"TabledOrigin$FeedbackRoad", "moveOn", "()V"⟩ ∈ zws := zin 501 (by decide +kernel) rfl
theorem k_502 : Cond.instanceMethod ⟨"TabledOrigin$FeedbackRoad", "moveOn", "()V"⟩ ∈ zws := zin 502 (by decide +kernel) rfl
theorem k_503 : Cond.selects "TabledOrigin$FeedbackRoad" ⟨"TabledOrigin$FeedbackRoad", "moveOn", "()V"⟩ ⟨"TabledOrigin$FeedbackRoad", "moveOn", "()V"⟩ ∈ zws := zin 503 (by decide +kernel) rfl
set_option maxRecDepth 20000 in
theorem k_504 : Cond.code ⟨"TabledOrigin$FeedbackRoad", "moveOn", "()V"⟩ prog_4_method_5_code 1 none ∈ zws := zin 504 (by rfl) rfl
theorem k_505 : Cond.methodLink "TabledOrigin" 128 ⟨"TabledOrigin", "endOutstanding", "(IZ)V"⟩ ∈ zws := zin 505 (by decide +kernel) rfl
theorem k_507 : Cond.instanceMethod ⟨"TabledOrigin", "endOutstanding", "(IZ)V"⟩ ∈ zws := zin 507 (by decide +kernel) rfl
set_option maxRecDepth 20000 in
theorem k_508 : Cond.code ⟨"TabledOrigin", "endOutstanding", "(IZ)V"⟩ prog_1_method_26_code 4 none ∈ zws := zin 508 (by rfl) rfl
theorem k_509 : Cond.methodLink "TabledOrigin" 225 ⟨"TabledOrigin$Table", "learn", "(I)V"⟩ ∈ zws := zin 509 (by decide +kernel) rfl
theorem k_510 : Cond.instanceMethod ⟨"TabledOrigin$Table", "learn", "(I)V"⟩ ∈ zws := zin 510 (by decide +kernel) rfl
theorem k_511 : Cond.selects "TabledOrigin$Table" ⟨"TabledOrigin$Table", "learn", "(I)V"⟩ ⟨"TabledOrigin$Table", "learn", "(I)V"⟩ ∈ zws := zin 511 (by decide +kernel) rfl
set_option maxRecDepth 20000 in
theorem k_512 : Cond.code ⟨"TabledOrigin$Table", "learn", "(I)V"⟩ prog_9_method_7_code 2 none ∈ zws := zin 512 (by rfl) rfl
theorem k_513 : Cond.methodLink "TabledOrigin$Table" 74 ⟨"java/lang/Math", "max", "(II)I"⟩ ∈ zws := zin 513 (by decide +kernel) rfl
theorem k_515 : Cond.instanceMethod ⟨"TabledOrigin", "report", "()Z"⟩ ∈ zws := zin 515 (by decide +kernel) rfl
theorem k_516 : Cond.selects "TabledOrigin" ⟨"TabledOrigin", "report", "()Z"⟩ ⟨"TabledOrigin", "report", "()Z"⟩ ∈ zws := zin 516 (by decide +kernel) rfl
set_option maxRecDepth 20000 in
theorem k_517 : Cond.code ⟨"TabledOrigin", "report", "()Z"⟩ prog_1_method_10_code 2 (some .boolean) ∈ zws := zin 517 (by rfl) rfl
theorem k_518 : Cond.methodLink "TabledOrigin" 135 ⟨"TabledOrigin$FeedbackRoad", "append", "(II)V"⟩ ∈ zws := zin 518 (by decide +kernel) rfl
theorem k_520 : Cond.instanceMethod ⟨"TabledOrigin", "goaway", "()I"⟩ ∈ zws := zin 520 (by decide +kernel) rfl
theorem k_521 : Cond.selects "TabledOrigin" ⟨"TabledOrigin", "goaway", "()I"⟩ ⟨"TabledOrigin", "goaway", "()I"⟩ ∈ zws := zin 521 (by decide +kernel) rfl
set_option maxRecDepth 20000 in
theorem k_522 : Cond.code ⟨"TabledOrigin", "goaway", "()I"⟩ prog_1_method_11_code 1 (some .int) ∈ zws := zin 522 (by rfl) rfl
theorem k_523 : Cond.methodLink "TabledOrigin" 139 ⟨"TabledOrigin$Server", "announceLimit", "()V"⟩ ∈ zws := zin 523 (by decide +kernel) rfl
theorem k_524 : Cond.instanceMethod ⟨"TabledOrigin$Server", "announceLimit", "()V"⟩ ∈ zws := zin 524 (by decide +kernel) rfl
theorem k_525 : Cond.selects "TabledOrigin$Server" ⟨"TabledOrigin$Server", "announceLimit", "()V"⟩ ⟨"TabledOrigin$Server", "announceLimit", "()V"⟩ ∈ zws := zin 525 (by decide +kernel) rfl
set_option maxRecDepth 20000 in
theorem k_526 : Cond.code ⟨"TabledOrigin$Server", "announceLimit", "()V"⟩ prog_7_method_5_code 1 none ∈ zws := zin 526 (by rfl) rfl
theorem k_528 : Cond.instanceMethod ⟨"TabledOrigin", "notice", "()I"⟩ ∈ zws := zin 528 (by decide +kernel) rfl
theorem k_529 : Cond.selects "TabledOrigin" ⟨"TabledOrigin", "notice", "()I"⟩ ⟨"TabledOrigin", "notice", "()I"⟩ ∈ zws := zin 529 (by decide +kernel) rfl
set_option maxRecDepth 20000 in
theorem k_530 : Cond.code ⟨"TabledOrigin", "notice", "()I"⟩ prog_1_method_12_code 1 (some .int) ∈ zws := zin 530 (by rfl) rfl
theorem k_531 : Cond.methodLink "TabledOrigin" 151 ⟨"TabledOrigin", "refuseFrom", "(I)I"⟩ ∈ zws := zin 531 (by decide +kernel) rfl
theorem k_533 : Cond.instanceMethod ⟨"TabledOrigin", "refuseFrom", "(I)I"⟩ ∈ zws := zin 533 (by decide +kernel) rfl
set_option maxRecDepth 20000 in
theorem k_534 : Cond.code ⟨"TabledOrigin", "refuseFrom", "(I)I"⟩ prog_1_method_27_code 5 (some .int) ∈ zws := zin 534 (by rfl) rfl
theorem k_535 : Cond.methodLink "TabledOrigin" 155 ⟨"TabledOrigin$Request", "settle", "(II)V"⟩ ∈ zws := zin 535 (by decide +kernel) rfl
theorem k_537 : Cond.instanceMethod ⟨"TabledOrigin", "cancel", "(I)Z"⟩ ∈ zws := zin 537 (by decide +kernel) rfl
theorem k_538 : Cond.selects "TabledOrigin" ⟨"TabledOrigin", "cancel", "(I)Z"⟩ ⟨"TabledOrigin", "cancel", "(I)Z"⟩ ∈ zws := zin 538 (by decide +kernel) rfl
set_option maxRecDepth 20000 in
theorem k_539 : Cond.code ⟨"TabledOrigin", "cancel", "(I)Z"⟩ prog_1_method_13_code 3 (some .boolean) ∈ zws := zin 539 (by rfl) rfl
theorem k_541 : Cond.instanceMethod ⟨"TabledOrigin", "tick", "(I)Z"⟩ ∈ zws := zin 541 (by decide +kernel) rfl
theorem k_542 : Cond.selects "TabledOrigin" ⟨"TabledOrigin", "tick", "(I)Z"⟩ ⟨"TabledOrigin", "tick", "(I)Z"⟩ ∈ zws := zin 542 (by decide +kernel) rfl
set_option maxRecDepth 20000 in
theorem k_543 : Cond.code ⟨"TabledOrigin", "tick", "(I)Z"⟩ prog_1_method_14_code 2 (some .boolean) ∈ zws := zin 543 (by rfl) rfl
theorem k_545 : Cond.instanceMethod ⟨"TabledOrigin", "outcome", "(I)I"⟩ ∈ zws := zin 545 (by decide +kernel) rfl
theorem k_546 : Cond.selects "TabledOrigin" ⟨"TabledOrigin", "outcome", "(I)I"⟩ ⟨"TabledOrigin", "outcome", "(I)I"⟩ ∈ zws := zin 546 (by decide +kernel) rfl
set_option maxRecDepth 20000 in
theorem k_547 : Cond.code ⟨"TabledOrigin", "outcome", "(I)I"⟩ prog_1_method_15_code 3 (some .int) ∈ zws := zin 547 (by rfl) rfl
theorem k_549 : Cond.instanceMethod ⟨"TabledOrigin", "content", "(I)I"⟩ ∈ zws := zin 549 (by decide +kernel) rfl
theorem k_550 : Cond.selects "TabledOrigin" ⟨"TabledOrigin", "content", "(I)I"⟩ ⟨"TabledOrigin", "content", "(I)I"⟩ ∈ zws := zin 550 (by decide +kernel) rfl
set_option maxRecDepth 20000 in
theorem k_551 : Cond.code ⟨"TabledOrigin", "content", "(I)I"⟩ prog_1_method_16_code 3 (some .int) ∈ zws := zin 551 (by rfl) rfl
theorem k_553 : Cond.instanceMethod ⟨"TabledOrigin", "stored", "(II)I"⟩ ∈ zws := zin 553 (by decide +kernel) rfl
theorem k_554 : Cond.selects "TabledOrigin" ⟨"TabledOrigin", "stored", "(II)I"⟩ ⟨"TabledOrigin", "stored", "(II)I"⟩ ∈ zws := zin 554 (by decide +kernel) rfl
set_option maxRecDepth 20000 in
theorem k_555 : Cond.code ⟨"TabledOrigin", "stored", "(II)I"⟩ prog_1_method_17_code 4 (some .int) ∈ zws := zin 555 (by rfl) rfl
theorem k_556 : Cond.methodLink "TabledOrigin" 178 ⟨"TabledOrigin$StoredAnswer", "freshFor", "(I)I"⟩ ∈ zws := zin 556 (by decide +kernel) rfl
theorem k_557 : Cond.instanceMethod ⟨"TabledOrigin$StoredAnswer", "freshFor", "(I)I"⟩ ∈ zws := zin 557 (by decide +kernel) rfl
theorem k_558 : Cond.selects "TabledOrigin$StoredAnswer" ⟨"TabledOrigin$StoredAnswer", "freshFor", "(I)I"⟩ ⟨"TabledOrigin$StoredAnswer", "freshFor", "(I)I"⟩ ∈ zws := zin 558 (by decide +kernel) rfl
set_option maxRecDepth 20000 in
theorem k_559 : Cond.code ⟨"TabledOrigin$StoredAnswer", "freshFor", "(I)I"⟩ prog_8_method_3_code 2 (some .int) ∈ zws := zin 559 (by rfl) rfl
theorem k_560 : Cond.methodLink "TabledOrigin$StoredAnswer" 20 ⟨"TabledOrigin$StoredAnswer", "isFresh", "(I)Z"⟩ ∈ zws := zin 560 (by decide +kernel) rfl
theorem k_562 : Cond.instanceMethod ⟨"TabledOrigin", "entry", "(II)I"⟩ ∈ zws := zin 562 (by decide +kernel) rfl
theorem k_563 : Cond.selects "TabledOrigin" ⟨"TabledOrigin", "entry", "(II)I"⟩ ⟨"TabledOrigin", "entry", "(II)I"⟩ ∈ zws := zin 563 (by decide +kernel) rfl
set_option maxRecDepth 20000 in
theorem k_564 : Cond.code ⟨"TabledOrigin", "entry", "(II)I"⟩ prog_1_method_18_code 5 (some .int) ∈ zws := zin 564 (by rfl) rfl
theorem k_565 : Cond.methodLink "TabledOrigin" 181 ⟨"TabledOrigin$Table", "liveCount", "()I"⟩ ∈ zws := zin 565 (by decide +kernel) rfl
theorem k_566 : Cond.methodLink "TabledOrigin" 184 ⟨"TabledOrigin$Table", "nameOf", "(I)I"⟩ ∈ zws := zin 566 (by decide +kernel) rfl
theorem k_567 : Cond.methodLink "TabledOrigin" 187 ⟨"TabledOrigin$Table", "valueOf", "(I)I"⟩ ∈ zws := zin 567 (by decide +kernel) rfl
theorem k_568 : Cond.methodLink "TabledOrigin" 190 ⟨"TabledOrigin$Table", "referencesTo", "(I)I"⟩ ∈ zws := zin 568 (by decide +kernel) rfl
theorem k_570 : Cond.instanceMethod ⟨"TabledOrigin", "count", "(I)I"⟩ ∈ zws := zin 570 (by decide +kernel) rfl
theorem k_571 : Cond.selects "TabledOrigin" ⟨"TabledOrigin", "count", "(I)I"⟩ ⟨"TabledOrigin", "count", "(I)I"⟩ ∈ zws := zin 571 (by decide +kernel) rfl
set_option maxRecDepth 20000 in
theorem k_572 : Cond.code ⟨"TabledOrigin", "count", "(I)I"⟩ prog_1_method_19_code 3 (some .int) ∈ zws := zin 572 (by rfl) rfl
theorem k_573 : Cond.methodLink "TabledOrigin" 199 ⟨"TabledOrigin$Table", "outstandingNeeding", "(I)I"⟩ ∈ zws := zin 573 (by decide +kernel) rfl
theorem k_574 : Cond.methodLink "TabledOrigin" 202 ⟨"TabledOrigin$Table", "atRisk", "()I"⟩ ∈ zws := zin 574 (by decide +kernel) rfl
theorem k_575 : Cond.methodLink "TabledOrigin" 205 ⟨"TabledOrigin", "blockedAnswers", "()I"⟩ ∈ zws := zin 575 (by decide +kernel) rfl
theorem k_577 : Cond.instanceMethod ⟨"TabledOrigin", "blockedAnswers", "()I"⟩ ∈ zws := zin 577 (by decide +kernel) rfl
set_option maxRecDepth 20000 in
theorem k_578 : Cond.code ⟨"TabledOrigin", "blockedAnswers", "()I"⟩ prog_1_method_25_code 3 (some .int) ∈ zws := zin 578 (by rfl) rfl
theorem k_582 : Cond.instanceMethod ⟨"TabledOriginModel", "<init>", "()V"⟩ ∈ zws := zin 582 (by decide +kernel) rfl
set_option maxRecDepth 20000 in
theorem k_583 : Cond.code ⟨"TabledOriginModel", "<init>", "()V"⟩ prog_11_method_1_code 2 none ∈ zws := zin 583 (by rfl) rfl
theorem k_584 : Cond.methodLink "TabledOriginModel" 1 ⟨"java/lang/Object", "<init>", "()V"⟩ ∈ zws := zin 584 (by decide +kernel) rfl
theorem k_585 : Cond.fieldLink "TabledOriginModel" 7 "TabledOriginModel" "there" "[Z" ∈ zws := zin 585 (by decide +kernel) rfl
theorem k_586 : Cond.fieldLink "TabledOriginModel" 13 "TabledOriginModel" "text" "[I" ∈ zws := zin 586 (by decide +kernel) rfl
theorem k_587 : Cond.fieldLink "TabledOriginModel" 17 "TabledOriginModel" "life" "[I" ∈ zws := zin 587 (by decide +kernel) rfl
theorem k_588 : Cond.fieldLink "TabledOriginModel" 20 "TabledOriginModel" "tag" "[I" ∈ zws := zin 588 (by decide +kernel) rfl
theorem k_589 : Cond.fieldLink "TabledOriginModel" 113 "TabledOriginModel" "newest" "I" ∈ zws := zin 589 (by decide +kernel) rfl
theorem k_590 : Cond.fieldLink "TabledOriginModel" 161 "TabledOriginModel" "clock" "I" ∈ zws := zin 590 (by decide +kernel) rfl
theorem k_591 : Cond.fieldLink "TabledOriginModel" 100 "TabledOriginModel" "requests" "I" ∈ zws := zin 591 (by decide +kernel) rfl
theorem k_592 : Cond.fieldLink "TabledOriginModel" 23 "TabledOriginModel" "writes" "[Z" ∈ zws := zin 592 (by decide +kernel) rfl
theorem k_593 : Cond.fieldLink "TabledOriginModel" 26 "TabledOriginModel" "resource" "[I" ∈ zws := zin 593 (by decide +kernel) rfl
theorem k_594 : Cond.fieldLink "TabledOriginModel" 29 "TabledOriginModel" "result" "[I" ∈ zws := zin 594 (by decide +kernel) rfl
theorem k_595 : Cond.fieldLink "TabledOriginModel" 32 "TabledOriginModel" "body" "[I" ∈ zws := zin 595 (by decide +kernel) rfl
theorem k_596 : Cond.fieldLink "TabledOriginModel" 35 "TabledOriginModel" "lasts" "[I" ∈ zws := zin 596 (by decide +kernel) rfl
theorem k_597 : Cond.fieldLink "TabledOriginModel" 38 "TabledOriginModel" "bears" "[I" ∈ zws := zin 597 (by decide +kernel) rfl
theorem k_598 : Cond.fieldLink "TabledOriginModel" 41 "TabledOriginModel" "sent" "[I" ∈ zws := zin 598 (by decide +kernel) rfl
theorem k_599 : Cond.fieldLink "TabledOriginModel" 44 "TabledOriginModel" "shown" "[I" ∈ zws := zin 599 (by decide +kernel) rfl
theorem k_600 : Cond.fieldLink "TabledOriginModel" 47 "TabledOriginModel" "road" "[I" ∈ zws := zin 600 (by decide +kernel) rfl
theorem k_601 : Cond.fieldLink "TabledOriginModel" 50 "TabledOriginModel" "status" "[I" ∈ zws := zin 601 (by decide +kernel) rfl
theorem k_602 : Cond.fieldLink "TabledOriginModel" 53 "TabledOriginModel" "ansTag" "[I" ∈ zws := zin 602 (by decide +kernel) rfl
theorem k_603 : Cond.fieldLink "TabledOriginModel" 56 "TabledOriginModel" "ansLife" "[I" ∈ zws := zin 603 (by decide +kernel) rfl
theorem k_604 : Cond.fieldLink "TabledOriginModel" 59 "TabledOriginModel" "ansText" "[I" ∈ zws := zin 604 (by decide +kernel) rfl
theorem k_605 : Cond.fieldLink "TabledOriginModel" 62 "TabledOriginModel" "refers" "[I" ∈ zws := zin 605 (by decide +kernel) rfl
theorem k_606 : Cond.fieldLink "TabledOriginModel" 65 "TabledOriginModel" "keptBy" "[I" ∈ zws := zin 606 (by decide +kernel) rfl
theorem k_607 : Cond.fieldLink "TabledOriginModel" 68 "TabledOriginModel" "keptTag" "[I" ∈ zws := zin 607 (by decide +kernel) rfl
theorem k_608 : Cond.fieldLink "TabledOriginModel" 71 "TabledOriginModel" "keptText" "[I" ∈ zws := zin 608 (by decide +kernel) rfl
theorem k_609 : Cond.fieldLink "TabledOriginModel" 74 "TabledOriginModel" "keptLife" "[I" ∈ zws := zin 609 (by decide +kernel) rfl
theorem k_610 : Cond.fieldLink "TabledOriginModel" 77 "TabledOriginModel" "keptSince" "[I" ∈ zws := zin 610 (by decide +kernel) rfl
theorem k_611 : Cond.fieldLink "TabledOriginModel" 80 "TabledOriginModel" "name" "[I" ∈ zws := zin 611 (by decide +kernel) rfl
theorem k_612 : Cond.fieldLink "TabledOriginModel" 83 "TabledOriginModel" "value" "[I" ∈ zws := zin 612 (by decide +kernel) rfl
theorem k_613 : Cond.fieldLink "TabledOriginModel" 107 "TabledOriginModel" "made" "I" ∈ zws := zin 613 (by decide +kernel) rfl
theorem k_614 : Cond.fieldLink "TabledOriginModel" 175 "TabledOriginModel" "came" "I" ∈ zws := zin 614 (by decide +kernel) rfl
theorem k_615 : Cond.fieldLink "TabledOriginModel" 141 "TabledOriginModel" "literals" "I" ∈ zws := zin 615 (by decide +kernel) rfl
theorem k_616 : Cond.fieldLink "TabledOriginModel" 138 "TabledOriginModel" "references" "I" ∈ zws := zin 616 (by decide +kernel) rfl
theorem k_617 : Cond.fieldLink "TabledOriginModel" 86 "TabledOriginModel" "word" "[I" ∈ zws := zin 617 (by decide +kernel) rfl
theorem k_618 : Cond.fieldLink "TabledOriginModel" 89 "TabledOriginModel" "about" "[I" ∈ zws := zin 618 (by decide +kernel) rfl
theorem k_619 : Cond.fieldLink "TabledOriginModel" 110 "TabledOriginModel" "words" "I" ∈ zws := zin 619 (by decide +kernel) rfl
theorem k_620 : Cond.fieldLink "TabledOriginModel" 96 "TabledOriginModel" "heard" "I" ∈ zws := zin 620 (by decide +kernel) rfl
theorem k_621 : Cond.fieldLink "TabledOriginModel" 144 "TabledOriginModel" "announced" "Z" ∈ zws := zin 621 (by decide +kernel) rfl
theorem k_622 : Cond.fieldLink "TabledOriginModel" 164 "TabledOriginModel" "noticed" "Z" ∈ zws := zin 622 (by decide +kernel) rfl
theorem k_623 : Cond.fieldLink "TabledOriginModel" 148 "TabledOriginModel" "bound" "I" ∈ zws := zin 623 (by decide +kernel) rfl
theorem k_624 : Cond.fieldLink "TabledOriginModel" 158 "TabledOriginModel" "answered" "I" ∈ zws := zin 624 (by decide +kernel) rfl
theorem k_625 : Cond.laysFinal "TabledOriginModel" "TabledOriginModel" "there" "[Z" ∈ zws := zin 625 (by decide +kernel) rfl
theorem k_627 : Cond.laysFinal "TabledOriginModel" "TabledOriginModel" "text" "[I" ∈ zws := zin 627 (by decide +kernel) rfl
theorem k_629 : Cond.laysFinal "TabledOriginModel" "TabledOriginModel" "life" "[I" ∈ zws := zin 629 (by decide +kernel) rfl
theorem k_631 : Cond.laysFinal "TabledOriginModel" "TabledOriginModel" "tag" "[I" ∈ zws := zin 631 (by decide +kernel) rfl
theorem k_633 : Cond.lays "TabledOriginModel" "TabledOriginModel" "newest" "I" ∈ zws := zin 633 (by decide +kernel) rfl
theorem k_635 : Cond.lays "TabledOriginModel" "TabledOriginModel" "clock" "I" ∈ zws := zin 635 (by decide +kernel) rfl
theorem k_637 : Cond.lays "TabledOriginModel" "TabledOriginModel" "requests" "I" ∈ zws := zin 637 (by decide +kernel) rfl
theorem k_639 : Cond.laysFinal "TabledOriginModel" "TabledOriginModel" "writes" "[Z" ∈ zws := zin 639 (by decide +kernel) rfl
theorem k_641 : Cond.laysFinal "TabledOriginModel" "TabledOriginModel" "resource" "[I" ∈ zws := zin 641 (by decide +kernel) rfl
theorem k_643 : Cond.laysFinal "TabledOriginModel" "TabledOriginModel" "result" "[I" ∈ zws := zin 643 (by decide +kernel) rfl
theorem k_645 : Cond.laysFinal "TabledOriginModel" "TabledOriginModel" "body" "[I" ∈ zws := zin 645 (by decide +kernel) rfl
theorem k_647 : Cond.laysFinal "TabledOriginModel" "TabledOriginModel" "lasts" "[I" ∈ zws := zin 647 (by decide +kernel) rfl
theorem k_649 : Cond.laysFinal "TabledOriginModel" "TabledOriginModel" "bears" "[I" ∈ zws := zin 649 (by decide +kernel) rfl
theorem k_651 : Cond.laysFinal "TabledOriginModel" "TabledOriginModel" "sent" "[I" ∈ zws := zin 651 (by decide +kernel) rfl
theorem k_653 : Cond.laysFinal "TabledOriginModel" "TabledOriginModel" "shown" "[I" ∈ zws := zin 653 (by decide +kernel) rfl
theorem k_655 : Cond.laysFinal "TabledOriginModel" "TabledOriginModel" "road" "[I" ∈ zws := zin 655 (by decide +kernel) rfl
theorem k_657 : Cond.laysFinal "TabledOriginModel" "TabledOriginModel" "status" "[I" ∈ zws := zin 657 (by decide +kernel) rfl
theorem k_659 : Cond.laysFinal "TabledOriginModel" "TabledOriginModel" "ansTag" "[I" ∈ zws := zin 659 (by decide +kernel) rfl
theorem k_661 : Cond.laysFinal "TabledOriginModel" "TabledOriginModel" "ansLife" "[I" ∈ zws := zin 661 (by decide +kernel) rfl
theorem k_663 : Cond.laysFinal "TabledOriginModel" "TabledOriginModel" "ansText" "[I" ∈ zws := zin 663 (by decide +kernel) rfl
theorem k_665 : Cond.laysFinal "TabledOriginModel" "TabledOriginModel" "refers" "[I" ∈ zws := zin 665 (by decide +kernel) rfl
theorem k_667 : Cond.laysFinal "TabledOriginModel" "TabledOriginModel" "keptBy" "[I" ∈ zws := zin 667 (by decide +kernel) rfl
theorem k_669 : Cond.laysFinal "TabledOriginModel" "TabledOriginModel" "keptTag" "[I" ∈ zws := zin 669 (by decide +kernel) rfl
theorem k_671 : Cond.laysFinal "TabledOriginModel" "TabledOriginModel" "keptText" "[I" ∈ zws := zin 671 (by decide +kernel) rfl
theorem k_673 : Cond.laysFinal "TabledOriginModel" "TabledOriginModel" "keptLife" "[I" ∈ zws := zin 673 (by decide +kernel) rfl
theorem k_675 : Cond.laysFinal "TabledOriginModel" "TabledOriginModel" "keptSince" "[I" ∈ zws := zin 675 (by decide +kernel) rfl
theorem k_677 : Cond.laysFinal "TabledOriginModel" "TabledOriginModel" "name" "[I" ∈ zws := zin 677 (by decide +kernel) rfl
theorem k_679 : Cond.laysFinal "TabledOriginModel" "TabledOriginModel" "value" "[I" ∈ zws := zin 679 (by decide +kernel) rfl
theorem k_681 : Cond.lays "TabledOriginModel" "TabledOriginModel" "made" "I" ∈ zws := zin 681 (by decide +kernel) rfl
theorem k_683 : Cond.lays "TabledOriginModel" "TabledOriginModel" "came" "I" ∈ zws := zin 683 (by decide +kernel) rfl
theorem k_685 : Cond.lays "TabledOriginModel" "TabledOriginModel" "literals" "I" ∈ zws := zin 685 (by decide +kernel) rfl
theorem k_687 : Cond.lays "TabledOriginModel" "TabledOriginModel" "references" "I" ∈ zws := zin 687 (by decide +kernel) rfl
theorem k_689 : Cond.laysFinal "TabledOriginModel" "TabledOriginModel" "word" "[I" ∈ zws := zin 689 (by decide +kernel) rfl
theorem k_691 : Cond.laysFinal "TabledOriginModel" "TabledOriginModel" "about" "[I" ∈ zws := zin 691 (by decide +kernel) rfl
theorem k_693 : Cond.lays "TabledOriginModel" "TabledOriginModel" "words" "I" ∈ zws := zin 693 (by decide +kernel) rfl
theorem k_695 : Cond.lays "TabledOriginModel" "TabledOriginModel" "heard" "I" ∈ zws := zin 695 (by decide +kernel) rfl
theorem k_697 : Cond.lays "TabledOriginModel" "TabledOriginModel" "announced" "Z" ∈ zws := zin 697 (by decide +kernel) rfl
theorem k_699 : Cond.lays "TabledOriginModel" "TabledOriginModel" "noticed" "Z" ∈ zws := zin 699 (by decide +kernel) rfl
theorem k_701 : Cond.lays "TabledOriginModel" "TabledOriginModel" "bound" "I" ∈ zws := zin 701 (by decide +kernel) rfl
theorem k_703 : Cond.lays "TabledOriginModel" "TabledOriginModel" "answered" "I" ∈ zws := zin 703 (by decide +kernel) rfl
theorem k_706 : Cond.arrayClass .boolean ∈ zws := zin 706 (by decide +kernel) rfl
theorem k_708 : Cond.instanceMethod ⟨"TabledOriginModel", "put", "(III)I"⟩ ∈ zws := zin 708 (by decide +kernel) rfl
theorem k_709 : Cond.selects "TabledOriginModel" ⟨"TabledOriginModel", "put", "(III)I"⟩ ⟨"TabledOriginModel", "put", "(III)I"⟩ ∈ zws := zin 709 (by decide +kernel) rfl
set_option maxRecDepth 20000 in
theorem k_710 : Cond.code ⟨"TabledOriginModel", "put", "(III)I"⟩ prog_11_method_11_code 4 (some .int) ∈ zws := zin 710 (by rfl) rfl
theorem k_711 : Cond.methodLink "TabledOriginModel" 116 ⟨"TabledOriginModel", "within", "(II)Z"⟩ ∈ zws := zin 711 (by decide +kernel) rfl
theorem k_712 : Cond.static ⟨"TabledOriginModel", "within", "(II)Z"⟩ ∈ zws := zin 712 (by decide +kernel) rfl
set_option maxRecDepth 20000 in
theorem k_713 : Cond.code ⟨"TabledOriginModel", "within", "(II)Z"⟩ prog_11_method_2_code 2 (some .boolean) ∈ zws := zin 713 (by rfl) rfl
theorem k_714 : Cond.methodLink "TabledOriginModel" 120 ⟨"TabledOriginModel", "write", "(III)I"⟩ ∈ zws := zin 714 (by decide +kernel) rfl
theorem k_716 : Cond.instanceMethod ⟨"TabledOriginModel", "write", "(III)I"⟩ ∈ zws := zin 716 (by decide +kernel) rfl
set_option maxRecDepth 20000 in
theorem k_717 : Cond.code ⟨"TabledOriginModel", "write", "(III)I"⟩ prog_11_method_10_code 4 (some .int) ∈ zws := zin 717 (by rfl) rfl
theorem k_719 : Cond.instanceMethod ⟨"TabledOriginModel", "drop", "(I)Z"⟩ ∈ zws := zin 719 (by decide +kernel) rfl
theorem k_720 : Cond.selects "TabledOriginModel" ⟨"TabledOriginModel", "drop", "(I)Z"⟩ ⟨"TabledOriginModel", "drop", "(I)Z"⟩ ∈ zws := zin 720 (by decide +kernel) rfl
set_option maxRecDepth 20000 in
theorem k_721 : Cond.code ⟨"TabledOriginModel", "drop", "(I)Z"⟩ prog_11_method_12_code 2 (some .boolean) ∈ zws := zin 721 (by rfl) rfl
theorem k_723 : Cond.instanceMethod ⟨"TabledOriginModel", "arrive", "(I)I"⟩ ∈ zws := zin 723 (by decide +kernel) rfl
theorem k_724 : Cond.selects "TabledOriginModel" ⟨"TabledOriginModel", "arrive", "(I)I"⟩ ⟨"TabledOriginModel", "arrive", "(I)I"⟩ ∈ zws := zin 724 (by decide +kernel) rfl
set_option maxRecDepth 20000 in
theorem k_725 : Cond.code ⟨"TabledOriginModel", "arrive", "(I)I"⟩ prog_11_method_15_code 4 (some .int) ∈ zws := zin 725 (by rfl) rfl
theorem k_726 : Cond.methodLink "TabledOriginModel" 151 ⟨"TabledOriginModel", "decide", "(I)I"⟩ ∈ zws := zin 726 (by decide +kernel) rfl
theorem k_728 : Cond.instanceMethod ⟨"TabledOriginModel", "decide", "(I)I"⟩ ∈ zws := zin 728 (by decide +kernel) rfl
set_option maxRecDepth 20000 in
theorem k_729 : Cond.code ⟨"TabledOriginModel", "decide", "(I)I"⟩ prog_11_method_14_code 3 (some .int) ∈ zws := zin 729 (by rfl) rfl
theorem k_730 : Cond.methodLink "TabledOriginModel" 154 ⟨"TabledOriginModel", "field", "(III)V"⟩ ∈ zws := zin 730 (by decide +kernel) rfl
theorem k_732 : Cond.instanceMethod ⟨"TabledOriginModel", "field", "(III)V"⟩ ∈ zws := zin 732 (by decide +kernel) rfl
set_option maxRecDepth 20000 in
theorem k_733 : Cond.code ⟨"TabledOriginModel", "field", "(III)V"⟩ prog_11_method_13_code 9 none ∈ zws := zin 733 (by rfl) rfl
theorem k_734 : Cond.methodLink "TabledOriginModel" 124 ⟨"TabledOriginModel", "after", "(I)I"⟩ ∈ zws := zin 734 (by decide +kernel) rfl
theorem k_736 : Cond.instanceMethod ⟨"TabledOriginModel", "after", "(I)I"⟩ ∈ zws := zin 736 (by decide +kernel) rfl
set_option maxRecDepth 20000 in
theorem k_737 : Cond.code ⟨"TabledOriginModel", "after", "(I)I"⟩ prog_11_method_3_code 5 (some .int) ∈ zws := zin 737 (by rfl) rfl
theorem k_738 : Cond.methodLink "TabledOriginModel" 92 ⟨"TabledOriginModel", "need", "(I)I"⟩ ∈ zws := zin 738 (by decide +kernel) rfl
theorem k_740 : Cond.instanceMethod ⟨"TabledOriginModel", "need", "(I)I"⟩ ∈ zws := zin 740 (by decide +kernel) rfl
set_option maxRecDepth 20000 in
theorem k_741 : Cond.code ⟨"TabledOriginModel", "need", "(I)I"⟩ prog_11_method_4_code 4 (some .int) ∈ zws := zin 741 (by rfl) rfl
theorem k_742 : Cond.methodLink "TabledOriginModel" 127 ⟨"TabledOriginModel", "risky", "(II)I"⟩ ∈ zws := zin 742 (by decide +kernel) rfl
theorem k_744 : Cond.instanceMethod ⟨"TabledOriginModel", "risky", "(II)I"⟩ ∈ zws := zin 744 (by decide +kernel) rfl
set_option maxRecDepth 20000 in
theorem k_745 : Cond.code ⟨"TabledOriginModel", "risky", "(II)I"⟩ prog_11_method_6_code 5 (some .int) ∈ zws := zin 745 (by rfl) rfl
theorem k_746 : Cond.methodLink "TabledOriginModel" 103 ⟨"TabledOriginModel", "outstanding", "(I)Z"⟩ ∈ zws := zin 746 (by decide +kernel) rfl
theorem k_748 : Cond.instanceMethod ⟨"TabledOriginModel", "outstanding", "(I)Z"⟩ ∈ zws := zin 748 (by decide +kernel) rfl
set_option maxRecDepth 20000 in
theorem k_749 : Cond.code ⟨"TabledOriginModel", "outstanding", "(I)Z"⟩ prog_11_method_5_code 4 (some .boolean) ∈ zws := zin 749 (by rfl) rfl
theorem k_750 : Cond.methodLink "TabledOriginModel" 131 ⟨"TabledOriginModel", "oldest", "()I"⟩ ∈ zws := zin 750 (by decide +kernel) rfl
theorem k_752 : Cond.instanceMethod ⟨"TabledOriginModel", "oldest", "()I"⟩ ∈ zws := zin 752 (by decide +kernel) rfl
set_option maxRecDepth 20000 in
theorem k_753 : Cond.code ⟨"TabledOriginModel", "oldest", "()I"⟩ prog_11_method_8_code 1 (some .int) ∈ zws := zin 753 (by rfl) rfl
theorem k_754 : Cond.methodLink "TabledOriginModel" 135 ⟨"TabledOriginModel", "uses", "(II)I"⟩ ∈ zws := zin 754 (by decide +kernel) rfl
theorem k_756 : Cond.instanceMethod ⟨"TabledOriginModel", "uses", "(II)I"⟩ ∈ zws := zin 756 (by decide +kernel) rfl
set_option maxRecDepth 20000 in
theorem k_757 : Cond.code ⟨"TabledOriginModel", "uses", "(II)I"⟩ prog_11_method_7_code 7 (some .int) ∈ zws := zin 757 (by rfl) rfl
theorem k_759 : Cond.instanceMethod ⟨"TabledOriginModel", "feedback", "()I"⟩ ∈ zws := zin 759 (by decide +kernel) rfl
theorem k_760 : Cond.selects "TabledOriginModel" ⟨"TabledOriginModel", "feedback", "()I"⟩ ⟨"TabledOriginModel", "feedback", "()I"⟩ ∈ zws := zin 760 (by decide +kernel) rfl
set_option maxRecDepth 20000 in
theorem k_761 : Cond.code ⟨"TabledOriginModel", "feedback", "()I"⟩ prog_11_method_16_code 1 (some .int) ∈ zws := zin 761 (by rfl) rfl
theorem k_763 : Cond.instanceMethod ⟨"TabledOriginModel", "goaway", "()I"⟩ ∈ zws := zin 763 (by decide +kernel) rfl
theorem k_764 : Cond.selects "TabledOriginModel" ⟨"TabledOriginModel", "goaway", "()I"⟩ ⟨"TabledOriginModel", "goaway", "()I"⟩ ∈ zws := zin 764 (by decide +kernel) rfl
set_option maxRecDepth 20000 in
theorem k_765 : Cond.code ⟨"TabledOriginModel", "goaway", "()I"⟩ prog_11_method_17_code 1 (some .int) ∈ zws := zin 765 (by rfl) rfl
theorem k_767 : Cond.instanceMethod ⟨"TabledOriginModel", "get", "(I)I"⟩ ∈ zws := zin 767 (by decide +kernel) rfl
theorem k_768 : Cond.selects "TabledOriginModel" ⟨"TabledOriginModel", "get", "(I)I"⟩ ⟨"TabledOriginModel", "get", "(I)I"⟩ ∈ zws := zin 768 (by decide +kernel) rfl
set_option maxRecDepth 20000 in
theorem k_769 : Cond.code ⟨"TabledOriginModel", "get", "(I)I"⟩ prog_11_method_19_code 2 (some .int) ∈ zws := zin 769 (by rfl) rfl
theorem k_770 : Cond.methodLink "TabledOriginModel" 167 ⟨"TabledOriginModel", "ask", "(IZII)I"⟩ ∈ zws := zin 770 (by decide +kernel) rfl
theorem k_772 : Cond.instanceMethod ⟨"TabledOriginModel", "ask", "(IZII)I"⟩ ∈ zws := zin 772 (by decide +kernel) rfl
set_option maxRecDepth 20000 in
theorem k_773 : Cond.code ⟨"TabledOriginModel", "ask", "(IZII)I"⟩ prog_11_method_18_code 7 (some .int) ∈ zws := zin 773 (by rfl) rfl
theorem k_775 : Cond.instanceMethod ⟨"TabledOriginModel", "replace", "(III)I"⟩ ∈ zws := zin 775 (by decide +kernel) rfl
theorem k_776 : Cond.selects "TabledOriginModel" ⟨"TabledOriginModel", "replace", "(III)I"⟩ ⟨"TabledOriginModel", "replace", "(III)I"⟩ ∈ zws := zin 776 (by decide +kernel) rfl
set_option maxRecDepth 20000 in
theorem k_777 : Cond.code ⟨"TabledOriginModel", "replace", "(III)I"⟩ prog_11_method_20_code 4 (some .int) ∈ zws := zin 777 (by rfl) rfl
theorem k_779 : Cond.instanceMethod ⟨"TabledOriginModel", "reply", "(I)I"⟩ ∈ zws := zin 779 (by decide +kernel) rfl
theorem k_780 : Cond.selects "TabledOriginModel" ⟨"TabledOriginModel", "reply", "(I)I"⟩ ⟨"TabledOriginModel", "reply", "(I)I"⟩ ∈ zws := zin 780 (by decide +kernel) rfl
set_option maxRecDepth 20000 in
theorem k_781 : Cond.code ⟨"TabledOriginModel", "reply", "(I)I"⟩ prog_11_method_22_code 2 (some .int) ∈ zws := zin 781 (by rfl) rfl
theorem k_782 : Cond.methodLink "TabledOriginModel" 178 ⟨"TabledOriginModel", "read", "(I)I"⟩ ∈ zws := zin 782 (by decide +kernel) rfl
theorem k_784 : Cond.instanceMethod ⟨"TabledOriginModel", "read", "(I)I"⟩ ∈ zws := zin 784 (by decide +kernel) rfl
set_option maxRecDepth 20000 in
theorem k_785 : Cond.code ⟨"TabledOriginModel", "read", "(I)I"⟩ prog_11_method_21_code 5 (some .int) ∈ zws := zin 785 (by rfl) rfl
theorem k_786 : Cond.methodLink "TabledOriginModel" 171 ⟨"TabledOriginModel", "tell", "(II)V"⟩ ∈ zws := zin 786 (by decide +kernel) rfl
theorem k_788 : Cond.instanceMethod ⟨"TabledOriginModel", "tell", "(II)V"⟩ ∈ zws := zin 788 (by decide +kernel) rfl
set_option maxRecDepth 20000 in
theorem k_789 : Cond.code ⟨"TabledOriginModel", "tell", "(II)V"⟩ prog_11_method_9_code 3 none ∈ zws := zin 789 (by rfl) rfl
theorem k_791 : Cond.instanceMethod ⟨"TabledOriginModel", "insert", "()I"⟩ ∈ zws := zin 791 (by decide +kernel) rfl
theorem k_792 : Cond.selects "TabledOriginModel" ⟨"TabledOriginModel", "insert", "()I"⟩ ⟨"TabledOriginModel", "insert", "()I"⟩ ∈ zws := zin 792 (by decide +kernel) rfl
set_option maxRecDepth 20000 in
theorem k_793 : Cond.code ⟨"TabledOriginModel", "insert", "()I"⟩ prog_11_method_23_code 4 (some .int) ∈ zws := zin 793 (by rfl) rfl
theorem k_795 : Cond.instanceMethod ⟨"TabledOriginModel", "report", "()Z"⟩ ∈ zws := zin 795 (by decide +kernel) rfl
theorem k_796 : Cond.selects "TabledOriginModel" ⟨"TabledOriginModel", "report", "()Z"⟩ ⟨"TabledOriginModel", "report", "()Z"⟩ ∈ zws := zin 796 (by decide +kernel) rfl
set_option maxRecDepth 20000 in
theorem k_797 : Cond.code ⟨"TabledOriginModel", "report", "()Z"⟩ prog_11_method_24_code 2 (some .boolean) ∈ zws := zin 797 (by rfl) rfl
theorem k_799 : Cond.instanceMethod ⟨"TabledOriginModel", "notice", "()I"⟩ ∈ zws := zin 799 (by decide +kernel) rfl
theorem k_800 : Cond.selects "TabledOriginModel" ⟨"TabledOriginModel", "notice", "()I"⟩ ⟨"TabledOriginModel", "notice", "()I"⟩ ∈ zws := zin 800 (by decide +kernel) rfl
set_option maxRecDepth 20000 in
theorem k_801 : Cond.code ⟨"TabledOriginModel", "notice", "()I"⟩ prog_11_method_25_code 3 (some .int) ∈ zws := zin 801 (by rfl) rfl
theorem k_803 : Cond.instanceMethod ⟨"TabledOriginModel", "cancel", "(I)Z"⟩ ∈ zws := zin 803 (by decide +kernel) rfl
theorem k_804 : Cond.selects "TabledOriginModel" ⟨"TabledOriginModel", "cancel", "(I)Z"⟩ ⟨"TabledOriginModel", "cancel", "(I)Z"⟩ ∈ zws := zin 804 (by decide +kernel) rfl
set_option maxRecDepth 20000 in
theorem k_805 : Cond.code ⟨"TabledOriginModel", "cancel", "(I)Z"⟩ prog_11_method_26_code 2 (some .boolean) ∈ zws := zin 805 (by rfl) rfl
theorem k_807 : Cond.instanceMethod ⟨"TabledOriginModel", "tick", "(I)Z"⟩ ∈ zws := zin 807 (by decide +kernel) rfl
theorem k_808 : Cond.selects "TabledOriginModel" ⟨"TabledOriginModel", "tick", "(I)Z"⟩ ⟨"TabledOriginModel", "tick", "(I)Z"⟩ ∈ zws := zin 808 (by decide +kernel) rfl
set_option maxRecDepth 20000 in
theorem k_809 : Cond.code ⟨"TabledOriginModel", "tick", "(I)Z"⟩ prog_11_method_27_code 2 (some .boolean) ∈ zws := zin 809 (by rfl) rfl
theorem k_811 : Cond.instanceMethod ⟨"TabledOriginModel", "outcome", "(I)I"⟩ ∈ zws := zin 811 (by decide +kernel) rfl
theorem k_812 : Cond.selects "TabledOriginModel" ⟨"TabledOriginModel", "outcome", "(I)I"⟩ ⟨"TabledOriginModel", "outcome", "(I)I"⟩ ∈ zws := zin 812 (by decide +kernel) rfl
set_option maxRecDepth 20000 in
theorem k_813 : Cond.code ⟨"TabledOriginModel", "outcome", "(I)I"⟩ prog_11_method_28_code 2 (some .int) ∈ zws := zin 813 (by rfl) rfl
theorem k_815 : Cond.instanceMethod ⟨"TabledOriginModel", "content", "(I)I"⟩ ∈ zws := zin 815 (by decide +kernel) rfl
theorem k_816 : Cond.selects "TabledOriginModel" ⟨"TabledOriginModel", "content", "(I)I"⟩ ⟨"TabledOriginModel", "content", "(I)I"⟩ ∈ zws := zin 816 (by decide +kernel) rfl
set_option maxRecDepth 20000 in
theorem k_817 : Cond.code ⟨"TabledOriginModel", "content", "(I)I"⟩ prog_11_method_29_code 3 (some .int) ∈ zws := zin 817 (by rfl) rfl
theorem k_819 : Cond.instanceMethod ⟨"TabledOriginModel", "stored", "(II)I"⟩ ∈ zws := zin 819 (by decide +kernel) rfl
theorem k_820 : Cond.selects "TabledOriginModel" ⟨"TabledOriginModel", "stored", "(II)I"⟩ ⟨"TabledOriginModel", "stored", "(II)I"⟩ ∈ zws := zin 820 (by decide +kernel) rfl
set_option maxRecDepth 20000 in
theorem k_821 : Cond.code ⟨"TabledOriginModel", "stored", "(II)I"⟩ prog_11_method_30_code 4 (some .int) ∈ zws := zin 821 (by rfl) rfl
theorem k_823 : Cond.instanceMethod ⟨"TabledOriginModel", "entry", "(II)I"⟩ ∈ zws := zin 823 (by decide +kernel) rfl
theorem k_824 : Cond.selects "TabledOriginModel" ⟨"TabledOriginModel", "entry", "(II)I"⟩ ⟨"TabledOriginModel", "entry", "(II)I"⟩ ∈ zws := zin 824 (by decide +kernel) rfl
set_option maxRecDepth 20000 in
theorem k_825 : Cond.code ⟨"TabledOriginModel", "entry", "(II)I"⟩ prog_11_method_31_code 4 (some .int) ∈ zws := zin 825 (by rfl) rfl
theorem k_827 : Cond.instanceMethod ⟨"TabledOriginModel", "count", "(I)I"⟩ ∈ zws := zin 827 (by decide +kernel) rfl
theorem k_828 : Cond.selects "TabledOriginModel" ⟨"TabledOriginModel", "count", "(I)I"⟩ ⟨"TabledOriginModel", "count", "(I)I"⟩ ∈ zws := zin 828 (by decide +kernel) rfl
set_option maxRecDepth 20000 in
theorem k_829 : Cond.code ⟨"TabledOriginModel", "count", "(I)I"⟩ prog_11_method_32_code 5 (some .int) ∈ zws := zin 829 (by rfl) rfl
theorem ks_0 : Cond.selects "TabledOrigin" ⟨"TabledOrigin", "makeRequest", "(IZII)I"⟩ ⟨"TabledOrigin", "makeRequest", "(IZII)I"⟩ ∈ zws := zsel 0 (by decide +kernel) rfl
theorem ks_1 : Cond.selects "TabledOrigin" ⟨"TabledOrigin", "requestAt", "(I)LTabledOrigin$Request;"⟩ ⟨"TabledOrigin", "requestAt", "(I)LTabledOrigin$Request;"⟩ ∈ zws := zsel 1 (by decide +kernel) rfl
theorem ks_2 : Cond.selects "TabledOrigin$Server" ⟨"TabledOrigin$Server", "answerPut", "(LTabledOrigin$Request;LTabledOrigin$Resource;)LTabledOrigin$Answer;"⟩ ⟨"TabledOrigin$Server", "answerPut", "(LTabledOrigin$Request;LTabledOrigin$Resource;)LTabledOrigin$Answer;"⟩ ∈ zws := zsel 2 (by decide +kernel) rfl
theorem ks_3 : Cond.selects "TabledOrigin$Table" ⟨"TabledOrigin$Table", "findLive", "(II)I"⟩ ⟨"TabledOrigin$Table", "findLive", "(II)I"⟩ ∈ zws := zsel 3 (by decide +kernel) rfl
theorem ks_4 : Cond.selects "TabledOrigin$Table" ⟨"TabledOrigin$Table", "refer", "(LTabledOrigin$Answer;I)V"⟩ ⟨"TabledOrigin$Table", "refer", "(LTabledOrigin$Answer;I)V"⟩ ∈ zws := zsel 4 (by decide +kernel) rfl
theorem ks_5 : Cond.selects "TabledOrigin$Table" ⟨"TabledOrigin$Table", "hasRoomFor", "(LTabledOrigin$Answer;)Z"⟩ ⟨"TabledOrigin$Table", "hasRoomFor", "(LTabledOrigin$Answer;)Z"⟩ ∈ zws := zsel 5 (by decide +kernel) rfl
theorem ks_6 : Cond.selects "TabledOrigin$Table" ⟨"TabledOrigin$Table", "makeEntry", "(II)I"⟩ ⟨"TabledOrigin$Table", "makeEntry", "(II)I"⟩ ∈ zws := zsel 6 (by decide +kernel) rfl
theorem ks_7 : Cond.selects "TabledOrigin$Server" ⟨"TabledOrigin$Server", "answerGet", "(LTabledOrigin$Request;LTabledOrigin$Resource;)LTabledOrigin$Answer;"⟩ ⟨"TabledOrigin$Server", "answerGet", "(LTabledOrigin$Request;LTabledOrigin$Resource;)LTabledOrigin$Answer;"⟩ ∈ zws := zsel 7 (by decide +kernel) rfl
theorem ks_8 : Cond.selects "TabledOrigin$Client" ⟨"TabledOrigin$Client", "store", "(LTabledOrigin$StoredAnswer;LTabledOrigin$Request;LTabledOrigin$Answer;)V"⟩ ⟨"TabledOrigin$Client", "store", "(LTabledOrigin$StoredAnswer;LTabledOrigin$Request;LTabledOrigin$Answer;)V"⟩ ∈ zws := zsel 8 (by decide +kernel) rfl
theorem ks_9 : Cond.selects "TabledOrigin$Client" ⟨"TabledOrigin$Client", "renew", "(LTabledOrigin$StoredAnswer;LTabledOrigin$Request;LTabledOrigin$Answer;)V"⟩ ⟨"TabledOrigin$Client", "renew", "(LTabledOrigin$StoredAnswer;LTabledOrigin$Request;LTabledOrigin$Answer;)V"⟩ ∈ zws := zsel 9 (by decide +kernel) rfl
theorem ks_10 : Cond.selects "TabledOrigin$Client" ⟨"TabledOrigin$Client", "acknowledge", "(LTabledOrigin$Request;LTabledOrigin$Answer;LTabledOrigin$FeedbackRoad;)V"⟩ ⟨"TabledOrigin$Client", "acknowledge", "(LTabledOrigin$Request;LTabledOrigin$Answer;LTabledOrigin$FeedbackRoad;)V"⟩ ∈ zws := zsel 10 (by decide +kernel) rfl
theorem ks_11 : Cond.selects "TabledOrigin" ⟨"TabledOrigin", "readUnblocked", "()I"⟩ ⟨"TabledOrigin", "readUnblocked", "()I"⟩ ∈ zws := zsel 11 (by decide +kernel) rfl
theorem ks_12 : Cond.selects "TabledOrigin" ⟨"TabledOrigin", "endOutstanding", "(IZ)V"⟩ ⟨"TabledOrigin", "endOutstanding", "(IZ)V"⟩ ∈ zws := zsel 12 (by decide +kernel) rfl
theorem ks_13 : Cond.selects "TabledOrigin" ⟨"TabledOrigin", "refuseFrom", "(I)I"⟩ ⟨"TabledOrigin", "refuseFrom", "(I)I"⟩ ∈ zws := zsel 13 (by decide +kernel) rfl
theorem ks_14 : Cond.selects "TabledOrigin" ⟨"TabledOrigin", "blockedAnswers", "()I"⟩ ⟨"TabledOrigin", "blockedAnswers", "()I"⟩ ∈ zws := zsel 14 (by decide +kernel) rfl
theorem ks_15 : Cond.selects "TabledOriginModel" ⟨"TabledOriginModel", "write", "(III)I"⟩ ⟨"TabledOriginModel", "write", "(III)I"⟩ ∈ zws := zsel 15 (by decide +kernel) rfl
theorem ks_16 : Cond.selects "TabledOriginModel" ⟨"TabledOriginModel", "decide", "(I)I"⟩ ⟨"TabledOriginModel", "decide", "(I)I"⟩ ∈ zws := zsel 16 (by decide +kernel) rfl
theorem ks_17 : Cond.selects "TabledOriginModel" ⟨"TabledOriginModel", "field", "(III)V"⟩ ⟨"TabledOriginModel", "field", "(III)V"⟩ ∈ zws := zsel 17 (by decide +kernel) rfl
theorem ks_18 : Cond.selects "TabledOriginModel" ⟨"TabledOriginModel", "after", "(I)I"⟩ ⟨"TabledOriginModel", "after", "(I)I"⟩ ∈ zws := zsel 18 (by decide +kernel) rfl
theorem ks_19 : Cond.selects "TabledOriginModel" ⟨"TabledOriginModel", "need", "(I)I"⟩ ⟨"TabledOriginModel", "need", "(I)I"⟩ ∈ zws := zsel 19 (by decide +kernel) rfl
theorem ks_20 : Cond.selects "TabledOriginModel" ⟨"TabledOriginModel", "risky", "(II)I"⟩ ⟨"TabledOriginModel", "risky", "(II)I"⟩ ∈ zws := zsel 20 (by decide +kernel) rfl
theorem ks_21 : Cond.selects "TabledOriginModel" ⟨"TabledOriginModel", "outstanding", "(I)Z"⟩ ⟨"TabledOriginModel", "outstanding", "(I)Z"⟩ ∈ zws := zsel 21 (by decide +kernel) rfl
theorem ks_22 : Cond.selects "TabledOriginModel" ⟨"TabledOriginModel", "oldest", "()I"⟩ ⟨"TabledOriginModel", "oldest", "()I"⟩ ∈ zws := zsel 22 (by decide +kernel) rfl
theorem ks_23 : Cond.selects "TabledOriginModel" ⟨"TabledOriginModel", "uses", "(II)I"⟩ ⟨"TabledOriginModel", "uses", "(II)I"⟩ ∈ zws := zsel 23 (by decide +kernel) rfl
theorem ks_24 : Cond.selects "TabledOriginModel" ⟨"TabledOriginModel", "ask", "(IZII)I"⟩ ⟨"TabledOriginModel", "ask", "(IZII)I"⟩ ∈ zws := zsel 24 (by decide +kernel) rfl
theorem ks_25 : Cond.selects "TabledOriginModel" ⟨"TabledOriginModel", "read", "(I)I"⟩ ⟨"TabledOriginModel", "read", "(I)I"⟩ ∈ zws := zsel 25 (by decide +kernel) rfl
theorem ks_26 : Cond.selects "TabledOriginModel" ⟨"TabledOriginModel", "tell", "(II)V"⟩ ⟨"TabledOriginModel", "tell", "(II)V"⟩ ∈ zws := zsel 26 (by decide +kernel) rfl
theorem in_0 : ∀ w ∈ u_ws fR_0 fT_0 10, w ∈ zws := by
  intro w hw
  obtain ⟨k, hk, rfl⟩ := List.mem_map.mp hw
  have hk := List.mem_range.mp hk
  match k, hk with
  | 0, _ => exact k_355
  | 1, _ => exact k_357
  | 2, _ => exact k_359
  | 3, _ => exact k_361
  | 4, _ => exact k_363
  | 5, _ => exact k_365
  | 6, _ => exact k_367
  | 7, _ => exact k_369
  | 8, _ => exact k_371
  | 9, _ => exact k_373
  | n + 10, hk => exact absurd hk (by omega)
theorem in_1 : ∀ w ∈ u_ws fR_1 fT_1 4, w ∈ zws := by
  intro w hw
  obtain ⟨k, hk, rfl⟩ := List.mem_map.mp hw
  have hk := List.mem_range.mp hk
  match k, hk with
  | 0, _ => exact k_155
  | 1, _ => exact k_157
  | 2, _ => exact k_159
  | 3, _ => exact k_161
  | n + 4, hk => exact absurd hk (by omega)
theorem in_2 : ∀ w ∈ u_ws fR_2 fT_2 4, w ∈ zws := by
  intro w hw
  obtain ⟨k, hk, rfl⟩ := List.mem_map.mp hw
  have hk := List.mem_range.mp hk
  match k, hk with
  | 0, _ => exact k_174
  | 1, _ => exact k_176
  | 2, _ => exact k_178
  | 3, _ => exact k_180
  | n + 4, hk => exact absurd hk (by omega)
theorem in_3 : ∀ w ∈ u_ws fR_3 fT_3 12, w ∈ zws := by
  intro w hw
  obtain ⟨k, hk, rfl⟩ := List.mem_map.mp hw
  have hk := List.mem_range.mp hk
  match k, hk with
  | 0, _ => exact k_267
  | 1, _ => exact k_269
  | 2, _ => exact k_271
  | 3, _ => exact k_273
  | 4, _ => exact k_275
  | 5, _ => exact k_277
  | 6, _ => exact k_279
  | 7, _ => exact k_281
  | 8, _ => exact k_283
  | 9, _ => exact k_285
  | 10, _ => exact k_287
  | 11, _ => exact k_289
  | n + 12, hk => exact absurd hk (by omega)
theorem in_4 : ∀ w ∈ u_ws fR_4 fT_4 4, w ∈ zws := by
  intro w hw
  obtain ⟨k, hk, rfl⟩ := List.mem_map.mp hw
  have hk := List.mem_range.mp hk
  match k, hk with
  | 0, _ => exact k_39
  | 1, _ => exact k_41
  | 2, _ => exact k_43
  | 3, _ => exact k_45
  | n + 4, hk => exact absurd hk (by omega)
theorem in_5 : ∀ w ∈ u_ws fR_5 fT_5 6, w ∈ zws := by
  intro w hw
  obtain ⟨k, hk, rfl⟩ := List.mem_map.mp hw
  have hk := List.mem_range.mp hk
  match k, hk with
  | 0, _ => exact k_95
  | 1, _ => exact k_97
  | 2, _ => exact k_99
  | 3, _ => exact k_101
  | 4, _ => exact k_103
  | 5, _ => exact k_105
  | n + 6, hk => exact absurd hk (by omega)
theorem in_6 : ∀ w ∈ u_ws fR_6 fT_6 6, w ∈ zws := by
  intro w hw
  obtain ⟨k, hk, rfl⟩ := List.mem_map.mp hw
  have hk := List.mem_range.mp hk
  match k, hk with
  | 0, _ => exact k_135
  | 1, _ => exact k_137
  | 2, _ => exact k_139
  | 3, _ => exact k_141
  | 4, _ => exact k_143
  | 5, _ => exact k_145
  | n + 6, hk => exact absurd hk (by omega)
theorem in_7 : ∀ w ∈ u_ws fR_7 fT_7 8, w ∈ zws := by
  intro w hw
  obtain ⟨k, hk, rfl⟩ := List.mem_map.mp hw
  have hk := List.mem_range.mp hk
  match k, hk with
  | 0, _ => exact k_68
  | 1, _ => exact k_70
  | 2, _ => exact k_72
  | 3, _ => exact k_74
  | 4, _ => exact k_76
  | 5, _ => exact k_78
  | 6, _ => exact k_80
  | 7, _ => exact k_82
  | n + 8, hk => exact absurd hk (by omega)
theorem in_8 : ∀ w ∈ u_ws fR_8 fT_8 6, w ∈ zws := by
  intro w hw
  obtain ⟨k, hk, rfl⟩ := List.mem_map.mp hw
  have hk := List.mem_range.mp hk
  match k, hk with
  | 0, _ => exact k_191
  | 1, _ => exact k_193
  | 2, _ => exact k_195
  | 3, _ => exact k_197
  | 4, _ => exact k_199
  | 5, _ => exact k_201
  | n + 6, hk => exact absurd hk (by omega)
theorem in_9 : ∀ w ∈ u_ws fR_9 fT_9 40, w ∈ zws := by
  intro w hw
  obtain ⟨k, hk, rfl⟩ := List.mem_map.mp hw
  have hk := List.mem_range.mp hk
  match k, hk with
  | 0, _ => exact k_625
  | 1, _ => exact k_627
  | 2, _ => exact k_629
  | 3, _ => exact k_631
  | 4, _ => exact k_633
  | 5, _ => exact k_635
  | 6, _ => exact k_637
  | 7, _ => exact k_639
  | 8, _ => exact k_641
  | 9, _ => exact k_643
  | 10, _ => exact k_645
  | 11, _ => exact k_647
  | 12, _ => exact k_649
  | 13, _ => exact k_651
  | 14, _ => exact k_653
  | 15, _ => exact k_655
  | 16, _ => exact k_657
  | 17, _ => exact k_659
  | 18, _ => exact k_661
  | 19, _ => exact k_663
  | 20, _ => exact k_665
  | 21, _ => exact k_667
  | 22, _ => exact k_669
  | 23, _ => exact k_671
  | 24, _ => exact k_673
  | 25, _ => exact k_675
  | 26, _ => exact k_677
  | 27, _ => exact k_679
  | 28, _ => exact k_681
  | 29, _ => exact k_683
  | 30, _ => exact k_685
  | 31, _ => exact k_687
  | 32, _ => exact k_689
  | 33, _ => exact k_691
  | 34, _ => exact k_693
  | 35, _ => exact k_695
  | 36, _ => exact k_697
  | 37, _ => exact k_699
  | 38, _ => exact k_701
  | 39, _ => exact k_703
  | n + 40, hk => exact absurd hk (by omega)
theorem df_0 : ∀ j, j < 10 → defaultValue (ty_0 j) = vp_V ([.int 0, .null, .int 0, .int 0, .int 0, .int 0, .int 0, .int 0, .int 0, .int 0] : List Value) j := by decide +kernel
theorem df_1 : ∀ j, j < 4 → defaultValue (ty_1 j) = vp_V ([.null, .int 0, .int 0, .int 0] : List Value) j := by decide +kernel
theorem df_2 : ∀ j, j < 4 → defaultValue (ty_2 j) = vp_V ([.null, .null, .int 0, .int 0] : List Value) j := by decide +kernel
theorem df_3 : ∀ j, j < 12 → defaultValue (ty_3 j) = vp_V ([.int 0, .int 0, .int 0, .int 0, .int 0, .int 0, .int 0, .int 0, .int 0, .int 0, .int 0, .null] : List Value) j := by decide +kernel
theorem df_4 : ∀ j, j < 4 → defaultValue (ty_4 j) = vp_V ([.int 0, .int 0, .int 0, .int 0] : List Value) j := by decide +kernel
theorem df_5 : ∀ j, j < 6 → defaultValue (ty_5 j) = vp_V ([.null, .null, .int 0, .int 0, .int 0, .int 0] : List Value) j := by decide +kernel
theorem df_6 : ∀ j, j < 6 → defaultValue (ty_6 j) = vp_V ([.int 0, .int 0, .int 0, .int 0, .int 0, .int 0] : List Value) j := by decide +kernel
theorem df_7 : ∀ j, j < 8 → defaultValue (ty_7 j) = vp_V ([.null, .null, .null, .int 0, .int 0, .int 0, .int 0, .int 0] : List Value) j := by decide +kernel
theorem df_8 : ∀ j, j < 6 → defaultValue (ty_8 j) = vp_V ([.null, .null, .null, .null, .int 0, .int 0] : List Value) j := by decide +kernel
theorem df_9 : ∀ j, j < 40 → defaultValue (ty_9 j) = vp_V ([.null, .null, .null, .null, .int 0, .int 0, .int 0, .null, .null, .null, .null, .null, .null, .null, .null, .null, .null, .null, .null, .null, .null, .null, .null, .null, .null, .null, .null, .null, .int 0, .int 0, .int 0, .int 0, .null, .null, .int 0, .int 0, .int 0, .int 0, .int 0, .int 0] : List Value) j := by decide +kernel
