/-! ===== words of the tables by their places; methods (by program: wip/gen_words.py) ===== -/
def mGw : List Cond := lw_tbl.filter goodWord
theorem mGw_of {w : Cond} (h : w ∈ lw_tbl) (g : goodWord w = true) : w ∈ mGw := List.mem_filter.mpr ⟨h, g⟩
/-- links between nest mates, casts: words that stay true, though not among the good ones -/
def mNk : Cond → Bool
  | .fieldLinkNest .. => true
  | .methodLinkNest .. => true
  | .castable .. => true
  | .declares .. => true
  | _ => false
def mNw : List Cond := lw_tbl.filter mNk
theorem mGw_at {w : Cond} (i : Nat) (h : lw_tbl[i]? = some w) (g : goodWord w = true) : w ∈ mGw := mGw_of (List.mem_of_getElem? h) g
def tS_0_240 : List Cond := []
def tS_0_239 : List Cond := (Jvm.Cond.methodLink "java/lang/Throwable" (202 : Nat) ({ cls := "java/lang/Throwable", name := "fillInStackTrace", desc := "(I)Ljava/lang/Throwable;" } : Jvm.MethodName)) :: tS_0_240
def tS_0_238 : List Cond := (Jvm.Cond.codeSync ({ cls := "java/lang/Throwable", name := "fillInStackTrace", desc := "()Ljava/lang/Throwable;" } : Jvm.MethodName) prog_20_method_18_code (1 : Nat) (Option.some (Jvm.ClassFile.FieldType.object "java/lang/Throwable"))) :: tS_0_239
def tS_0_237 : List Cond := (Jvm.Cond.selects "java/lang/IllegalArgumentException" ({ cls := "java/lang/Throwable", name := "fillInStackTrace", desc := "()Ljava/lang/Throwable;" } : Jvm.MethodName) ({ cls := "java/lang/Throwable", name := "fillInStackTrace", desc := "()Ljava/lang/Throwable;" } : Jvm.MethodName)) :: tS_0_238
def tS_0_236 : List Cond := (Jvm.Cond.sameMethod "java/lang/Throwable" "java/lang/Throwable" "fillInStackTrace" "()Ljava/lang/Throwable;") :: tS_0_237
def tS_0_235 : List Cond := (Jvm.Cond.instanceMethod ({ cls := "java/lang/Throwable", name := "fillInStackTrace", desc := "()Ljava/lang/Throwable;" } : Jvm.MethodName)) :: tS_0_236
def tS_0_234 : List Cond := (Jvm.Cond.methodLink "java/lang/Throwable" (27 : Nat) ({ cls := "java/lang/Throwable", name := "fillInStackTrace", desc := "()Ljava/lang/Throwable;" } : Jvm.MethodName)) :: tS_0_235
def tS_0_233 : List Cond := (Jvm.Cond.laysStatic "java/lang/Throwable" "SUPPRESSED_SENTINEL" "Ljava/util/List;") :: tS_0_234
def tS_0_232 : List Cond := (Jvm.Cond.fieldLink "java/lang/Throwable" (20 : Nat) "java/lang/Throwable" "SUPPRESSED_SENTINEL" "Ljava/util/List;") :: tS_0_233
def tS_0_231 : List Cond := (Jvm.Cond.laysStatic "java/lang/Throwable" "UNASSIGNED_STACK" "[Ljava/lang/StackTraceElement;") :: tS_0_232
def tS_0_230 : List Cond := (Jvm.Cond.fieldLink "java/lang/Throwable" (13 : Nat) "java/lang/Throwable" "UNASSIGNED_STACK" "[Ljava/lang/StackTraceElement;") :: tS_0_231
def tS_0_229 : List Cond := (Jvm.Cond.methodLink "java/lang/Throwable" (1 : Nat) ({ cls := "java/lang/Object", name := "<init>", desc := "()V" } : Jvm.MethodName)) :: tS_0_230
def tS_0_228 : List Cond := (Jvm.Cond.code ({ cls := "java/lang/Throwable", name := "<init>", desc := "()V" } : Jvm.MethodName) prog_20_method_1_code (1 : Nat) (Option.none : Option Jvm.ClassFile.FieldType)) :: tS_0_229
def tS_0_227 : List Cond := (Jvm.Cond.instanceMethod ({ cls := "java/lang/Throwable", name := "<init>", desc := "()V" } : Jvm.MethodName)) :: tS_0_228
def tS_0_226 : List Cond := (Jvm.Cond.superclass "java/lang/Throwable" "java/lang/Object") :: tS_0_227
def tS_0_225 : List Cond := (Jvm.Cond.fieldLink "java/lang/Throwable" (198 : Nat) "java/lang/Throwable" "backtrace" "Ljava/lang/Object;") :: tS_0_226
def tS_0_224 : List Cond := (Jvm.Cond.lays "java/lang/Throwable" "java/lang/Throwable" "backtrace" "Ljava/lang/Object;") :: tS_0_225
def tS_0_223 : List Cond := (Jvm.Cond.lays "java/lang/IndexOutOfBoundsException" "java/lang/Throwable" "backtrace" "Ljava/lang/Object;") :: tS_0_224
def tS_0_222 : List Cond := (Jvm.Cond.lays "java/lang/Throwable" "java/lang/Throwable" "detailMessage" "Ljava/lang/String;") :: tS_0_223
def tS_0_221 : List Cond := (Jvm.Cond.lays "java/lang/IndexOutOfBoundsException" "java/lang/Throwable" "detailMessage" "Ljava/lang/String;") :: tS_0_222
def tS_0_220 : List Cond := (Jvm.Cond.lays "java/lang/Throwable" "java/lang/Throwable" "suppressedExceptions" "Ljava/util/List;") :: tS_0_221
def tS_0_219 : List Cond := (Jvm.Cond.lays "java/lang/IndexOutOfBoundsException" "java/lang/Throwable" "suppressedExceptions" "Ljava/util/List;") :: tS_0_220
def tS_0_218 : List Cond := (Jvm.Cond.lays "java/lang/Throwable" "java/lang/Throwable" "stackTrace" "[Ljava/lang/StackTraceElement;") :: tS_0_219
def tS_0_217 : List Cond := (Jvm.Cond.lays "java/lang/IndexOutOfBoundsException" "java/lang/Throwable" "stackTrace" "[Ljava/lang/StackTraceElement;") :: tS_0_218
def tS_0_216 : List Cond := (Jvm.Cond.lays "java/lang/Throwable" "java/lang/Throwable" "cause" "Ljava/lang/Throwable;") :: tS_0_217
def tS_0_215 : List Cond := (Jvm.Cond.lays "java/lang/IndexOutOfBoundsException" "java/lang/Throwable" "cause" "Ljava/lang/Throwable;") :: tS_0_216
def tS_0_214 : List Cond := (Jvm.Cond.selects "java/lang/IndexOutOfBoundsException" ({ cls := "java/lang/Throwable", name := "fillInStackTrace", desc := "()Ljava/lang/Throwable;" } : Jvm.MethodName) ({ cls := "java/lang/Throwable", name := "fillInStackTrace", desc := "()Ljava/lang/Throwable;" } : Jvm.MethodName)) :: tS_0_215
def tS_0_213 : List Cond := (Jvm.Cond.selects "java/lang/IndexOutOfBoundsException" ({ cls := "java/lang/Throwable", name := "fillInStackTrace", desc := "(I)Ljava/lang/Throwable;" } : Jvm.MethodName) ({ cls := "java/lang/Throwable", name := "fillInStackTrace", desc := "(I)Ljava/lang/Throwable;" } : Jvm.MethodName)) :: tS_0_214
def tS_0_212 : List Cond := (Jvm.Cond.declares ({ cls := "java/lang/Throwable", name := "<init>", desc := "(Ljava/lang/String;)V" } : Jvm.MethodName)) :: tS_0_213
def tS_0_211 : List Cond := (Jvm.Cond.declares ({ cls := "java/lang/Throwable", name := "<init>", desc := "()V" } : Jvm.MethodName)) :: tS_0_212
def tS_0_210 : List Cond := (Jvm.Cond.declares ({ cls := "java/lang/Exception", name := "<init>", desc := "(Ljava/lang/String;)V" } : Jvm.MethodName)) :: tS_0_211
def tS_0_209 : List Cond := (Jvm.Cond.declares ({ cls := "java/lang/Exception", name := "<init>", desc := "()V" } : Jvm.MethodName)) :: tS_0_210
def tS_0_208 : List Cond := (Jvm.Cond.declares ({ cls := "java/lang/RuntimeException", name := "<init>", desc := "(Ljava/lang/String;)V" } : Jvm.MethodName)) :: tS_0_209
def tS_0_207 : List Cond := (Jvm.Cond.declares ({ cls := "java/lang/RuntimeException", name := "<init>", desc := "()V" } : Jvm.MethodName)) :: tS_0_208
def tS_0_206 : List Cond := (Jvm.Cond.castable "java/lang/IndexOutOfBoundsException" "java/lang/IndexOutOfBoundsException") :: tS_0_207
def tS_0_205 : List Cond := (Jvm.Cond.instantiable "java/lang/IndexOutOfBoundsException" (6 : Nat)) :: tS_0_206
def tS_0_204 : List Cond := (Jvm.Cond.classLink "Runweaver" (285 : Nat) "java/lang/IndexOutOfBoundsException") :: tS_0_205
def tS_0_203 : List Cond := (Jvm.Cond.code ({ cls := "Runweaver", name := "rowOf", desc := "(I)LRunweaver$Row;" } : Jvm.MethodName) prog_1_method_48_code (2 : Nat) (Option.some (Jvm.ClassFile.FieldType.object "Runweaver$Row"))) :: tS_0_204
def tS_0_202 : List Cond := (Jvm.Cond.instanceMethod ({ cls := "Runweaver", name := "rowOf", desc := "(I)LRunweaver$Row;" } : Jvm.MethodName)) :: tS_0_203
def tS_0_201 : List Cond := (Jvm.Cond.privateMethod ({ cls := "Runweaver", name := "rowOf", desc := "(I)LRunweaver$Row;" } : Jvm.MethodName)) :: tS_0_202
def tS_0_200 : List Cond := (Jvm.Cond.methodLink "Runweaver" (27 : Nat) ({ cls := "Runweaver", name := "rowOf", desc := "(I)LRunweaver$Row;" } : Jvm.MethodName)) :: tS_0_201
def tS_0_199 : List Cond := (Jvm.Cond.code ({ cls := "Runweaver", name := "many", desc := "(I)I" } : Jvm.MethodName) prog_1_method_16_code (2 : Nat) (Option.some Jvm.ClassFile.FieldType.int)) :: tS_0_200
def tS_0_198 : List Cond := (Jvm.Cond.selects "Runweaver" ({ cls := "Runweaver", name := "many", desc := "(I)I" } : Jvm.MethodName) ({ cls := "Runweaver", name := "many", desc := "(I)I" } : Jvm.MethodName)) :: tS_0_199
def tS_0_197 : List Cond := (Jvm.Cond.instanceMethod ({ cls := "Runweaver", name := "many", desc := "(I)I" } : Jvm.MethodName)) :: tS_0_198
def tS_0_196 : List Cond := (Jvm.Cond.methodLink "Runweaver" (254 : Nat) ({ cls := "Runweaver", name := "many", desc := "(I)I" } : Jvm.MethodName)) :: tS_0_197
def tS_0_195 : List Cond := (Jvm.Cond.constantLong "Runweaver" (252 : Nat) (31 : Int64)) :: tS_0_196
def tS_0_194 : List Cond := (Jvm.Cond.constantLong "Runweaver" (250 : Nat) (8007 : Int64)) :: tS_0_195
def tS_0_193 : List Cond := (Jvm.Cond.code ({ cls := "Runweaver", name := "digest", desc := "()J" } : Jvm.MethodName) prog_1_method_47_code (4 : Nat) (Option.some Jvm.ClassFile.FieldType.long)) :: tS_0_194
def tS_0_192 : List Cond := (Jvm.Cond.selects "Runweaver" ({ cls := "Runweaver", name := "digest", desc := "()J" } : Jvm.MethodName) ({ cls := "Runweaver", name := "digest", desc := "()J" } : Jvm.MethodName)) :: tS_0_193
def tS_0_191 : List Cond := (Jvm.Cond.instanceMethod ({ cls := "Runweaver", name := "digest", desc := "()J" } : Jvm.MethodName)) :: tS_0_192
def tS_0_190 : List Cond := (Jvm.Cond.methodLink "RunweaverLaw" (316 : Nat) ({ cls := "Runweaver", name := "digest", desc := "()J" } : Jvm.MethodName)) :: tS_0_191
def tS_0_189 : List Cond := (Jvm.Cond.code ({ cls := "Runweaver$Row", name := "otherItems", desc := "(LRunweaver$Row;)I" } : Jvm.MethodName) prog_3_method_11_code (5 : Nat) (Option.some Jvm.ClassFile.FieldType.int)) :: tS_0_190
def tS_0_188 : List Cond := (Jvm.Cond.selects "Runweaver$Row" ({ cls := "Runweaver$Row", name := "otherItems", desc := "(LRunweaver$Row;)I" } : Jvm.MethodName) ({ cls := "Runweaver$Row", name := "otherItems", desc := "(LRunweaver$Row;)I" } : Jvm.MethodName)) :: tS_0_189
def tS_0_187 : List Cond := (Jvm.Cond.instanceMethod ({ cls := "Runweaver$Row", name := "otherItems", desc := "(LRunweaver$Row;)I" } : Jvm.MethodName)) :: tS_0_188
def tS_0_186 : List Cond := (Jvm.Cond.methodLink "Runweaver" (120 : Nat) ({ cls := "Runweaver$Row", name := "otherItems", desc := "(LRunweaver$Row;)I" } : Jvm.MethodName)) :: tS_0_187
def tS_0_185 : List Cond := (Jvm.Cond.code ({ cls := "Runweaver$Loom", name := "weaveJoined", desc := "(I)V" } : Jvm.MethodName) prog_2_method_3_code (2 : Nat) (Option.none : Option Jvm.ClassFile.FieldType)) :: tS_0_186
def tS_0_184 : List Cond := (Jvm.Cond.selects "Runweaver$Loom" ({ cls := "Runweaver$Loom", name := "weaveJoined", desc := "(I)V" } : Jvm.MethodName) ({ cls := "Runweaver$Loom", name := "weaveJoined", desc := "(I)V" } : Jvm.MethodName)) :: tS_0_185
def tS_0_183 : List Cond := (Jvm.Cond.instanceMethod ({ cls := "Runweaver$Loom", name := "weaveJoined", desc := "(I)V" } : Jvm.MethodName)) :: tS_0_184
def tS_0_182 : List Cond := (Jvm.Cond.methodLink "Runweaver" (138 : Nat) ({ cls := "Runweaver$Loom", name := "weaveJoined", desc := "(I)V" } : Jvm.MethodName)) :: tS_0_183
def tS_0_181 : List Cond := (Jvm.Cond.methodLink "Runweaver" (90 : Nat) ({ cls := "Runweaver$Row", name := "appendSpan", desc := "(LRunweaver$Row;II)V" } : Jvm.MethodName)) :: tS_0_182
def tS_0_180 : List Cond := (Jvm.Cond.methodLink "Runweaver" (94 : Nat) ({ cls := "Runweaver$Row", name := "become", desc := "(LRunweaver$Row;)V" } : Jvm.MethodName)) :: tS_0_181
def tS_0_179 : List Cond := (Jvm.Cond.code ({ cls := "Runweaver$Row", name := "free", desc := "()I" } : Jvm.MethodName) prog_3_method_3_code (1 : Nat) (Option.some Jvm.ClassFile.FieldType.int)) :: tS_0_180
def tS_0_178 : List Cond := (Jvm.Cond.selects "Runweaver$Row" ({ cls := "Runweaver$Row", name := "free", desc := "()I" } : Jvm.MethodName) ({ cls := "Runweaver$Row", name := "free", desc := "()I" } : Jvm.MethodName)) :: tS_0_179
def tS_0_177 : List Cond := (Jvm.Cond.instanceMethod ({ cls := "Runweaver$Row", name := "free", desc := "()I" } : Jvm.MethodName)) :: tS_0_178
def tS_0_176 : List Cond := (Jvm.Cond.methodLink "Runweaver" (61 : Nat) ({ cls := "Runweaver$Row", name := "free", desc := "()I" } : Jvm.MethodName)) :: tS_0_177
def tS_0_175 : List Cond := (Jvm.Cond.code ({ cls := "Runweaver", name := "isWeaveSound", desc := "(LRunweaver$Row;LRunweaver$Row;)Z" } : Jvm.MethodName) prog_1_method_66_code (3 : Nat) (Option.some Jvm.ClassFile.FieldType.boolean)) :: tS_0_176
def tS_0_174 : List Cond := (Jvm.Cond.instanceMethod ({ cls := "Runweaver", name := "isWeaveSound", desc := "(LRunweaver$Row;LRunweaver$Row;)Z" } : Jvm.MethodName)) :: tS_0_175
def tS_0_173 : List Cond := (Jvm.Cond.privateMethod ({ cls := "Runweaver", name := "isWeaveSound", desc := "(LRunweaver$Row;LRunweaver$Row;)Z" } : Jvm.MethodName)) :: tS_0_174
def tS_0_172 : List Cond := (Jvm.Cond.methodLink "Runweaver" (246 : Nat) ({ cls := "Runweaver", name := "isWeaveSound", desc := "(LRunweaver$Row;LRunweaver$Row;)Z" } : Jvm.MethodName)) :: tS_0_173
def tS_0_171 : List Cond := (Jvm.Cond.code ({ cls := "Runweaver$Row", name := "rankAt", desc := "(I)I" } : Jvm.MethodName) prog_3_method_15_code (5 : Nat) (Option.some Jvm.ClassFile.FieldType.int)) :: tS_0_172
def tS_0_170 : List Cond := (Jvm.Cond.selects "Runweaver$Row" ({ cls := "Runweaver$Row", name := "rankAt", desc := "(I)I" } : Jvm.MethodName) ({ cls := "Runweaver$Row", name := "rankAt", desc := "(I)I" } : Jvm.MethodName)) :: tS_0_171
def tS_0_169 : List Cond := (Jvm.Cond.instanceMethod ({ cls := "Runweaver$Row", name := "rankAt", desc := "(I)I" } : Jvm.MethodName)) :: tS_0_170
def tS_0_168 : List Cond := (Jvm.Cond.methodLink "Runweaver$Row" (42 : Nat) ({ cls := "Runweaver$Row", name := "rankAt", desc := "(I)I" } : Jvm.MethodName)) :: tS_0_169
def tS_0_167 : List Cond := (Jvm.Cond.code ({ cls := "Runweaver$Row", name := "standsByRanksIn", desc := "(LRunweaver$Row;)Z" } : Jvm.MethodName) prog_3_method_16_code (4 : Nat) (Option.some Jvm.ClassFile.FieldType.boolean)) :: tS_0_168
def tS_0_166 : List Cond := (Jvm.Cond.selects "Runweaver$Row" ({ cls := "Runweaver$Row", name := "standsByRanksIn", desc := "(LRunweaver$Row;)Z" } : Jvm.MethodName) ({ cls := "Runweaver$Row", name := "standsByRanksIn", desc := "(LRunweaver$Row;)Z" } : Jvm.MethodName)) :: tS_0_167
def tS_0_165 : List Cond := (Jvm.Cond.instanceMethod ({ cls := "Runweaver$Row", name := "standsByRanksIn", desc := "(LRunweaver$Row;)Z" } : Jvm.MethodName)) :: tS_0_166
def tS_0_164 : List Cond := (Jvm.Cond.methodLink "Runweaver" (308 : Nat) ({ cls := "Runweaver$Row", name := "standsByRanksIn", desc := "(LRunweaver$Row;)Z" } : Jvm.MethodName)) :: tS_0_165
def tS_0_163 : List Cond := (Jvm.Cond.code ({ cls := "Runweaver$Row", name := "tiedPairsOfSorted", desc := "()I" } : Jvm.MethodName) prog_3_method_30_code (4 : Nat) (Option.some Jvm.ClassFile.FieldType.int)) :: tS_0_164
def tS_0_162 : List Cond := (Jvm.Cond.selects "Runweaver$Row" ({ cls := "Runweaver$Row", name := "tiedPairsOfSorted", desc := "()I" } : Jvm.MethodName) ({ cls := "Runweaver$Row", name := "tiedPairsOfSorted", desc := "()I" } : Jvm.MethodName)) :: tS_0_163
def tS_0_161 : List Cond := (Jvm.Cond.instanceMethod ({ cls := "Runweaver$Row", name := "tiedPairsOfSorted", desc := "()I" } : Jvm.MethodName)) :: tS_0_162
def tS_0_160 : List Cond := (Jvm.Cond.methodLink "Runweaver" (181 : Nat) ({ cls := "Runweaver$Row", name := "tiedPairsOfSorted", desc := "()I" } : Jvm.MethodName)) :: tS_0_161
def tS_0_159 : List Cond := (Jvm.Cond.code ({ cls := "Runweaver$Row", name := "rightPairs", desc := "()I" } : Jvm.MethodName) prog_3_method_19_code (4 : Nat) (Option.some Jvm.ClassFile.FieldType.int)) :: tS_0_160
def tS_0_158 : List Cond := (Jvm.Cond.selects "Runweaver$Row" ({ cls := "Runweaver$Row", name := "rightPairs", desc := "()I" } : Jvm.MethodName) ({ cls := "Runweaver$Row", name := "rightPairs", desc := "()I" } : Jvm.MethodName)) :: tS_0_159
def tS_0_157 : List Cond := (Jvm.Cond.instanceMethod ({ cls := "Runweaver$Row", name := "rightPairs", desc := "()I" } : Jvm.MethodName)) :: tS_0_158
def tS_0_156 : List Cond := (Jvm.Cond.methodLink "Runweaver" (178 : Nat) ({ cls := "Runweaver$Row", name := "rightPairs", desc := "()I" } : Jvm.MethodName)) :: tS_0_157
def tS_0_155 : List Cond := (Jvm.Cond.code ({ cls := "Runweaver$Row", name := "isRising", desc := "()Z" } : Jvm.MethodName) prog_3_method_12_code (2 : Nat) (Option.some Jvm.ClassFile.FieldType.boolean)) :: tS_0_156
def tS_0_154 : List Cond := (Jvm.Cond.selects "Runweaver$Row" ({ cls := "Runweaver$Row", name := "isRising", desc := "()Z" } : Jvm.MethodName) ({ cls := "Runweaver$Row", name := "isRising", desc := "()Z" } : Jvm.MethodName)) :: tS_0_155
def tS_0_153 : List Cond := (Jvm.Cond.instanceMethod ({ cls := "Runweaver$Row", name := "isRising", desc := "()Z" } : Jvm.MethodName)) :: tS_0_154
def tS_0_152 : List Cond := (Jvm.Cond.methodLink "Runweaver" (131 : Nat) ({ cls := "Runweaver$Row", name := "isRising", desc := "()Z" } : Jvm.MethodName)) :: tS_0_153
def tS_0_151 : List Cond := (Jvm.Cond.code ({ cls := "Runweaver$Row", name := "wrongPairs", desc := "()I" } : Jvm.MethodName) prog_3_method_18_code (4 : Nat) (Option.some Jvm.ClassFile.FieldType.int)) :: tS_0_152
def tS_0_150 : List Cond := (Jvm.Cond.selects "Runweaver$Row" ({ cls := "Runweaver$Row", name := "wrongPairs", desc := "()I" } : Jvm.MethodName) ({ cls := "Runweaver$Row", name := "wrongPairs", desc := "()I" } : Jvm.MethodName)) :: tS_0_151
def tS_0_149 : List Cond := (Jvm.Cond.instanceMethod ({ cls := "Runweaver$Row", name := "wrongPairs", desc := "()I" } : Jvm.MethodName)) :: tS_0_150
def tS_0_148 : List Cond := (Jvm.Cond.methodLink "Runweaver" (175 : Nat) ({ cls := "Runweaver$Row", name := "wrongPairs", desc := "()I" } : Jvm.MethodName)) :: tS_0_149
def tS_0_147 : List Cond := (Jvm.Cond.methodLink "Runweaver$Row" (26 : Nat) ({ cls := "Runweaver$Row", name := "append", desc := "(II)V" } : Jvm.MethodName)) :: tS_0_148
def tS_0_146 : List Cond := (Jvm.Cond.code ({ cls := "Runweaver$Row", name := "appendSpan", desc := "(LRunweaver$Row;II)V" } : Jvm.MethodName) prog_3_method_6_code (5 : Nat) (Option.none : Option Jvm.ClassFile.FieldType)) :: tS_0_147
def tS_0_145 : List Cond := (Jvm.Cond.selects "Runweaver$Row" ({ cls := "Runweaver$Row", name := "appendSpan", desc := "(LRunweaver$Row;II)V" } : Jvm.MethodName) ({ cls := "Runweaver$Row", name := "appendSpan", desc := "(LRunweaver$Row;II)V" } : Jvm.MethodName)) :: tS_0_146
def tS_0_144 : List Cond := (Jvm.Cond.instanceMethod ({ cls := "Runweaver$Row", name := "appendSpan", desc := "(LRunweaver$Row;II)V" } : Jvm.MethodName)) :: tS_0_145
def tS_0_143 : List Cond := (Jvm.Cond.methodLink "Runweaver$Loom" (63 : Nat) ({ cls := "Runweaver$Row", name := "appendSpan", desc := "(LRunweaver$Row;II)V" } : Jvm.MethodName)) :: tS_0_144
def tS_0_142 : List Cond := (Jvm.Cond.code ({ cls := "Runweaver$Row", name := "append", desc := "(II)V" } : Jvm.MethodName) prog_3_method_5_code (3 : Nat) (Option.none : Option Jvm.ClassFile.FieldType)) :: tS_0_143
def tS_0_141 : List Cond := (Jvm.Cond.selects "Runweaver$Row" ({ cls := "Runweaver$Row", name := "append", desc := "(II)V" } : Jvm.MethodName) ({ cls := "Runweaver$Row", name := "append", desc := "(II)V" } : Jvm.MethodName)) :: tS_0_142
def tS_0_140 : List Cond := (Jvm.Cond.instanceMethod ({ cls := "Runweaver$Row", name := "append", desc := "(II)V" } : Jvm.MethodName)) :: tS_0_141
def tS_0_139 : List Cond := (Jvm.Cond.methodLink "Runweaver$Loom" (59 : Nat) ({ cls := "Runweaver$Row", name := "append", desc := "(II)V" } : Jvm.MethodName)) :: tS_0_140
def tS_0_138 : List Cond := (Jvm.Cond.code ({ cls := "Runweaver$Loom", name := "mergeSpans", desc := "(LRunweaver$Row;IIILRunweaver$Row;)I" } : Jvm.MethodName) prog_2_method_5_code (8 : Nat) (Option.some Jvm.ClassFile.FieldType.int)) :: tS_0_139
def tS_0_137 : List Cond := (Jvm.Cond.static ({ cls := "Runweaver$Loom", name := "mergeSpans", desc := "(LRunweaver$Row;IIILRunweaver$Row;)I" } : Jvm.MethodName)) :: tS_0_138
def tS_0_136 : List Cond := (Jvm.Cond.methodLink "Runweaver$Loom" (42 : Nat) ({ cls := "Runweaver$Loom", name := "mergeSpans", desc := "(LRunweaver$Row;IIILRunweaver$Row;)I" } : Jvm.MethodName)) :: tS_0_137
def tS_0_135 : List Cond := (Jvm.Cond.methodLink "Runweaver$Loom" (46 : Nat) ({ cls := "java/lang/Math", name := "min", desc := "(II)I" } : Jvm.MethodName)) :: tS_0_136
def tS_0_134 : List Cond := (Jvm.Cond.code ({ cls := "Runweaver$Row", name := "empty", desc := "()V" } : Jvm.MethodName) prog_3_method_4_code (1 : Nat) (Option.none : Option Jvm.ClassFile.FieldType)) :: tS_0_135
def tS_0_133 : List Cond := (Jvm.Cond.selects "Runweaver$Row" ({ cls := "Runweaver$Row", name := "empty", desc := "()V" } : Jvm.MethodName) ({ cls := "Runweaver$Row", name := "empty", desc := "()V" } : Jvm.MethodName)) :: tS_0_134
def tS_0_132 : List Cond := (Jvm.Cond.instanceMethod ({ cls := "Runweaver$Row", name := "empty", desc := "()V" } : Jvm.MethodName)) :: tS_0_133
def tS_0_131 : List Cond := (Jvm.Cond.methodLink "Runweaver$Loom" (39 : Nat) ({ cls := "Runweaver$Row", name := "empty", desc := "()V" } : Jvm.MethodName)) :: tS_0_132
def tS_0_130 : List Cond := (Jvm.Cond.code ({ cls := "Runweaver$Loom", name := "mergeNeighbours", desc := "(LRunweaver$Row;I)I" } : Jvm.MethodName) prog_2_method_4_code (7 : Nat) (Option.some Jvm.ClassFile.FieldType.int)) :: tS_0_131
def tS_0_129 : List Cond := (Jvm.Cond.instanceMethod ({ cls := "Runweaver$Loom", name := "mergeNeighbours", desc := "(LRunweaver$Row;I)I" } : Jvm.MethodName)) :: tS_0_130
def tS_0_128 : List Cond := (Jvm.Cond.privateMethod ({ cls := "Runweaver$Loom", name := "mergeNeighbours", desc := "(LRunweaver$Row;I)I" } : Jvm.MethodName)) :: tS_0_129
def tS_0_127 : List Cond := (Jvm.Cond.methodLink "Runweaver$Loom" (35 : Nat) ({ cls := "Runweaver$Loom", name := "mergeNeighbours", desc := "(LRunweaver$Row;I)I" } : Jvm.MethodName)) :: tS_0_128
def tS_0_126 : List Cond := (Jvm.Cond.native ({ cls := "java/lang/System", name := "arraycopy", desc := "(Ljava/lang/Object;ILjava/lang/Object;II)V" } : Jvm.MethodName)) :: tS_0_127
def tS_0_125 : List Cond := (Jvm.Cond.static ({ cls := "java/lang/System", name := "arraycopy", desc := "(Ljava/lang/Object;ILjava/lang/Object;II)V" } : Jvm.MethodName)) :: tS_0_126
def tS_0_124 : List Cond := (Jvm.Cond.methodLink "Runweaver$Row" (36 : Nat) ({ cls := "java/lang/System", name := "arraycopy", desc := "(Ljava/lang/Object;ILjava/lang/Object;II)V" } : Jvm.MethodName)) :: tS_0_125
def tS_0_123 : List Cond := (Jvm.Cond.code ({ cls := "java/lang/Math", name := "min", desc := "(II)I" } : Jvm.MethodName) prog_13_method_69_code (2 : Nat) (Option.some Jvm.ClassFile.FieldType.int)) :: tS_0_124
def tS_0_122 : List Cond := (Jvm.Cond.static ({ cls := "java/lang/Math", name := "min", desc := "(II)I" } : Jvm.MethodName)) :: tS_0_123
def tS_0_121 : List Cond := (Jvm.Cond.methodLink "Runweaver$Row" (30 : Nat) ({ cls := "java/lang/Math", name := "min", desc := "(II)I" } : Jvm.MethodName)) :: tS_0_122
def tS_0_120 : List Cond := (Jvm.Cond.code ({ cls := "Runweaver$Row", name := "become", desc := "(LRunweaver$Row;)V" } : Jvm.MethodName) prog_3_method_7_code (3 : Nat) (Option.none : Option Jvm.ClassFile.FieldType)) :: tS_0_121
def tS_0_119 : List Cond := (Jvm.Cond.selects "Runweaver$Row" ({ cls := "Runweaver$Row", name := "become", desc := "(LRunweaver$Row;)V" } : Jvm.MethodName) ({ cls := "Runweaver$Row", name := "become", desc := "(LRunweaver$Row;)V" } : Jvm.MethodName)) :: tS_0_120
def tS_0_118 : List Cond := (Jvm.Cond.instanceMethod ({ cls := "Runweaver$Row", name := "become", desc := "(LRunweaver$Row;)V" } : Jvm.MethodName)) :: tS_0_119
def tS_0_117 : List Cond := (Jvm.Cond.methodLink "Runweaver$Loom" (27 : Nat) ({ cls := "Runweaver$Row", name := "become", desc := "(LRunweaver$Row;)V" } : Jvm.MethodName)) :: tS_0_118
def tS_0_116 : List Cond := (Jvm.Cond.code ({ cls := "Runweaver$Loom", name := "sortUp", desc := "(LRunweaver$Row;LRunweaver$Row;)I" } : Jvm.MethodName) prog_2_method_2_code (5 : Nat) (Option.some Jvm.ClassFile.FieldType.int)) :: tS_0_117
def tS_0_115 : List Cond := (Jvm.Cond.selects "Runweaver$Loom" ({ cls := "Runweaver$Loom", name := "sortUp", desc := "(LRunweaver$Row;LRunweaver$Row;)I" } : Jvm.MethodName) ({ cls := "Runweaver$Loom", name := "sortUp", desc := "(LRunweaver$Row;LRunweaver$Row;)I" } : Jvm.MethodName)) :: tS_0_116
def tS_0_114 : List Cond := (Jvm.Cond.instanceMethod ({ cls := "Runweaver$Loom", name := "sortUp", desc := "(LRunweaver$Row;LRunweaver$Row;)I" } : Jvm.MethodName)) :: tS_0_115
def tS_0_113 : List Cond := (Jvm.Cond.methodLink "Runweaver" (116 : Nat) ({ cls := "Runweaver$Loom", name := "sortUp", desc := "(LRunweaver$Row;LRunweaver$Row;)I" } : Jvm.MethodName)) :: tS_0_114
def tS_0_112 : List Cond := (Jvm.Cond.code ({ cls := "Runweaver", name := "isRowSound", desc := "(LRunweaver$Row;)Z" } : Jvm.MethodName) prog_1_method_65_code (4 : Nat) (Option.some Jvm.ClassFile.FieldType.boolean)) :: tS_0_113
def tS_0_111 : List Cond := (Jvm.Cond.instanceMethod ({ cls := "Runweaver", name := "isRowSound", desc := "(LRunweaver$Row;)Z" } : Jvm.MethodName)) :: tS_0_112
def tS_0_110 : List Cond := (Jvm.Cond.privateMethod ({ cls := "Runweaver", name := "isRowSound", desc := "(LRunweaver$Row;)Z" } : Jvm.MethodName)) :: tS_0_111
def tS_0_109 : List Cond := (Jvm.Cond.methodLink "Runweaver" (242 : Nat) ({ cls := "Runweaver", name := "isRowSound", desc := "(LRunweaver$Row;)Z" } : Jvm.MethodName)) :: tS_0_110
def tS_0_108 : List Cond := (Jvm.Cond.code ({ cls := "Runweaver", name := "isSound", desc := "()Z" } : Jvm.MethodName) prog_1_method_46_code (2 : Nat) (Option.some Jvm.ClassFile.FieldType.boolean)) :: tS_0_109
def tS_0_107 : List Cond := (Jvm.Cond.selects "Runweaver" ({ cls := "Runweaver", name := "isSound", desc := "()Z" } : Jvm.MethodName) ({ cls := "Runweaver", name := "isSound", desc := "()Z" } : Jvm.MethodName)) :: tS_0_108
def tS_0_106 : List Cond := (Jvm.Cond.instanceMethod ({ cls := "Runweaver", name := "isSound", desc := "()Z" } : Jvm.MethodName)) :: tS_0_107
def tS_0_105 : List Cond := (Jvm.Cond.methodLink "RunweaverLaw" (311 : Nat) ({ cls := "Runweaver", name := "isSound", desc := "()Z" } : Jvm.MethodName)) :: tS_0_106
def tS_0_104 : List Cond := (Jvm.Cond.code ({ cls := "Runweaver", name := "knock", desc := "()I" } : Jvm.MethodName) prog_1_method_45_code (1 : Nat) (Option.some Jvm.ClassFile.FieldType.int)) :: tS_0_105
def tS_0_103 : List Cond := (Jvm.Cond.selects "Runweaver" ({ cls := "Runweaver", name := "knock", desc := "()I" } : Jvm.MethodName) ({ cls := "Runweaver", name := "knock", desc := "()I" } : Jvm.MethodName)) :: tS_0_104
def tS_0_102 : List Cond := (Jvm.Cond.instanceMethod ({ cls := "Runweaver", name := "knock", desc := "()I" } : Jvm.MethodName)) :: tS_0_103
def tS_0_101 : List Cond := (Jvm.Cond.methodLink "RunweaverLaw" (307 : Nat) ({ cls := "Runweaver", name := "knock", desc := "()I" } : Jvm.MethodName)) :: tS_0_102
def tS_0_100 : List Cond := (Jvm.Cond.superclass "Runweaver" "java/lang/Object") :: tS_0_101
def tS_0_99 : List Cond := (Jvm.Cond.soleField "Runweaver" "knocks") :: tS_0_100
def tS_0_98 : List Cond := (Jvm.Cond.lays "Runweaver" "Runweaver" "knocks" "I") :: tS_0_99
def tS_0_97 : List Cond := (Jvm.Cond.soleField "Runweaver" "refusals") :: tS_0_98
def tS_0_96 : List Cond := (Jvm.Cond.lays "Runweaver" "Runweaver" "refusals" "I") :: tS_0_97
def tS_0_95 : List Cond := (Jvm.Cond.soleField "Runweaver" "acts") :: tS_0_96
def tS_0_94 : List Cond := (Jvm.Cond.lays "Runweaver" "Runweaver" "acts" "I") :: tS_0_95
def tS_0_93 : List Cond := (Jvm.Cond.soleField "Runweaver" "stampsGiven") :: tS_0_94
def tS_0_92 : List Cond := (Jvm.Cond.lays "Runweaver" "Runweaver" "stampsGiven" "I") :: tS_0_93
def tS_0_91 : List Cond := (Jvm.Cond.soleField "Runweaver" "loom") :: tS_0_92
def tS_0_90 : List Cond := (Jvm.Cond.laysFinal "Runweaver" "Runweaver" "loom" "LRunweaver$Loom;") :: tS_0_91
def tS_0_89 : List Cond := (Jvm.Cond.soleField "Runweaver" "rows") :: tS_0_90
def tS_0_88 : List Cond := (Jvm.Cond.laysFinal "Runweaver" "Runweaver" "rows" "[LRunweaver$Row;") :: tS_0_89
def tS_0_87 : List Cond := (Jvm.Cond.fieldLink "Runweaver" (226 : Nat) "Runweaver" "knocks" "I") :: tS_0_88
def tS_0_86 : List Cond := (Jvm.Cond.fieldLink "Runweaver" (223 : Nat) "Runweaver" "refusals" "I") :: tS_0_87
def tS_0_85 : List Cond := (Jvm.Cond.fieldLink "Runweaver" (220 : Nat) "Runweaver" "acts" "I") :: tS_0_86
def tS_0_84 : List Cond := (Jvm.Cond.fieldLink "Runweaver" (229 : Nat) "Runweaver" "stampsGiven" "I") :: tS_0_85
def tS_0_83 : List Cond := (Jvm.Cond.fieldLink "Runweaver" (23 : Nat) "Runweaver" "loom" "LRunweaver$Loom;") :: tS_0_84
def tS_0_82 : List Cond := (Jvm.Cond.fieldLink "Runweaver" (11 : Nat) "Runweaver" "rows" "[LRunweaver$Row;") :: tS_0_83
def tS_0_81 : List Cond := (Jvm.Cond.superclass "Runweaver$Loom" "java/lang/Object") :: tS_0_82
def tS_0_80 : List Cond := (Jvm.Cond.soleField "Runweaver$Loom" "spare") :: tS_0_81
def tS_0_79 : List Cond := (Jvm.Cond.laysFinal "Runweaver$Loom" "Runweaver$Loom" "spare" "LRunweaver$Row;") :: tS_0_80
def tS_0_78 : List Cond := (Jvm.Cond.soleField "Runweaver$Loom" "woven") :: tS_0_79
def tS_0_77 : List Cond := (Jvm.Cond.laysFinal "Runweaver$Loom" "Runweaver$Loom" "woven" "LRunweaver$Row;") :: tS_0_78
def tS_0_76 : List Cond := (Jvm.Cond.soleField "Runweaver$Loom" "joined") :: tS_0_77
def tS_0_75 : List Cond := (Jvm.Cond.laysFinal "Runweaver$Loom" "Runweaver$Loom" "joined" "LRunweaver$Row;") :: tS_0_76
def tS_0_74 : List Cond := (Jvm.Cond.soleField "Runweaver$Loom" "sorted") :: tS_0_75
def tS_0_73 : List Cond := (Jvm.Cond.laysFinal "Runweaver$Loom" "Runweaver$Loom" "sorted" "LRunweaver$Row;") :: tS_0_74
def tS_0_72 : List Cond := (Jvm.Cond.fieldLink "Runweaver$Loom" (24 : Nat) "Runweaver$Loom" "spare" "LRunweaver$Row;") :: tS_0_73
def tS_0_71 : List Cond := (Jvm.Cond.fieldLink "Runweaver" (86 : Nat) "Runweaver$Loom" "woven" "LRunweaver$Row;") :: tS_0_72
def tS_0_70 : List Cond := (Jvm.Cond.fieldLink "Runweaver$Loom" (21 : Nat) "Runweaver$Loom" "woven" "LRunweaver$Row;") :: tS_0_71
def tS_0_69 : List Cond := (Jvm.Cond.fieldLink "Runweaver" (135 : Nat) "Runweaver$Loom" "joined" "LRunweaver$Row;") :: tS_0_70
def tS_0_68 : List Cond := (Jvm.Cond.fieldLink "Runweaver$Loom" (18 : Nat) "Runweaver$Loom" "joined" "LRunweaver$Row;") :: tS_0_69
def tS_0_67 : List Cond := (Jvm.Cond.fieldLink "Runweaver" (113 : Nat) "Runweaver$Loom" "sorted" "LRunweaver$Row;") :: tS_0_68
def tS_0_66 : List Cond := (Jvm.Cond.fieldLink "Runweaver$Loom" (12 : Nat) "Runweaver$Loom" "sorted" "LRunweaver$Row;") :: tS_0_67
def tS_0_65 : List Cond := (Jvm.Cond.methodLink "Runweaver$Loom" (9 : Nat) ({ cls := "Runweaver$Row", name := "<init>", desc := "(IZ)V" } : Jvm.MethodName)) :: tS_0_66
def tS_0_64 : List Cond := (Jvm.Cond.classLink "Runweaver$Loom" (7 : Nat) "Runweaver$Row") :: tS_0_65
def tS_0_63 : List Cond := (Jvm.Cond.methodLink "Runweaver$Loom" (1 : Nat) ({ cls := "java/lang/Object", name := "<init>", desc := "()V" } : Jvm.MethodName)) :: tS_0_64
def tS_0_62 : List Cond := (Jvm.Cond.code ({ cls := "Runweaver$Loom", name := "<init>", desc := "(I)V" } : Jvm.MethodName) prog_2_method_1_code (2 : Nat) (Option.none : Option Jvm.ClassFile.FieldType)) :: tS_0_63
def tS_0_61 : List Cond := (Jvm.Cond.instanceMethod ({ cls := "Runweaver$Loom", name := "<init>", desc := "(I)V" } : Jvm.MethodName)) :: tS_0_62
def tS_0_60 : List Cond := (Jvm.Cond.methodLink "Runweaver" (20 : Nat) ({ cls := "Runweaver$Loom", name := "<init>", desc := "(I)V" } : Jvm.MethodName)) :: tS_0_61
def tS_0_59 : List Cond := (Jvm.Cond.instantiable "Runweaver$Loom" (4 : Nat)) :: tS_0_60
def tS_0_58 : List Cond := (Jvm.Cond.classLink "Runweaver" (18 : Nat) "Runweaver$Loom") :: tS_0_59
def tS_0_57 : List Cond := (Jvm.Cond.arrayClass Jvm.ClassFile.FieldType.int) :: tS_0_58
def tS_0_56 : List Cond := (Jvm.Cond.superclass "Runweaver$Row" "java/lang/Object") :: tS_0_57
def tS_0_55 : List Cond := (Jvm.Cond.soleField "Runweaver$Row" "size") :: tS_0_56
def tS_0_54 : List Cond := (Jvm.Cond.lays "Runweaver$Row" "Runweaver$Row" "size" "I") :: tS_0_55
def tS_0_53 : List Cond := (Jvm.Cond.soleField "Runweaver$Row" "isOfThings") :: tS_0_54
def tS_0_52 : List Cond := (Jvm.Cond.laysFinal "Runweaver$Row" "Runweaver$Row" "isOfThings" "Z") :: tS_0_53
def tS_0_51 : List Cond := (Jvm.Cond.soleField "Runweaver$Row" "stamps") :: tS_0_52
def tS_0_50 : List Cond := (Jvm.Cond.laysFinal "Runweaver$Row" "Runweaver$Row" "stamps" "[I") :: tS_0_51
def tS_0_49 : List Cond := (Jvm.Cond.soleField "Runweaver$Row" "keys") :: tS_0_50
def tS_0_48 : List Cond := (Jvm.Cond.laysFinal "Runweaver$Row" "Runweaver$Row" "keys" "[I") :: tS_0_49
def tS_0_47 : List Cond := (Jvm.Cond.fieldLink "Runweaver$Row" (22 : Nat) "Runweaver$Row" "size" "I") :: tS_0_48
def tS_0_46 : List Cond := (Jvm.Cond.fieldLink "Runweaver" (39 : Nat) "Runweaver$Row" "size" "I") :: tS_0_47
def tS_0_45 : List Cond := (Jvm.Cond.fieldLink "Runweaver$Loom" (31 : Nat) "Runweaver$Row" "size" "I") :: tS_0_46
def tS_0_44 : List Cond := (Jvm.Cond.fieldLink "Runweaver" (123 : Nat) "Runweaver$Row" "isOfThings" "Z") :: tS_0_45
def tS_0_43 : List Cond := (Jvm.Cond.fieldLink "Runweaver$Row" (18 : Nat) "Runweaver$Row" "isOfThings" "Z") :: tS_0_44
def tS_0_42 : List Cond := (Jvm.Cond.fieldLink "Runweaver$Loom" (56 : Nat) "Runweaver$Row" "stamps" "[I") :: tS_0_43
def tS_0_41 : List Cond := (Jvm.Cond.fieldLink "Runweaver" (83 : Nat) "Runweaver$Row" "stamps" "[I") :: tS_0_42
def tS_0_40 : List Cond := (Jvm.Cond.fieldLink "Runweaver$Row" (15 : Nat) "Runweaver$Row" "stamps" "[I") :: tS_0_41
def tS_0_39 : List Cond := (Jvm.Cond.fieldLink "Runweaver$Loom" (52 : Nat) "Runweaver$Row" "keys" "[I") :: tS_0_40
def tS_0_38 : List Cond := (Jvm.Cond.fieldLink "Runweaver" (79 : Nat) "Runweaver$Row" "keys" "[I") :: tS_0_39
def tS_0_37 : List Cond := (Jvm.Cond.fieldLink "Runweaver$Row" (9 : Nat) "Runweaver$Row" "keys" "[I") :: tS_0_38
def tS_0_36 : List Cond := (Jvm.Cond.methodLink "Runweaver$Row" (3 : Nat) ({ cls := "java/lang/Object", name := "<init>", desc := "()V" } : Jvm.MethodName)) :: tS_0_37
def tS_0_35 : List Cond := (Jvm.Cond.code ({ cls := "Runweaver$Row", name := "<init>", desc := "(IZ)V" } : Jvm.MethodName) prog_3_method_1_code (3 : Nat) (Option.none : Option Jvm.ClassFile.FieldType)) :: tS_0_36
def tS_0_34 : List Cond := (Jvm.Cond.instanceMethod ({ cls := "Runweaver$Row", name := "<init>", desc := "(IZ)V" } : Jvm.MethodName)) :: tS_0_35
def tS_0_33 : List Cond := (Jvm.Cond.methodLink "Runweaver" (15 : Nat) ({ cls := "Runweaver$Row", name := "<init>", desc := "(IZ)V" } : Jvm.MethodName)) :: tS_0_34
def tS_0_32 : List Cond := (Jvm.Cond.instantiable "Runweaver$Row" (4 : Nat)) :: tS_0_33
def tS_0_31 : List Cond := (Jvm.Cond.arrayOver (Jvm.ClassFile.FieldType.object "Runweaver$Row")) :: tS_0_32
def tS_0_30 : List Cond := (Jvm.Cond.classLink "Runweaver" (9 : Nat) "Runweaver$Row") :: tS_0_31
def tS_0_29 : List Cond := (Jvm.Cond.code ({ cls := "java/lang/Object", name := "<init>", desc := "()V" } : Jvm.MethodName) object_method_1_code (1 : Nat) (Option.none : Option Jvm.ClassFile.FieldType)) :: tS_0_30
def tS_0_28 : List Cond := (Jvm.Cond.instanceMethod ({ cls := "java/lang/Object", name := "<init>", desc := "()V" } : Jvm.MethodName)) :: tS_0_29
def tS_0_27 : List Cond := (Jvm.Cond.methodLink "Runweaver" (1 : Nat) ({ cls := "java/lang/Object", name := "<init>", desc := "()V" } : Jvm.MethodName)) :: tS_0_28
def tS_0_26 : List Cond := (Jvm.Cond.code ({ cls := "Runweaver", name := "<init>", desc := "()V" } : Jvm.MethodName) prog_1_method_1_code (1 : Nat) (Option.none : Option Jvm.ClassFile.FieldType)) :: tS_0_27
def tS_0_25 : List Cond := (Jvm.Cond.instanceMethod ({ cls := "Runweaver", name := "<init>", desc := "()V" } : Jvm.MethodName)) :: tS_0_26
def tS_0_24 : List Cond := (Jvm.Cond.methodLink "RunweaverLaw" (161 : Nat) ({ cls := "Runweaver", name := "<init>", desc := "()V" } : Jvm.MethodName)) :: tS_0_25
def tS_0_23 : List Cond := (Jvm.Cond.instantiable "Runweaver" (6 : Nat)) :: tS_0_24
def tS_0_22 : List Cond := (Jvm.Cond.classLink "RunweaverLaw" (8 : Nat) "Runweaver") :: tS_0_23
def tS_0_21 : List Cond := (Jvm.Cond.initialized "java/lang/Integer") :: tS_0_22
def tS_0_20 : List Cond := (Jvm.Cond.initialized "jdk/internal/util/Preconditions") :: tS_0_21
def tS_0_19 : List Cond := (Jvm.Cond.initialized "java/lang/StringLatin1") :: tS_0_20
def tS_0_18 : List Cond := (Jvm.Cond.initialized "java/util/Arrays") :: tS_0_19
def tS_0_17 : List Cond := (Jvm.Cond.initialized "jdk/internal/util/ArraysSupport") :: tS_0_18
def tS_0_16 : List Cond := (Jvm.Cond.initialized "java/lang/StringUTF16") :: tS_0_17
def tS_0_15 : List Cond := (Jvm.Cond.initialized "java/lang/String") :: tS_0_16
def tS_0_14 : List Cond := (Jvm.Cond.initialized "java/lang/StringBuilder") :: tS_0_15
def tS_0_13 : List Cond := (Jvm.Cond.initialized "java/lang/AbstractStringBuilder") :: tS_0_14
def tS_0_12 : List Cond := (Jvm.Cond.initialized "java/lang/System") :: tS_0_13
def tS_0_11 : List Cond := (Jvm.Cond.initialized "java/lang/Math") :: tS_0_12
def tS_0_10 : List Cond := (Jvm.Cond.initialized "java/lang/IllegalArgumentException") :: tS_0_11
def tS_0_9 : List Cond := (Jvm.Cond.initialized "java/lang/IndexOutOfBoundsException") :: tS_0_10
def tS_0_8 : List Cond := (Jvm.Cond.initialized "java/lang/RuntimeException") :: tS_0_9
def tS_0_7 : List Cond := (Jvm.Cond.initialized "java/lang/Exception") :: tS_0_8
def tS_0_6 : List Cond := (Jvm.Cond.initialized "java/lang/Throwable") :: tS_0_7
def tS_0_5 : List Cond := (Jvm.Cond.initialized "RunweaverLaw$Out") :: tS_0_6
def tS_0_4 : List Cond := (Jvm.Cond.initialized "RunweaverModel") :: tS_0_5
def tS_0_3 : List Cond := (Jvm.Cond.initialized "Runweaver$Loom") :: tS_0_4
def tS_0_2 : List Cond := (Jvm.Cond.initialized "Runweaver$Row") :: tS_0_3
def tS_0_1 : List Cond := (Jvm.Cond.initialized "Runweaver") :: tS_0_2
def tS_0_0 : List Cond := (Jvm.Cond.initialized "RunweaverLaw") :: tS_0_1
set_option maxRecDepth 100000 in
theorem tU_0 : tables_1_1 = tS_0_0 := rfl
theorem tV_0_0 {w : Cond} (h0 : w ∈ tS_0_0) : w ∈ lw_tbl := List.mem_append_left _ (List.mem_append_right _ (have h : w ∈ tables_1_1 := tU_0 ▸ h0; (List.mem_append_left _ h : w ∈ tables_1)))
theorem tV_0_1 {w : Cond} (h : w ∈ tS_0_1) : w ∈ lw_tbl := tV_0_0 (List.mem_cons_of_mem _ h)
theorem tV_0_2 {w : Cond} (h : w ∈ tS_0_2) : w ∈ lw_tbl := tV_0_1 (List.mem_cons_of_mem _ h)
theorem tV_0_3 {w : Cond} (h : w ∈ tS_0_3) : w ∈ lw_tbl := tV_0_2 (List.mem_cons_of_mem _ h)
theorem tV_0_4 {w : Cond} (h : w ∈ tS_0_4) : w ∈ lw_tbl := tV_0_3 (List.mem_cons_of_mem _ h)
theorem tV_0_5 {w : Cond} (h : w ∈ tS_0_5) : w ∈ lw_tbl := tV_0_4 (List.mem_cons_of_mem _ h)
theorem tV_0_6 {w : Cond} (h : w ∈ tS_0_6) : w ∈ lw_tbl := tV_0_5 (List.mem_cons_of_mem _ h)
theorem tV_0_7 {w : Cond} (h : w ∈ tS_0_7) : w ∈ lw_tbl := tV_0_6 (List.mem_cons_of_mem _ h)
theorem tV_0_8 {w : Cond} (h : w ∈ tS_0_8) : w ∈ lw_tbl := tV_0_7 (List.mem_cons_of_mem _ h)
theorem tV_0_9 {w : Cond} (h : w ∈ tS_0_9) : w ∈ lw_tbl := tV_0_8 (List.mem_cons_of_mem _ h)
theorem tV_0_10 {w : Cond} (h : w ∈ tS_0_10) : w ∈ lw_tbl := tV_0_9 (List.mem_cons_of_mem _ h)
theorem tV_0_11 {w : Cond} (h : w ∈ tS_0_11) : w ∈ lw_tbl := tV_0_10 (List.mem_cons_of_mem _ h)
theorem tV_0_12 {w : Cond} (h : w ∈ tS_0_12) : w ∈ lw_tbl := tV_0_11 (List.mem_cons_of_mem _ h)
theorem tV_0_13 {w : Cond} (h : w ∈ tS_0_13) : w ∈ lw_tbl := tV_0_12 (List.mem_cons_of_mem _ h)
theorem tV_0_14 {w : Cond} (h : w ∈ tS_0_14) : w ∈ lw_tbl := tV_0_13 (List.mem_cons_of_mem _ h)
theorem tV_0_15 {w : Cond} (h : w ∈ tS_0_15) : w ∈ lw_tbl := tV_0_14 (List.mem_cons_of_mem _ h)
theorem tV_0_16 {w : Cond} (h : w ∈ tS_0_16) : w ∈ lw_tbl := tV_0_15 (List.mem_cons_of_mem _ h)
theorem tV_0_17 {w : Cond} (h : w ∈ tS_0_17) : w ∈ lw_tbl := tV_0_16 (List.mem_cons_of_mem _ h)
theorem tV_0_18 {w : Cond} (h : w ∈ tS_0_18) : w ∈ lw_tbl := tV_0_17 (List.mem_cons_of_mem _ h)
theorem tV_0_19 {w : Cond} (h : w ∈ tS_0_19) : w ∈ lw_tbl := tV_0_18 (List.mem_cons_of_mem _ h)
theorem tV_0_20 {w : Cond} (h : w ∈ tS_0_20) : w ∈ lw_tbl := tV_0_19 (List.mem_cons_of_mem _ h)
theorem tV_0_21 {w : Cond} (h : w ∈ tS_0_21) : w ∈ lw_tbl := tV_0_20 (List.mem_cons_of_mem _ h)
theorem tV_0_22 {w : Cond} (h : w ∈ tS_0_22) : w ∈ lw_tbl := tV_0_21 (List.mem_cons_of_mem _ h)
theorem tV_0_23 {w : Cond} (h : w ∈ tS_0_23) : w ∈ lw_tbl := tV_0_22 (List.mem_cons_of_mem _ h)
theorem tV_0_24 {w : Cond} (h : w ∈ tS_0_24) : w ∈ lw_tbl := tV_0_23 (List.mem_cons_of_mem _ h)
theorem tV_0_25 {w : Cond} (h : w ∈ tS_0_25) : w ∈ lw_tbl := tV_0_24 (List.mem_cons_of_mem _ h)
theorem tV_0_26 {w : Cond} (h : w ∈ tS_0_26) : w ∈ lw_tbl := tV_0_25 (List.mem_cons_of_mem _ h)
theorem tV_0_27 {w : Cond} (h : w ∈ tS_0_27) : w ∈ lw_tbl := tV_0_26 (List.mem_cons_of_mem _ h)
theorem tV_0_28 {w : Cond} (h : w ∈ tS_0_28) : w ∈ lw_tbl := tV_0_27 (List.mem_cons_of_mem _ h)
theorem tV_0_29 {w : Cond} (h : w ∈ tS_0_29) : w ∈ lw_tbl := tV_0_28 (List.mem_cons_of_mem _ h)
theorem tV_0_30 {w : Cond} (h : w ∈ tS_0_30) : w ∈ lw_tbl := tV_0_29 (List.mem_cons_of_mem _ h)
theorem tV_0_31 {w : Cond} (h : w ∈ tS_0_31) : w ∈ lw_tbl := tV_0_30 (List.mem_cons_of_mem _ h)
theorem tV_0_32 {w : Cond} (h : w ∈ tS_0_32) : w ∈ lw_tbl := tV_0_31 (List.mem_cons_of_mem _ h)
theorem tV_0_33 {w : Cond} (h : w ∈ tS_0_33) : w ∈ lw_tbl := tV_0_32 (List.mem_cons_of_mem _ h)
theorem tV_0_34 {w : Cond} (h : w ∈ tS_0_34) : w ∈ lw_tbl := tV_0_33 (List.mem_cons_of_mem _ h)
theorem tV_0_35 {w : Cond} (h : w ∈ tS_0_35) : w ∈ lw_tbl := tV_0_34 (List.mem_cons_of_mem _ h)
theorem tV_0_36 {w : Cond} (h : w ∈ tS_0_36) : w ∈ lw_tbl := tV_0_35 (List.mem_cons_of_mem _ h)
theorem tV_0_37 {w : Cond} (h : w ∈ tS_0_37) : w ∈ lw_tbl := tV_0_36 (List.mem_cons_of_mem _ h)
theorem tV_0_38 {w : Cond} (h : w ∈ tS_0_38) : w ∈ lw_tbl := tV_0_37 (List.mem_cons_of_mem _ h)
theorem tV_0_39 {w : Cond} (h : w ∈ tS_0_39) : w ∈ lw_tbl := tV_0_38 (List.mem_cons_of_mem _ h)
theorem tV_0_40 {w : Cond} (h : w ∈ tS_0_40) : w ∈ lw_tbl := tV_0_39 (List.mem_cons_of_mem _ h)
theorem tV_0_41 {w : Cond} (h : w ∈ tS_0_41) : w ∈ lw_tbl := tV_0_40 (List.mem_cons_of_mem _ h)
theorem tV_0_42 {w : Cond} (h : w ∈ tS_0_42) : w ∈ lw_tbl := tV_0_41 (List.mem_cons_of_mem _ h)
theorem tV_0_43 {w : Cond} (h : w ∈ tS_0_43) : w ∈ lw_tbl := tV_0_42 (List.mem_cons_of_mem _ h)
theorem tV_0_44 {w : Cond} (h : w ∈ tS_0_44) : w ∈ lw_tbl := tV_0_43 (List.mem_cons_of_mem _ h)
theorem tV_0_45 {w : Cond} (h : w ∈ tS_0_45) : w ∈ lw_tbl := tV_0_44 (List.mem_cons_of_mem _ h)
theorem tV_0_46 {w : Cond} (h : w ∈ tS_0_46) : w ∈ lw_tbl := tV_0_45 (List.mem_cons_of_mem _ h)
theorem tV_0_47 {w : Cond} (h : w ∈ tS_0_47) : w ∈ lw_tbl := tV_0_46 (List.mem_cons_of_mem _ h)
theorem tV_0_48 {w : Cond} (h : w ∈ tS_0_48) : w ∈ lw_tbl := tV_0_47 (List.mem_cons_of_mem _ h)
theorem tV_0_49 {w : Cond} (h : w ∈ tS_0_49) : w ∈ lw_tbl := tV_0_48 (List.mem_cons_of_mem _ h)
theorem tV_0_50 {w : Cond} (h : w ∈ tS_0_50) : w ∈ lw_tbl := tV_0_49 (List.mem_cons_of_mem _ h)
theorem tV_0_51 {w : Cond} (h : w ∈ tS_0_51) : w ∈ lw_tbl := tV_0_50 (List.mem_cons_of_mem _ h)
theorem tV_0_52 {w : Cond} (h : w ∈ tS_0_52) : w ∈ lw_tbl := tV_0_51 (List.mem_cons_of_mem _ h)
theorem tV_0_53 {w : Cond} (h : w ∈ tS_0_53) : w ∈ lw_tbl := tV_0_52 (List.mem_cons_of_mem _ h)
theorem tV_0_54 {w : Cond} (h : w ∈ tS_0_54) : w ∈ lw_tbl := tV_0_53 (List.mem_cons_of_mem _ h)
theorem tV_0_55 {w : Cond} (h : w ∈ tS_0_55) : w ∈ lw_tbl := tV_0_54 (List.mem_cons_of_mem _ h)
theorem tV_0_56 {w : Cond} (h : w ∈ tS_0_56) : w ∈ lw_tbl := tV_0_55 (List.mem_cons_of_mem _ h)
theorem tV_0_57 {w : Cond} (h : w ∈ tS_0_57) : w ∈ lw_tbl := tV_0_56 (List.mem_cons_of_mem _ h)
theorem tV_0_58 {w : Cond} (h : w ∈ tS_0_58) : w ∈ lw_tbl := tV_0_57 (List.mem_cons_of_mem _ h)
theorem tV_0_59 {w : Cond} (h : w ∈ tS_0_59) : w ∈ lw_tbl := tV_0_58 (List.mem_cons_of_mem _ h)
theorem tV_0_60 {w : Cond} (h : w ∈ tS_0_60) : w ∈ lw_tbl := tV_0_59 (List.mem_cons_of_mem _ h)
theorem tV_0_61 {w : Cond} (h : w ∈ tS_0_61) : w ∈ lw_tbl := tV_0_60 (List.mem_cons_of_mem _ h)
theorem tV_0_62 {w : Cond} (h : w ∈ tS_0_62) : w ∈ lw_tbl := tV_0_61 (List.mem_cons_of_mem _ h)
theorem tV_0_63 {w : Cond} (h : w ∈ tS_0_63) : w ∈ lw_tbl := tV_0_62 (List.mem_cons_of_mem _ h)
theorem tV_0_64 {w : Cond} (h : w ∈ tS_0_64) : w ∈ lw_tbl := tV_0_63 (List.mem_cons_of_mem _ h)
theorem tV_0_65 {w : Cond} (h : w ∈ tS_0_65) : w ∈ lw_tbl := tV_0_64 (List.mem_cons_of_mem _ h)
theorem tV_0_66 {w : Cond} (h : w ∈ tS_0_66) : w ∈ lw_tbl := tV_0_65 (List.mem_cons_of_mem _ h)
theorem tV_0_67 {w : Cond} (h : w ∈ tS_0_67) : w ∈ lw_tbl := tV_0_66 (List.mem_cons_of_mem _ h)
theorem tV_0_68 {w : Cond} (h : w ∈ tS_0_68) : w ∈ lw_tbl := tV_0_67 (List.mem_cons_of_mem _ h)
theorem tV_0_69 {w : Cond} (h : w ∈ tS_0_69) : w ∈ lw_tbl := tV_0_68 (List.mem_cons_of_mem _ h)
theorem tV_0_70 {w : Cond} (h : w ∈ tS_0_70) : w ∈ lw_tbl := tV_0_69 (List.mem_cons_of_mem _ h)
theorem tV_0_71 {w : Cond} (h : w ∈ tS_0_71) : w ∈ lw_tbl := tV_0_70 (List.mem_cons_of_mem _ h)
theorem tV_0_72 {w : Cond} (h : w ∈ tS_0_72) : w ∈ lw_tbl := tV_0_71 (List.mem_cons_of_mem _ h)
theorem tV_0_73 {w : Cond} (h : w ∈ tS_0_73) : w ∈ lw_tbl := tV_0_72 (List.mem_cons_of_mem _ h)
theorem tV_0_74 {w : Cond} (h : w ∈ tS_0_74) : w ∈ lw_tbl := tV_0_73 (List.mem_cons_of_mem _ h)
theorem tV_0_75 {w : Cond} (h : w ∈ tS_0_75) : w ∈ lw_tbl := tV_0_74 (List.mem_cons_of_mem _ h)
theorem tV_0_76 {w : Cond} (h : w ∈ tS_0_76) : w ∈ lw_tbl := tV_0_75 (List.mem_cons_of_mem _ h)
theorem tV_0_77 {w : Cond} (h : w ∈ tS_0_77) : w ∈ lw_tbl := tV_0_76 (List.mem_cons_of_mem _ h)
theorem tV_0_78 {w : Cond} (h : w ∈ tS_0_78) : w ∈ lw_tbl := tV_0_77 (List.mem_cons_of_mem _ h)
theorem tV_0_79 {w : Cond} (h : w ∈ tS_0_79) : w ∈ lw_tbl := tV_0_78 (List.mem_cons_of_mem _ h)
theorem tV_0_80 {w : Cond} (h : w ∈ tS_0_80) : w ∈ lw_tbl := tV_0_79 (List.mem_cons_of_mem _ h)
theorem tV_0_81 {w : Cond} (h : w ∈ tS_0_81) : w ∈ lw_tbl := tV_0_80 (List.mem_cons_of_mem _ h)
theorem tV_0_82 {w : Cond} (h : w ∈ tS_0_82) : w ∈ lw_tbl := tV_0_81 (List.mem_cons_of_mem _ h)
theorem tV_0_83 {w : Cond} (h : w ∈ tS_0_83) : w ∈ lw_tbl := tV_0_82 (List.mem_cons_of_mem _ h)
theorem tV_0_84 {w : Cond} (h : w ∈ tS_0_84) : w ∈ lw_tbl := tV_0_83 (List.mem_cons_of_mem _ h)
theorem tV_0_85 {w : Cond} (h : w ∈ tS_0_85) : w ∈ lw_tbl := tV_0_84 (List.mem_cons_of_mem _ h)
theorem tV_0_86 {w : Cond} (h : w ∈ tS_0_86) : w ∈ lw_tbl := tV_0_85 (List.mem_cons_of_mem _ h)
theorem tV_0_87 {w : Cond} (h : w ∈ tS_0_87) : w ∈ lw_tbl := tV_0_86 (List.mem_cons_of_mem _ h)
theorem tV_0_88 {w : Cond} (h : w ∈ tS_0_88) : w ∈ lw_tbl := tV_0_87 (List.mem_cons_of_mem _ h)
theorem tV_0_89 {w : Cond} (h : w ∈ tS_0_89) : w ∈ lw_tbl := tV_0_88 (List.mem_cons_of_mem _ h)
theorem tV_0_90 {w : Cond} (h : w ∈ tS_0_90) : w ∈ lw_tbl := tV_0_89 (List.mem_cons_of_mem _ h)
theorem tV_0_91 {w : Cond} (h : w ∈ tS_0_91) : w ∈ lw_tbl := tV_0_90 (List.mem_cons_of_mem _ h)
theorem tV_0_92 {w : Cond} (h : w ∈ tS_0_92) : w ∈ lw_tbl := tV_0_91 (List.mem_cons_of_mem _ h)
theorem tV_0_93 {w : Cond} (h : w ∈ tS_0_93) : w ∈ lw_tbl := tV_0_92 (List.mem_cons_of_mem _ h)
theorem tV_0_94 {w : Cond} (h : w ∈ tS_0_94) : w ∈ lw_tbl := tV_0_93 (List.mem_cons_of_mem _ h)
theorem tV_0_95 {w : Cond} (h : w ∈ tS_0_95) : w ∈ lw_tbl := tV_0_94 (List.mem_cons_of_mem _ h)
theorem tV_0_96 {w : Cond} (h : w ∈ tS_0_96) : w ∈ lw_tbl := tV_0_95 (List.mem_cons_of_mem _ h)
theorem tV_0_97 {w : Cond} (h : w ∈ tS_0_97) : w ∈ lw_tbl := tV_0_96 (List.mem_cons_of_mem _ h)
theorem tV_0_98 {w : Cond} (h : w ∈ tS_0_98) : w ∈ lw_tbl := tV_0_97 (List.mem_cons_of_mem _ h)
theorem tV_0_99 {w : Cond} (h : w ∈ tS_0_99) : w ∈ lw_tbl := tV_0_98 (List.mem_cons_of_mem _ h)
theorem tV_0_100 {w : Cond} (h : w ∈ tS_0_100) : w ∈ lw_tbl := tV_0_99 (List.mem_cons_of_mem _ h)
theorem tV_0_101 {w : Cond} (h : w ∈ tS_0_101) : w ∈ lw_tbl := tV_0_100 (List.mem_cons_of_mem _ h)
theorem tV_0_102 {w : Cond} (h : w ∈ tS_0_102) : w ∈ lw_tbl := tV_0_101 (List.mem_cons_of_mem _ h)
theorem tV_0_103 {w : Cond} (h : w ∈ tS_0_103) : w ∈ lw_tbl := tV_0_102 (List.mem_cons_of_mem _ h)
theorem tV_0_104 {w : Cond} (h : w ∈ tS_0_104) : w ∈ lw_tbl := tV_0_103 (List.mem_cons_of_mem _ h)
theorem tV_0_105 {w : Cond} (h : w ∈ tS_0_105) : w ∈ lw_tbl := tV_0_104 (List.mem_cons_of_mem _ h)
theorem tV_0_106 {w : Cond} (h : w ∈ tS_0_106) : w ∈ lw_tbl := tV_0_105 (List.mem_cons_of_mem _ h)
theorem tV_0_107 {w : Cond} (h : w ∈ tS_0_107) : w ∈ lw_tbl := tV_0_106 (List.mem_cons_of_mem _ h)
theorem tV_0_108 {w : Cond} (h : w ∈ tS_0_108) : w ∈ lw_tbl := tV_0_107 (List.mem_cons_of_mem _ h)
theorem tV_0_109 {w : Cond} (h : w ∈ tS_0_109) : w ∈ lw_tbl := tV_0_108 (List.mem_cons_of_mem _ h)
theorem tV_0_110 {w : Cond} (h : w ∈ tS_0_110) : w ∈ lw_tbl := tV_0_109 (List.mem_cons_of_mem _ h)
theorem tV_0_111 {w : Cond} (h : w ∈ tS_0_111) : w ∈ lw_tbl := tV_0_110 (List.mem_cons_of_mem _ h)
theorem tV_0_112 {w : Cond} (h : w ∈ tS_0_112) : w ∈ lw_tbl := tV_0_111 (List.mem_cons_of_mem _ h)
theorem tV_0_113 {w : Cond} (h : w ∈ tS_0_113) : w ∈ lw_tbl := tV_0_112 (List.mem_cons_of_mem _ h)
theorem tV_0_114 {w : Cond} (h : w ∈ tS_0_114) : w ∈ lw_tbl := tV_0_113 (List.mem_cons_of_mem _ h)
theorem tV_0_115 {w : Cond} (h : w ∈ tS_0_115) : w ∈ lw_tbl := tV_0_114 (List.mem_cons_of_mem _ h)
theorem tV_0_116 {w : Cond} (h : w ∈ tS_0_116) : w ∈ lw_tbl := tV_0_115 (List.mem_cons_of_mem _ h)
theorem tV_0_117 {w : Cond} (h : w ∈ tS_0_117) : w ∈ lw_tbl := tV_0_116 (List.mem_cons_of_mem _ h)
theorem tV_0_118 {w : Cond} (h : w ∈ tS_0_118) : w ∈ lw_tbl := tV_0_117 (List.mem_cons_of_mem _ h)
theorem tV_0_119 {w : Cond} (h : w ∈ tS_0_119) : w ∈ lw_tbl := tV_0_118 (List.mem_cons_of_mem _ h)
theorem tV_0_120 {w : Cond} (h : w ∈ tS_0_120) : w ∈ lw_tbl := tV_0_119 (List.mem_cons_of_mem _ h)
theorem tV_0_121 {w : Cond} (h : w ∈ tS_0_121) : w ∈ lw_tbl := tV_0_120 (List.mem_cons_of_mem _ h)
theorem tV_0_122 {w : Cond} (h : w ∈ tS_0_122) : w ∈ lw_tbl := tV_0_121 (List.mem_cons_of_mem _ h)
theorem tV_0_123 {w : Cond} (h : w ∈ tS_0_123) : w ∈ lw_tbl := tV_0_122 (List.mem_cons_of_mem _ h)
theorem tV_0_124 {w : Cond} (h : w ∈ tS_0_124) : w ∈ lw_tbl := tV_0_123 (List.mem_cons_of_mem _ h)
theorem tV_0_125 {w : Cond} (h : w ∈ tS_0_125) : w ∈ lw_tbl := tV_0_124 (List.mem_cons_of_mem _ h)
theorem tV_0_126 {w : Cond} (h : w ∈ tS_0_126) : w ∈ lw_tbl := tV_0_125 (List.mem_cons_of_mem _ h)
theorem tV_0_127 {w : Cond} (h : w ∈ tS_0_127) : w ∈ lw_tbl := tV_0_126 (List.mem_cons_of_mem _ h)
theorem tV_0_128 {w : Cond} (h : w ∈ tS_0_128) : w ∈ lw_tbl := tV_0_127 (List.mem_cons_of_mem _ h)
theorem tV_0_129 {w : Cond} (h : w ∈ tS_0_129) : w ∈ lw_tbl := tV_0_128 (List.mem_cons_of_mem _ h)
theorem tV_0_130 {w : Cond} (h : w ∈ tS_0_130) : w ∈ lw_tbl := tV_0_129 (List.mem_cons_of_mem _ h)
theorem tV_0_131 {w : Cond} (h : w ∈ tS_0_131) : w ∈ lw_tbl := tV_0_130 (List.mem_cons_of_mem _ h)
theorem tV_0_132 {w : Cond} (h : w ∈ tS_0_132) : w ∈ lw_tbl := tV_0_131 (List.mem_cons_of_mem _ h)
theorem tV_0_133 {w : Cond} (h : w ∈ tS_0_133) : w ∈ lw_tbl := tV_0_132 (List.mem_cons_of_mem _ h)
theorem tV_0_134 {w : Cond} (h : w ∈ tS_0_134) : w ∈ lw_tbl := tV_0_133 (List.mem_cons_of_mem _ h)
theorem tV_0_135 {w : Cond} (h : w ∈ tS_0_135) : w ∈ lw_tbl := tV_0_134 (List.mem_cons_of_mem _ h)
theorem tV_0_136 {w : Cond} (h : w ∈ tS_0_136) : w ∈ lw_tbl := tV_0_135 (List.mem_cons_of_mem _ h)
theorem tV_0_137 {w : Cond} (h : w ∈ tS_0_137) : w ∈ lw_tbl := tV_0_136 (List.mem_cons_of_mem _ h)
theorem tV_0_138 {w : Cond} (h : w ∈ tS_0_138) : w ∈ lw_tbl := tV_0_137 (List.mem_cons_of_mem _ h)
theorem tV_0_139 {w : Cond} (h : w ∈ tS_0_139) : w ∈ lw_tbl := tV_0_138 (List.mem_cons_of_mem _ h)
theorem tV_0_140 {w : Cond} (h : w ∈ tS_0_140) : w ∈ lw_tbl := tV_0_139 (List.mem_cons_of_mem _ h)
theorem tV_0_141 {w : Cond} (h : w ∈ tS_0_141) : w ∈ lw_tbl := tV_0_140 (List.mem_cons_of_mem _ h)
theorem tV_0_142 {w : Cond} (h : w ∈ tS_0_142) : w ∈ lw_tbl := tV_0_141 (List.mem_cons_of_mem _ h)
theorem tV_0_143 {w : Cond} (h : w ∈ tS_0_143) : w ∈ lw_tbl := tV_0_142 (List.mem_cons_of_mem _ h)
theorem tV_0_144 {w : Cond} (h : w ∈ tS_0_144) : w ∈ lw_tbl := tV_0_143 (List.mem_cons_of_mem _ h)
theorem tV_0_145 {w : Cond} (h : w ∈ tS_0_145) : w ∈ lw_tbl := tV_0_144 (List.mem_cons_of_mem _ h)
theorem tV_0_146 {w : Cond} (h : w ∈ tS_0_146) : w ∈ lw_tbl := tV_0_145 (List.mem_cons_of_mem _ h)
theorem tV_0_147 {w : Cond} (h : w ∈ tS_0_147) : w ∈ lw_tbl := tV_0_146 (List.mem_cons_of_mem _ h)
theorem tV_0_148 {w : Cond} (h : w ∈ tS_0_148) : w ∈ lw_tbl := tV_0_147 (List.mem_cons_of_mem _ h)
theorem tV_0_149 {w : Cond} (h : w ∈ tS_0_149) : w ∈ lw_tbl := tV_0_148 (List.mem_cons_of_mem _ h)
theorem tV_0_150 {w : Cond} (h : w ∈ tS_0_150) : w ∈ lw_tbl := tV_0_149 (List.mem_cons_of_mem _ h)
theorem tV_0_151 {w : Cond} (h : w ∈ tS_0_151) : w ∈ lw_tbl := tV_0_150 (List.mem_cons_of_mem _ h)
theorem tV_0_152 {w : Cond} (h : w ∈ tS_0_152) : w ∈ lw_tbl := tV_0_151 (List.mem_cons_of_mem _ h)
theorem tV_0_153 {w : Cond} (h : w ∈ tS_0_153) : w ∈ lw_tbl := tV_0_152 (List.mem_cons_of_mem _ h)
theorem tV_0_154 {w : Cond} (h : w ∈ tS_0_154) : w ∈ lw_tbl := tV_0_153 (List.mem_cons_of_mem _ h)
theorem tV_0_155 {w : Cond} (h : w ∈ tS_0_155) : w ∈ lw_tbl := tV_0_154 (List.mem_cons_of_mem _ h)
theorem tV_0_156 {w : Cond} (h : w ∈ tS_0_156) : w ∈ lw_tbl := tV_0_155 (List.mem_cons_of_mem _ h)
theorem tV_0_157 {w : Cond} (h : w ∈ tS_0_157) : w ∈ lw_tbl := tV_0_156 (List.mem_cons_of_mem _ h)
theorem tV_0_158 {w : Cond} (h : w ∈ tS_0_158) : w ∈ lw_tbl := tV_0_157 (List.mem_cons_of_mem _ h)
theorem tV_0_159 {w : Cond} (h : w ∈ tS_0_159) : w ∈ lw_tbl := tV_0_158 (List.mem_cons_of_mem _ h)
theorem tV_0_160 {w : Cond} (h : w ∈ tS_0_160) : w ∈ lw_tbl := tV_0_159 (List.mem_cons_of_mem _ h)
theorem tV_0_161 {w : Cond} (h : w ∈ tS_0_161) : w ∈ lw_tbl := tV_0_160 (List.mem_cons_of_mem _ h)
theorem tV_0_162 {w : Cond} (h : w ∈ tS_0_162) : w ∈ lw_tbl := tV_0_161 (List.mem_cons_of_mem _ h)
theorem tV_0_163 {w : Cond} (h : w ∈ tS_0_163) : w ∈ lw_tbl := tV_0_162 (List.mem_cons_of_mem _ h)
theorem tV_0_164 {w : Cond} (h : w ∈ tS_0_164) : w ∈ lw_tbl := tV_0_163 (List.mem_cons_of_mem _ h)
theorem tV_0_165 {w : Cond} (h : w ∈ tS_0_165) : w ∈ lw_tbl := tV_0_164 (List.mem_cons_of_mem _ h)
theorem tV_0_166 {w : Cond} (h : w ∈ tS_0_166) : w ∈ lw_tbl := tV_0_165 (List.mem_cons_of_mem _ h)
theorem tV_0_167 {w : Cond} (h : w ∈ tS_0_167) : w ∈ lw_tbl := tV_0_166 (List.mem_cons_of_mem _ h)
theorem tV_0_168 {w : Cond} (h : w ∈ tS_0_168) : w ∈ lw_tbl := tV_0_167 (List.mem_cons_of_mem _ h)
theorem tV_0_169 {w : Cond} (h : w ∈ tS_0_169) : w ∈ lw_tbl := tV_0_168 (List.mem_cons_of_mem _ h)
theorem tV_0_170 {w : Cond} (h : w ∈ tS_0_170) : w ∈ lw_tbl := tV_0_169 (List.mem_cons_of_mem _ h)
theorem tV_0_171 {w : Cond} (h : w ∈ tS_0_171) : w ∈ lw_tbl := tV_0_170 (List.mem_cons_of_mem _ h)
theorem tV_0_172 {w : Cond} (h : w ∈ tS_0_172) : w ∈ lw_tbl := tV_0_171 (List.mem_cons_of_mem _ h)
theorem tV_0_173 {w : Cond} (h : w ∈ tS_0_173) : w ∈ lw_tbl := tV_0_172 (List.mem_cons_of_mem _ h)
theorem tV_0_174 {w : Cond} (h : w ∈ tS_0_174) : w ∈ lw_tbl := tV_0_173 (List.mem_cons_of_mem _ h)
theorem tV_0_175 {w : Cond} (h : w ∈ tS_0_175) : w ∈ lw_tbl := tV_0_174 (List.mem_cons_of_mem _ h)
theorem tV_0_176 {w : Cond} (h : w ∈ tS_0_176) : w ∈ lw_tbl := tV_0_175 (List.mem_cons_of_mem _ h)
theorem tV_0_177 {w : Cond} (h : w ∈ tS_0_177) : w ∈ lw_tbl := tV_0_176 (List.mem_cons_of_mem _ h)
theorem tV_0_178 {w : Cond} (h : w ∈ tS_0_178) : w ∈ lw_tbl := tV_0_177 (List.mem_cons_of_mem _ h)
theorem tV_0_179 {w : Cond} (h : w ∈ tS_0_179) : w ∈ lw_tbl := tV_0_178 (List.mem_cons_of_mem _ h)
theorem tV_0_180 {w : Cond} (h : w ∈ tS_0_180) : w ∈ lw_tbl := tV_0_179 (List.mem_cons_of_mem _ h)
theorem tV_0_181 {w : Cond} (h : w ∈ tS_0_181) : w ∈ lw_tbl := tV_0_180 (List.mem_cons_of_mem _ h)
theorem tV_0_182 {w : Cond} (h : w ∈ tS_0_182) : w ∈ lw_tbl := tV_0_181 (List.mem_cons_of_mem _ h)
theorem tV_0_183 {w : Cond} (h : w ∈ tS_0_183) : w ∈ lw_tbl := tV_0_182 (List.mem_cons_of_mem _ h)
theorem tV_0_184 {w : Cond} (h : w ∈ tS_0_184) : w ∈ lw_tbl := tV_0_183 (List.mem_cons_of_mem _ h)
theorem tV_0_185 {w : Cond} (h : w ∈ tS_0_185) : w ∈ lw_tbl := tV_0_184 (List.mem_cons_of_mem _ h)
theorem tV_0_186 {w : Cond} (h : w ∈ tS_0_186) : w ∈ lw_tbl := tV_0_185 (List.mem_cons_of_mem _ h)
theorem tV_0_187 {w : Cond} (h : w ∈ tS_0_187) : w ∈ lw_tbl := tV_0_186 (List.mem_cons_of_mem _ h)
theorem tV_0_188 {w : Cond} (h : w ∈ tS_0_188) : w ∈ lw_tbl := tV_0_187 (List.mem_cons_of_mem _ h)
theorem tV_0_189 {w : Cond} (h : w ∈ tS_0_189) : w ∈ lw_tbl := tV_0_188 (List.mem_cons_of_mem _ h)
theorem tV_0_190 {w : Cond} (h : w ∈ tS_0_190) : w ∈ lw_tbl := tV_0_189 (List.mem_cons_of_mem _ h)
theorem tV_0_191 {w : Cond} (h : w ∈ tS_0_191) : w ∈ lw_tbl := tV_0_190 (List.mem_cons_of_mem _ h)
theorem tV_0_192 {w : Cond} (h : w ∈ tS_0_192) : w ∈ lw_tbl := tV_0_191 (List.mem_cons_of_mem _ h)
theorem tV_0_193 {w : Cond} (h : w ∈ tS_0_193) : w ∈ lw_tbl := tV_0_192 (List.mem_cons_of_mem _ h)
theorem tV_0_194 {w : Cond} (h : w ∈ tS_0_194) : w ∈ lw_tbl := tV_0_193 (List.mem_cons_of_mem _ h)
theorem tV_0_195 {w : Cond} (h : w ∈ tS_0_195) : w ∈ lw_tbl := tV_0_194 (List.mem_cons_of_mem _ h)
theorem tV_0_196 {w : Cond} (h : w ∈ tS_0_196) : w ∈ lw_tbl := tV_0_195 (List.mem_cons_of_mem _ h)
theorem tV_0_197 {w : Cond} (h : w ∈ tS_0_197) : w ∈ lw_tbl := tV_0_196 (List.mem_cons_of_mem _ h)
theorem tV_0_198 {w : Cond} (h : w ∈ tS_0_198) : w ∈ lw_tbl := tV_0_197 (List.mem_cons_of_mem _ h)
theorem tV_0_199 {w : Cond} (h : w ∈ tS_0_199) : w ∈ lw_tbl := tV_0_198 (List.mem_cons_of_mem _ h)
theorem tV_0_200 {w : Cond} (h : w ∈ tS_0_200) : w ∈ lw_tbl := tV_0_199 (List.mem_cons_of_mem _ h)
theorem tV_0_201 {w : Cond} (h : w ∈ tS_0_201) : w ∈ lw_tbl := tV_0_200 (List.mem_cons_of_mem _ h)
theorem tV_0_202 {w : Cond} (h : w ∈ tS_0_202) : w ∈ lw_tbl := tV_0_201 (List.mem_cons_of_mem _ h)
theorem tV_0_203 {w : Cond} (h : w ∈ tS_0_203) : w ∈ lw_tbl := tV_0_202 (List.mem_cons_of_mem _ h)
theorem tV_0_204 {w : Cond} (h : w ∈ tS_0_204) : w ∈ lw_tbl := tV_0_203 (List.mem_cons_of_mem _ h)
theorem tV_0_205 {w : Cond} (h : w ∈ tS_0_205) : w ∈ lw_tbl := tV_0_204 (List.mem_cons_of_mem _ h)
theorem tV_0_206 {w : Cond} (h : w ∈ tS_0_206) : w ∈ lw_tbl := tV_0_205 (List.mem_cons_of_mem _ h)
theorem tV_0_207 {w : Cond} (h : w ∈ tS_0_207) : w ∈ lw_tbl := tV_0_206 (List.mem_cons_of_mem _ h)
theorem tV_0_208 {w : Cond} (h : w ∈ tS_0_208) : w ∈ lw_tbl := tV_0_207 (List.mem_cons_of_mem _ h)
theorem tV_0_209 {w : Cond} (h : w ∈ tS_0_209) : w ∈ lw_tbl := tV_0_208 (List.mem_cons_of_mem _ h)
theorem tV_0_210 {w : Cond} (h : w ∈ tS_0_210) : w ∈ lw_tbl := tV_0_209 (List.mem_cons_of_mem _ h)
theorem tV_0_211 {w : Cond} (h : w ∈ tS_0_211) : w ∈ lw_tbl := tV_0_210 (List.mem_cons_of_mem _ h)
theorem tV_0_212 {w : Cond} (h : w ∈ tS_0_212) : w ∈ lw_tbl := tV_0_211 (List.mem_cons_of_mem _ h)
theorem tV_0_213 {w : Cond} (h : w ∈ tS_0_213) : w ∈ lw_tbl := tV_0_212 (List.mem_cons_of_mem _ h)
theorem tV_0_214 {w : Cond} (h : w ∈ tS_0_214) : w ∈ lw_tbl := tV_0_213 (List.mem_cons_of_mem _ h)
theorem tV_0_215 {w : Cond} (h : w ∈ tS_0_215) : w ∈ lw_tbl := tV_0_214 (List.mem_cons_of_mem _ h)
theorem tV_0_216 {w : Cond} (h : w ∈ tS_0_216) : w ∈ lw_tbl := tV_0_215 (List.mem_cons_of_mem _ h)
theorem tV_0_217 {w : Cond} (h : w ∈ tS_0_217) : w ∈ lw_tbl := tV_0_216 (List.mem_cons_of_mem _ h)
theorem tV_0_218 {w : Cond} (h : w ∈ tS_0_218) : w ∈ lw_tbl := tV_0_217 (List.mem_cons_of_mem _ h)
theorem tV_0_219 {w : Cond} (h : w ∈ tS_0_219) : w ∈ lw_tbl := tV_0_218 (List.mem_cons_of_mem _ h)
theorem tV_0_220 {w : Cond} (h : w ∈ tS_0_220) : w ∈ lw_tbl := tV_0_219 (List.mem_cons_of_mem _ h)
theorem tV_0_221 {w : Cond} (h : w ∈ tS_0_221) : w ∈ lw_tbl := tV_0_220 (List.mem_cons_of_mem _ h)
theorem tV_0_222 {w : Cond} (h : w ∈ tS_0_222) : w ∈ lw_tbl := tV_0_221 (List.mem_cons_of_mem _ h)
theorem tV_0_223 {w : Cond} (h : w ∈ tS_0_223) : w ∈ lw_tbl := tV_0_222 (List.mem_cons_of_mem _ h)
theorem tV_0_224 {w : Cond} (h : w ∈ tS_0_224) : w ∈ lw_tbl := tV_0_223 (List.mem_cons_of_mem _ h)
theorem tV_0_225 {w : Cond} (h : w ∈ tS_0_225) : w ∈ lw_tbl := tV_0_224 (List.mem_cons_of_mem _ h)
theorem tV_0_226 {w : Cond} (h : w ∈ tS_0_226) : w ∈ lw_tbl := tV_0_225 (List.mem_cons_of_mem _ h)
theorem tV_0_227 {w : Cond} (h : w ∈ tS_0_227) : w ∈ lw_tbl := tV_0_226 (List.mem_cons_of_mem _ h)
theorem tV_0_228 {w : Cond} (h : w ∈ tS_0_228) : w ∈ lw_tbl := tV_0_227 (List.mem_cons_of_mem _ h)
theorem tV_0_229 {w : Cond} (h : w ∈ tS_0_229) : w ∈ lw_tbl := tV_0_228 (List.mem_cons_of_mem _ h)
theorem tV_0_230 {w : Cond} (h : w ∈ tS_0_230) : w ∈ lw_tbl := tV_0_229 (List.mem_cons_of_mem _ h)
theorem tV_0_231 {w : Cond} (h : w ∈ tS_0_231) : w ∈ lw_tbl := tV_0_230 (List.mem_cons_of_mem _ h)
theorem tV_0_232 {w : Cond} (h : w ∈ tS_0_232) : w ∈ lw_tbl := tV_0_231 (List.mem_cons_of_mem _ h)
theorem tV_0_233 {w : Cond} (h : w ∈ tS_0_233) : w ∈ lw_tbl := tV_0_232 (List.mem_cons_of_mem _ h)
theorem tV_0_234 {w : Cond} (h : w ∈ tS_0_234) : w ∈ lw_tbl := tV_0_233 (List.mem_cons_of_mem _ h)
theorem tV_0_235 {w : Cond} (h : w ∈ tS_0_235) : w ∈ lw_tbl := tV_0_234 (List.mem_cons_of_mem _ h)
theorem tV_0_236 {w : Cond} (h : w ∈ tS_0_236) : w ∈ lw_tbl := tV_0_235 (List.mem_cons_of_mem _ h)
theorem tV_0_237 {w : Cond} (h : w ∈ tS_0_237) : w ∈ lw_tbl := tV_0_236 (List.mem_cons_of_mem _ h)
theorem tV_0_238 {w : Cond} (h : w ∈ tS_0_238) : w ∈ lw_tbl := tV_0_237 (List.mem_cons_of_mem _ h)
theorem tV_0_239 {w : Cond} (h : w ∈ tS_0_239) : w ∈ lw_tbl := tV_0_238 (List.mem_cons_of_mem _ h)
def tS_1_480 : List Cond := []
def tS_1_479 : List Cond := (Jvm.Cond.code ({ cls := "Runweaver", name := "turn", desc := "(I)I" } : Jvm.MethodName) prog_1_method_9_code (5 : Nat) (Option.some Jvm.ClassFile.FieldType.int)) :: tS_1_480
def tS_1_478 : List Cond := (Jvm.Cond.selects "Runweaver" ({ cls := "Runweaver", name := "turn", desc := "(I)I" } : Jvm.MethodName) ({ cls := "Runweaver", name := "turn", desc := "(I)I" } : Jvm.MethodName)) :: tS_1_479
def tS_1_477 : List Cond := (Jvm.Cond.instanceMethod ({ cls := "Runweaver", name := "turn", desc := "(I)I" } : Jvm.MethodName)) :: tS_1_478
def tS_1_476 : List Cond := (Jvm.Cond.methodLink "RunweaverLaw" (44 : Nat) ({ cls := "Runweaver", name := "turn", desc := "(I)I" } : Jvm.MethodName)) :: tS_1_477
def tS_1_475 : List Cond := (Jvm.Cond.codeWith ({ cls := "RunweaverLaw", name := "turn", desc := "(LRunweaver;ILRunweaverLaw$Out;)I" } : Jvm.MethodName) method_9_code (4 : Nat) (Option.some Jvm.ClassFile.FieldType.int) [((0 : Nat), (10 : Nat), (13 : Nat), (19 : Nat))]) :: tS_1_476
def tS_1_474 : List Cond := (Jvm.Cond.static ({ cls := "RunweaverLaw", name := "turn", desc := "(LRunweaver;ILRunweaverLaw$Out;)I" } : Jvm.MethodName)) :: tS_1_475
def tS_1_473 : List Cond := (Jvm.Cond.methodLink "RunweaverLaw" (193 : Nat) ({ cls := "RunweaverLaw", name := "turn", desc := "(LRunweaver;ILRunweaverLaw$Out;)I" } : Jvm.MethodName)) :: tS_1_474
def tS_1_472 : List Cond := (Jvm.Cond.code ({ cls := "Runweaver", name := "swap", desc := "(III)I" } : Jvm.MethodName) prog_1_method_8_code (6 : Nat) (Option.some Jvm.ClassFile.FieldType.int)) :: tS_1_473
def tS_1_471 : List Cond := (Jvm.Cond.selects "Runweaver" ({ cls := "Runweaver", name := "swap", desc := "(III)I" } : Jvm.MethodName) ({ cls := "Runweaver", name := "swap", desc := "(III)I" } : Jvm.MethodName)) :: tS_1_472
def tS_1_470 : List Cond := (Jvm.Cond.instanceMethod ({ cls := "Runweaver", name := "swap", desc := "(III)I" } : Jvm.MethodName)) :: tS_1_471
def tS_1_469 : List Cond := (Jvm.Cond.methodLink "RunweaverLaw" (41 : Nat) ({ cls := "Runweaver", name := "swap", desc := "(III)I" } : Jvm.MethodName)) :: tS_1_470
def tS_1_468 : List Cond := (Jvm.Cond.codeWith ({ cls := "RunweaverLaw", name := "swap", desc := "(LRunweaver;IIILRunweaverLaw$Out;)I" } : Jvm.MethodName) method_8_code (6 : Nat) (Option.some Jvm.ClassFile.FieldType.int) [((0 : Nat), (13 : Nat), (16 : Nat), (19 : Nat))]) :: tS_1_469
def tS_1_467 : List Cond := (Jvm.Cond.static ({ cls := "RunweaverLaw", name := "swap", desc := "(LRunweaver;IIILRunweaverLaw$Out;)I" } : Jvm.MethodName)) :: tS_1_468
def tS_1_466 : List Cond := (Jvm.Cond.methodLink "RunweaverLaw" (190 : Nat) ({ cls := "RunweaverLaw", name := "swap", desc := "(LRunweaver;IIILRunweaverLaw$Out;)I" } : Jvm.MethodName)) :: tS_1_467
def tS_1_465 : List Cond := (Jvm.Cond.code ({ cls := "Runweaver$Row", name := "trade", desc := "(II)V" } : Jvm.MethodName) prog_3_method_8_code (5 : Nat) (Option.none : Option Jvm.ClassFile.FieldType)) :: tS_1_466
def tS_1_464 : List Cond := (Jvm.Cond.selects "Runweaver$Row" ({ cls := "Runweaver$Row", name := "trade", desc := "(II)V" } : Jvm.MethodName) ({ cls := "Runweaver$Row", name := "trade", desc := "(II)V" } : Jvm.MethodName)) :: tS_1_465
def tS_1_463 : List Cond := (Jvm.Cond.instanceMethod ({ cls := "Runweaver$Row", name := "trade", desc := "(II)V" } : Jvm.MethodName)) :: tS_1_464
def tS_1_462 : List Cond := (Jvm.Cond.methodLink "Runweaver" (104 : Nat) ({ cls := "Runweaver$Row", name := "trade", desc := "(II)V" } : Jvm.MethodName)) :: tS_1_463
def tS_1_461 : List Cond := (Jvm.Cond.code ({ cls := "Runweaver$Row", name := "wrongerByExchange", desc := "(I)I" } : Jvm.MethodName) prog_3_method_9_code (2 : Nat) (Option.some Jvm.ClassFile.FieldType.int)) :: tS_1_462
def tS_1_460 : List Cond := (Jvm.Cond.selects "Runweaver$Row" ({ cls := "Runweaver$Row", name := "wrongerByExchange", desc := "(I)I" } : Jvm.MethodName) ({ cls := "Runweaver$Row", name := "wrongerByExchange", desc := "(I)I" } : Jvm.MethodName)) :: tS_1_461
def tS_1_459 : List Cond := (Jvm.Cond.instanceMethod ({ cls := "Runweaver$Row", name := "wrongerByExchange", desc := "(I)I" } : Jvm.MethodName)) :: tS_1_460
def tS_1_458 : List Cond := (Jvm.Cond.methodLink "Runweaver" (101 : Nat) ({ cls := "Runweaver$Row", name := "wrongerByExchange", desc := "(I)I" } : Jvm.MethodName)) :: tS_1_459
def tS_1_457 : List Cond := (Jvm.Cond.code ({ cls := "Runweaver", name := "demandPlaceWithNext", desc := "(LRunweaver$Row;I)V" } : Jvm.MethodName) prog_1_method_53_code (2 : Nat) (Option.none : Option Jvm.ClassFile.FieldType)) :: tS_1_458
def tS_1_456 : List Cond := (Jvm.Cond.static ({ cls := "Runweaver", name := "demandPlaceWithNext", desc := "(LRunweaver$Row;I)V" } : Jvm.MethodName)) :: tS_1_457
def tS_1_455 : List Cond := (Jvm.Cond.methodLink "Runweaver" (98 : Nat) ({ cls := "Runweaver", name := "demandPlaceWithNext", desc := "(LRunweaver$Row;I)V" } : Jvm.MethodName)) :: tS_1_456
def tS_1_454 : List Cond := (Jvm.Cond.code ({ cls := "Runweaver", name := "exchange", desc := "(II)I" } : Jvm.MethodName) prog_1_method_7_code (5 : Nat) (Option.some Jvm.ClassFile.FieldType.int)) :: tS_1_455
def tS_1_453 : List Cond := (Jvm.Cond.selects "Runweaver" ({ cls := "Runweaver", name := "exchange", desc := "(II)I" } : Jvm.MethodName) ({ cls := "Runweaver", name := "exchange", desc := "(II)I" } : Jvm.MethodName)) :: tS_1_454
def tS_1_452 : List Cond := (Jvm.Cond.instanceMethod ({ cls := "Runweaver", name := "exchange", desc := "(II)I" } : Jvm.MethodName)) :: tS_1_453
def tS_1_451 : List Cond := (Jvm.Cond.methodLink "RunweaverLaw" (38 : Nat) ({ cls := "Runweaver", name := "exchange", desc := "(II)I" } : Jvm.MethodName)) :: tS_1_452
def tS_1_450 : List Cond := (Jvm.Cond.codeWith ({ cls := "RunweaverLaw", name := "exchange", desc := "(LRunweaver;IILRunweaverLaw$Out;)I" } : Jvm.MethodName) method_7_code (5 : Nat) (Option.some Jvm.ClassFile.FieldType.int) [((0 : Nat), (11 : Nat), (14 : Nat), (19 : Nat))]) :: tS_1_451
def tS_1_449 : List Cond := (Jvm.Cond.static ({ cls := "RunweaverLaw", name := "exchange", desc := "(LRunweaver;IILRunweaverLaw$Out;)I" } : Jvm.MethodName)) :: tS_1_450
def tS_1_448 : List Cond := (Jvm.Cond.methodLink "RunweaverLaw" (187 : Nat) ({ cls := "RunweaverLaw", name := "exchange", desc := "(LRunweaver;IILRunweaverLaw$Out;)I" } : Jvm.MethodName)) :: tS_1_449
def tS_1_447 : List Cond := (Jvm.Cond.code ({ cls := "Runweaver", name := "clear", desc := "(I)I" } : Jvm.MethodName) prog_1_method_6_code (4 : Nat) (Option.some Jvm.ClassFile.FieldType.int)) :: tS_1_448
def tS_1_446 : List Cond := (Jvm.Cond.selects "Runweaver" ({ cls := "Runweaver", name := "clear", desc := "(I)I" } : Jvm.MethodName) ({ cls := "Runweaver", name := "clear", desc := "(I)I" } : Jvm.MethodName)) :: tS_1_447
def tS_1_445 : List Cond := (Jvm.Cond.instanceMethod ({ cls := "Runweaver", name := "clear", desc := "(I)I" } : Jvm.MethodName)) :: tS_1_446
def tS_1_444 : List Cond := (Jvm.Cond.methodLink "RunweaverLaw" (34 : Nat) ({ cls := "Runweaver", name := "clear", desc := "(I)I" } : Jvm.MethodName)) :: tS_1_445
def tS_1_443 : List Cond := (Jvm.Cond.codeWith ({ cls := "RunweaverLaw", name := "clear", desc := "(LRunweaver;ILRunweaverLaw$Out;)I" } : Jvm.MethodName) method_6_code (4 : Nat) (Option.some Jvm.ClassFile.FieldType.int) [((0 : Nat), (10 : Nat), (13 : Nat), (19 : Nat))]) :: tS_1_444
def tS_1_442 : List Cond := (Jvm.Cond.static ({ cls := "RunweaverLaw", name := "clear", desc := "(LRunweaver;ILRunweaverLaw$Out;)I" } : Jvm.MethodName)) :: tS_1_443
def tS_1_441 : List Cond := (Jvm.Cond.methodLink "RunweaverLaw" (183 : Nat) ({ cls := "RunweaverLaw", name := "clear", desc := "(LRunweaver;ILRunweaverLaw$Out;)I" } : Jvm.MethodName)) :: tS_1_442
def tS_1_440 : List Cond := (Jvm.Cond.code ({ cls := "Runweaver", name := "drop", desc := "(II)I" } : Jvm.MethodName) prog_1_method_5_code (6 : Nat) (Option.some Jvm.ClassFile.FieldType.int)) :: tS_1_441
def tS_1_439 : List Cond := (Jvm.Cond.selects "Runweaver" ({ cls := "Runweaver", name := "drop", desc := "(II)I" } : Jvm.MethodName) ({ cls := "Runweaver", name := "drop", desc := "(II)I" } : Jvm.MethodName)) :: tS_1_440
def tS_1_438 : List Cond := (Jvm.Cond.instanceMethod ({ cls := "Runweaver", name := "drop", desc := "(II)I" } : Jvm.MethodName)) :: tS_1_439
def tS_1_437 : List Cond := (Jvm.Cond.methodLink "RunweaverLaw" (31 : Nat) ({ cls := "Runweaver", name := "drop", desc := "(II)I" } : Jvm.MethodName)) :: tS_1_438
def tS_1_436 : List Cond := (Jvm.Cond.codeWith ({ cls := "RunweaverLaw", name := "drop", desc := "(LRunweaver;IILRunweaverLaw$Out;)I" } : Jvm.MethodName) method_5_code (5 : Nat) (Option.some Jvm.ClassFile.FieldType.int) [((0 : Nat), (11 : Nat), (14 : Nat), (19 : Nat))]) :: tS_1_437
def tS_1_435 : List Cond := (Jvm.Cond.static ({ cls := "RunweaverLaw", name := "drop", desc := "(LRunweaver;IILRunweaverLaw$Out;)I" } : Jvm.MethodName)) :: tS_1_436
def tS_1_434 : List Cond := (Jvm.Cond.methodLink "RunweaverLaw" (180 : Nat) ({ cls := "RunweaverLaw", name := "drop", desc := "(LRunweaver;IILRunweaverLaw$Out;)I" } : Jvm.MethodName)) :: tS_1_435
def tS_1_433 : List Cond := (Jvm.Cond.stringRef "Runweaver" (294 : Nat) "no such place") :: tS_1_434
def tS_1_432 : List Cond := (Jvm.Cond.code ({ cls := "Runweaver", name := "demandWithin", desc := "(Z)V" } : Jvm.MethodName) prog_1_method_51_code (1 : Nat) (Option.none : Option Jvm.ClassFile.FieldType)) :: tS_1_433
def tS_1_431 : List Cond := (Jvm.Cond.static ({ cls := "Runweaver", name := "demandWithin", desc := "(Z)V" } : Jvm.MethodName)) :: tS_1_432
def tS_1_430 : List Cond := (Jvm.Cond.methodLink "Runweaver" (110 : Nat) ({ cls := "Runweaver", name := "demandWithin", desc := "(Z)V" } : Jvm.MethodName)) :: tS_1_431
def tS_1_429 : List Cond := (Jvm.Cond.code ({ cls := "Runweaver", name := "demandPlace", desc := "(LRunweaver$Row;I)V" } : Jvm.MethodName) prog_1_method_52_code (2 : Nat) (Option.none : Option Jvm.ClassFile.FieldType)) :: tS_1_430
def tS_1_428 : List Cond := (Jvm.Cond.static ({ cls := "Runweaver", name := "demandPlace", desc := "(LRunweaver$Row;I)V" } : Jvm.MethodName)) :: tS_1_429
def tS_1_427 : List Cond := (Jvm.Cond.methodLink "Runweaver" (75 : Nat) ({ cls := "Runweaver", name := "demandPlace", desc := "(LRunweaver$Row;I)V" } : Jvm.MethodName)) :: tS_1_428
def tS_1_426 : List Cond := (Jvm.Cond.code ({ cls := "Runweaver", name := "put", desc := "(III)I" } : Jvm.MethodName) prog_1_method_4_code (6 : Nat) (Option.some Jvm.ClassFile.FieldType.int)) :: tS_1_427
def tS_1_425 : List Cond := (Jvm.Cond.selects "Runweaver" ({ cls := "Runweaver", name := "put", desc := "(III)I" } : Jvm.MethodName) ({ cls := "Runweaver", name := "put", desc := "(III)I" } : Jvm.MethodName)) :: tS_1_426
def tS_1_424 : List Cond := (Jvm.Cond.instanceMethod ({ cls := "Runweaver", name := "put", desc := "(III)I" } : Jvm.MethodName)) :: tS_1_425
def tS_1_423 : List Cond := (Jvm.Cond.methodLink "RunweaverLaw" (27 : Nat) ({ cls := "Runweaver", name := "put", desc := "(III)I" } : Jvm.MethodName)) :: tS_1_424
def tS_1_422 : List Cond := (Jvm.Cond.codeWith ({ cls := "RunweaverLaw", name := "put", desc := "(LRunweaver;IIILRunweaverLaw$Out;)I" } : Jvm.MethodName) method_4_code (6 : Nat) (Option.some Jvm.ClassFile.FieldType.int) [((0 : Nat), (13 : Nat), (16 : Nat), (19 : Nat)), ((0 : Nat), (13 : Nat), (20 : Nat), (21 : Nat))]) :: tS_1_423
def tS_1_421 : List Cond := (Jvm.Cond.static ({ cls := "RunweaverLaw", name := "put", desc := "(LRunweaver;IIILRunweaverLaw$Out;)I" } : Jvm.MethodName)) :: tS_1_422
def tS_1_420 : List Cond := (Jvm.Cond.methodLink "RunweaverLaw" (176 : Nat) ({ cls := "RunweaverLaw", name := "put", desc := "(LRunweaver;IIILRunweaverLaw$Out;)I" } : Jvm.MethodName)) :: tS_1_421
def tS_1_419 : List Cond := (Jvm.Cond.code ({ cls := "Runweaver", name := "refused", desc := "()I" } : Jvm.MethodName) prog_1_method_55_code (1 : Nat) (Option.some Jvm.ClassFile.FieldType.int)) :: tS_1_420
def tS_1_418 : List Cond := (Jvm.Cond.instanceMethod ({ cls := "Runweaver", name := "refused", desc := "()I" } : Jvm.MethodName)) :: tS_1_419
def tS_1_417 : List Cond := (Jvm.Cond.privateMethod ({ cls := "Runweaver", name := "refused", desc := "()I" } : Jvm.MethodName)) :: tS_1_418
def tS_1_416 : List Cond := (Jvm.Cond.methodLink "Runweaver" (64 : Nat) ({ cls := "Runweaver", name := "refused", desc := "()I" } : Jvm.MethodName)) :: tS_1_417
def tS_1_415 : List Cond := (Jvm.Cond.constant "Runweaver" (293 : Nat) (99999 : Int32)) :: tS_1_416
def tS_1_414 : List Cond := (Jvm.Cond.constant "Runweaver" (292 : Nat) (-99999 : Int32)) :: tS_1_415
def tS_1_413 : List Cond := (Jvm.Cond.code ({ cls := "Runweaver", name := "demandKey", desc := "(I)V" } : Jvm.MethodName) prog_1_method_50_code (1 : Nat) (Option.none : Option Jvm.ClassFile.FieldType)) :: tS_1_414
def tS_1_412 : List Cond := (Jvm.Cond.static ({ cls := "Runweaver", name := "demandKey", desc := "(I)V" } : Jvm.MethodName)) :: tS_1_413
def tS_1_411 : List Cond := (Jvm.Cond.methodLink "Runweaver" (58 : Nat) ({ cls := "Runweaver", name := "demandKey", desc := "(I)V" } : Jvm.MethodName)) :: tS_1_412
def tS_1_410 : List Cond := (Jvm.Cond.code ({ cls := "Runweaver", name := "add", desc := "(II)I" } : Jvm.MethodName) prog_1_method_3_code (4 : Nat) (Option.some Jvm.ClassFile.FieldType.int)) :: tS_1_411
def tS_1_409 : List Cond := (Jvm.Cond.selects "Runweaver" ({ cls := "Runweaver", name := "add", desc := "(II)I" } : Jvm.MethodName) ({ cls := "Runweaver", name := "add", desc := "(II)I" } : Jvm.MethodName)) :: tS_1_410
def tS_1_408 : List Cond := (Jvm.Cond.instanceMethod ({ cls := "Runweaver", name := "add", desc := "(II)I" } : Jvm.MethodName)) :: tS_1_409
def tS_1_407 : List Cond := (Jvm.Cond.methodLink "RunweaverLaw" (23 : Nat) ({ cls := "Runweaver", name := "add", desc := "(II)I" } : Jvm.MethodName)) :: tS_1_408
def tS_1_406 : List Cond := (Jvm.Cond.codeWith ({ cls := "RunweaverLaw", name := "add", desc := "(LRunweaver;IILRunweaverLaw$Out;)I" } : Jvm.MethodName) method_3_code (5 : Nat) (Option.some Jvm.ClassFile.FieldType.int) [((0 : Nat), (11 : Nat), (14 : Nat), (19 : Nat)), ((0 : Nat), (11 : Nat), (18 : Nat), (21 : Nat))]) :: tS_1_407
def tS_1_405 : List Cond := (Jvm.Cond.static ({ cls := "RunweaverLaw", name := "add", desc := "(LRunweaver;IILRunweaverLaw$Out;)I" } : Jvm.MethodName)) :: tS_1_406
def tS_1_404 : List Cond := (Jvm.Cond.methodLink "RunweaverLaw" (172 : Nat) ({ cls := "RunweaverLaw", name := "add", desc := "(LRunweaver;IILRunweaverLaw$Out;)I" } : Jvm.MethodName)) :: tS_1_405
def tS_1_403 : List Cond := (Jvm.Cond.code ({ cls := "Runweaver", name := "done", desc := "(I)I" } : Jvm.MethodName) prog_1_method_54_code (2 : Nat) (Option.some Jvm.ClassFile.FieldType.int)) :: tS_1_404
def tS_1_402 : List Cond := (Jvm.Cond.instanceMethod ({ cls := "Runweaver", name := "done", desc := "(I)I" } : Jvm.MethodName)) :: tS_1_403
def tS_1_401 : List Cond := (Jvm.Cond.privateMethod ({ cls := "Runweaver", name := "done", desc := "(I)I" } : Jvm.MethodName)) :: tS_1_402
def tS_1_400 : List Cond := (Jvm.Cond.methodLink "Runweaver" (54 : Nat) ({ cls := "Runweaver", name := "done", desc := "(I)I" } : Jvm.MethodName)) :: tS_1_401
def tS_1_399 : List Cond := (Jvm.Cond.methodLink "Runweaver" (150 : Nat) ({ cls := "java/lang/Math", name := "min", desc := "(II)I" } : Jvm.MethodName)) :: tS_1_400
def tS_1_398 : List Cond := (Jvm.Cond.code ({ cls := "Runweaver", name := "patternKey", desc := "(IIIII)I" } : Jvm.MethodName) prog_1_method_60_code (5 : Nat) (Option.some Jvm.ClassFile.FieldType.int)) :: tS_1_399
def tS_1_397 : List Cond := (Jvm.Cond.static ({ cls := "Runweaver", name := "patternKey", desc := "(IIIII)I" } : Jvm.MethodName)) :: tS_1_398
def tS_1_396 : List Cond := (Jvm.Cond.methodLink "Runweaver" (299 : Nat) ({ cls := "Runweaver", name := "patternKey", desc := "(IIIII)I" } : Jvm.MethodName)) :: tS_1_397
def tS_1_395 : List Cond := (Jvm.Cond.code ({ cls := "Runweaver", name := "appendPattern", desc := "(LRunweaver$Row;IIII)V" } : Jvm.MethodName) prog_1_method_58_code (7 : Nat) (Option.none : Option Jvm.ClassFile.FieldType)) :: tS_1_396
def tS_1_394 : List Cond := (Jvm.Cond.instanceMethod ({ cls := "Runweaver", name := "appendPattern", desc := "(LRunweaver$Row;IIII)V" } : Jvm.MethodName)) :: tS_1_395
def tS_1_393 : List Cond := (Jvm.Cond.privateMethod ({ cls := "Runweaver", name := "appendPattern", desc := "(LRunweaver$Row;IIII)V" } : Jvm.MethodName)) :: tS_1_394
def tS_1_392 : List Cond := (Jvm.Cond.methodLink "Runweaver" (50 : Nat) ({ cls := "Runweaver", name := "appendPattern", desc := "(LRunweaver$Row;IIII)V" } : Jvm.MethodName)) :: tS_1_393
def tS_1_391 : List Cond := (Jvm.Cond.methodLink "Runweaver" (71 : Nat) ({ cls := "Runweaver$Row", name := "append", desc := "(II)V" } : Jvm.MethodName)) :: tS_1_392
def tS_1_390 : List Cond := (Jvm.Cond.code ({ cls := "Runweaver", name := "nextStamp", desc := "()I" } : Jvm.MethodName) prog_1_method_56_code (2 : Nat) (Option.some Jvm.ClassFile.FieldType.int)) :: tS_1_391
def tS_1_389 : List Cond := (Jvm.Cond.instanceMethod ({ cls := "Runweaver", name := "nextStamp", desc := "()I" } : Jvm.MethodName)) :: tS_1_390
def tS_1_388 : List Cond := (Jvm.Cond.privateMethod ({ cls := "Runweaver", name := "nextStamp", desc := "()I" } : Jvm.MethodName)) :: tS_1_389
def tS_1_387 : List Cond := (Jvm.Cond.methodLink "Runweaver" (296 : Nat) ({ cls := "Runweaver", name := "nextStamp", desc := "()I" } : Jvm.MethodName)) :: tS_1_388
def tS_1_386 : List Cond := (Jvm.Cond.code ({ cls := "Runweaver", name := "stampOfNew", desc := "(LRunweaver$Row;)I" } : Jvm.MethodName) prog_1_method_57_code (2 : Nat) (Option.some Jvm.ClassFile.FieldType.int)) :: tS_1_387
def tS_1_385 : List Cond := (Jvm.Cond.instanceMethod ({ cls := "Runweaver", name := "stampOfNew", desc := "(LRunweaver$Row;)I" } : Jvm.MethodName)) :: tS_1_386
def tS_1_384 : List Cond := (Jvm.Cond.privateMethod ({ cls := "Runweaver", name := "stampOfNew", desc := "(LRunweaver$Row;)I" } : Jvm.MethodName)) :: tS_1_385
def tS_1_383 : List Cond := (Jvm.Cond.methodLink "Runweaver" (67 : Nat) ({ cls := "Runweaver", name := "stampOfNew", desc := "(LRunweaver$Row;)I" } : Jvm.MethodName)) :: tS_1_384
def tS_1_382 : List Cond := (Jvm.Cond.constant "Runweaver" (303 : Nat) (65536 : Int32)) :: tS_1_383
def tS_1_381 : List Cond := (Jvm.Cond.code ({ cls := "Runweaver", name := "appendDrawn", desc := "(LRunweaver$Row;III)V" } : Jvm.MethodName) prog_1_method_59_code (7 : Nat) (Option.none : Option Jvm.ClassFile.FieldType)) :: tS_1_382
def tS_1_380 : List Cond := (Jvm.Cond.instanceMethod ({ cls := "Runweaver", name := "appendDrawn", desc := "(LRunweaver$Row;III)V" } : Jvm.MethodName)) :: tS_1_381
def tS_1_379 : List Cond := (Jvm.Cond.privateMethod ({ cls := "Runweaver", name := "appendDrawn", desc := "(LRunweaver$Row;III)V" } : Jvm.MethodName)) :: tS_1_380
def tS_1_378 : List Cond := (Jvm.Cond.methodLink "Runweaver" (46 : Nat) ({ cls := "Runweaver", name := "appendDrawn", desc := "(LRunweaver$Row;III)V" } : Jvm.MethodName)) :: tS_1_379
def tS_1_377 : List Cond := (Jvm.Cond.methodLink "Runweaver" (43 : Nat) ({ cls := "Runweaver$Row", name := "empty", desc := "()V" } : Jvm.MethodName)) :: tS_1_378
def tS_1_376 : List Cond := (Jvm.Cond.code ({ cls := "Runweaver$Row", name := "room", desc := "()I" } : Jvm.MethodName) prog_3_method_2_code (1 : Nat) (Option.some Jvm.ClassFile.FieldType.int)) :: tS_1_377
def tS_1_375 : List Cond := (Jvm.Cond.selects "Runweaver$Row" ({ cls := "Runweaver$Row", name := "room", desc := "()I" } : Jvm.MethodName) ({ cls := "Runweaver$Row", name := "room", desc := "()I" } : Jvm.MethodName)) :: tS_1_376
def tS_1_374 : List Cond := (Jvm.Cond.instanceMethod ({ cls := "Runweaver$Row", name := "room", desc := "()I" } : Jvm.MethodName)) :: tS_1_375
def tS_1_373 : List Cond := (Jvm.Cond.methodLink "Runweaver" (31 : Nat) ({ cls := "Runweaver$Row", name := "room", desc := "()I" } : Jvm.MethodName)) :: tS_1_374
def tS_1_372 : List Cond := (Jvm.Cond.code ({ cls := "Runweaver", name := "fill", desc := "(IIIII)I" } : Jvm.MethodName) prog_1_method_2_code (8 : Nat) (Option.some Jvm.ClassFile.FieldType.int)) :: tS_1_373
def tS_1_371 : List Cond := (Jvm.Cond.selects "Runweaver" ({ cls := "Runweaver", name := "fill", desc := "(IIIII)I" } : Jvm.MethodName) ({ cls := "Runweaver", name := "fill", desc := "(IIIII)I" } : Jvm.MethodName)) :: tS_1_372
def tS_1_370 : List Cond := (Jvm.Cond.instanceMethod ({ cls := "Runweaver", name := "fill", desc := "(IIIII)I" } : Jvm.MethodName)) :: tS_1_371
def tS_1_369 : List Cond := (Jvm.Cond.methodLink "RunweaverLaw" (7 : Nat) ({ cls := "Runweaver", name := "fill", desc := "(IIIII)I" } : Jvm.MethodName)) :: tS_1_370
def tS_1_368 : List Cond := (Jvm.Cond.classLink "RunweaverLaw" (21 : Nat) "java/lang/IllegalArgumentException") :: tS_1_369
def tS_1_367 : List Cond := (Jvm.Cond.classLink "RunweaverLaw" (19 : Nat) "java/lang/IndexOutOfBoundsException") :: tS_1_368
def tS_1_366 : List Cond := (Jvm.Cond.codeWith ({ cls := "RunweaverLaw", name := "fill", desc := "(LRunweaver;IIIIILRunweaverLaw$Out;)I" } : Jvm.MethodName) method_2_code (8 : Nat) (Option.some Jvm.ClassFile.FieldType.int) [((0 : Nat), (17 : Nat), (20 : Nat), (19 : Nat)), ((0 : Nat), (17 : Nat), (24 : Nat), (21 : Nat))]) :: tS_1_367
def tS_1_365 : List Cond := (Jvm.Cond.static ({ cls := "RunweaverLaw", name := "fill", desc := "(LRunweaver;IIIIILRunweaverLaw$Out;)I" } : Jvm.MethodName)) :: tS_1_366
def tS_1_364 : List Cond := (Jvm.Cond.methodLink "RunweaverLaw" (166 : Nat) ({ cls := "RunweaverLaw", name := "fill", desc := "(LRunweaver;IIIIILRunweaverLaw$Out;)I" } : Jvm.MethodName)) :: tS_1_365
def tS_1_363 : List Cond := (Jvm.Cond.superclass "RunweaverLaw$Out" "java/lang/Object") :: tS_1_364
def tS_1_362 : List Cond := (Jvm.Cond.soleField "RunweaverLaw$Out" "s") :: tS_1_363
def tS_1_361 : List Cond := (Jvm.Cond.lays "RunweaverLaw$Out" "RunweaverLaw$Out" "s" "Ljava/lang/String;") :: tS_1_362
def tS_1_360 : List Cond := (Jvm.Cond.soleField "RunweaverLaw$Out" "n") :: tS_1_361
def tS_1_359 : List Cond := (Jvm.Cond.lays "RunweaverLaw$Out" "RunweaverLaw$Out" "n" "J") :: tS_1_360
def tS_1_358 : List Cond := (Jvm.Cond.fieldLinkNest "RunweaverLaw" (96 : Nat) "RunweaverLaw$Out" "s" "Ljava/lang/String;" "RunweaverLaw") :: tS_1_359
def tS_1_357 : List Cond := (Jvm.Cond.fieldLinkNest "RunweaverLaw" (13 : Nat) "RunweaverLaw$Out" "n" "J" "RunweaverLaw") :: tS_1_358
def tS_1_356 : List Cond := (Jvm.Cond.methodLink "RunweaverLaw$Out" (1 : Nat) ({ cls := "java/lang/Object", name := "<init>", desc := "()V" } : Jvm.MethodName)) :: tS_1_357
def tS_1_355 : List Cond := (Jvm.Cond.code ({ cls := "RunweaverLaw$Out", name := "<init>", desc := "()V" } : Jvm.MethodName) prog_5_method_1_code (1 : Nat) (Option.none : Option Jvm.ClassFile.FieldType)) :: tS_1_356
def tS_1_354 : List Cond := (Jvm.Cond.instanceMethod ({ cls := "RunweaverLaw$Out", name := "<init>", desc := "()V" } : Jvm.MethodName)) :: tS_1_355
def tS_1_353 : List Cond := (Jvm.Cond.methodLinkNest "RunweaverLaw" (165 : Nat) ({ cls := "RunweaverLaw$Out", name := "<init>", desc := "()V" } : Jvm.MethodName) "RunweaverLaw") :: tS_1_354
def tS_1_352 : List Cond := (Jvm.Cond.instantiable "RunweaverLaw$Out" (2 : Nat)) :: tS_1_353
def tS_1_351 : List Cond := (Jvm.Cond.classLink "RunweaverLaw" (14 : Nat) "RunweaverLaw$Out") :: tS_1_352
def tS_1_350 : List Cond := (Jvm.Cond.methodLink "Runweaver" (282 : Nat) ({ cls := "Runweaver", name := "isSound", desc := "()Z" } : Jvm.MethodName)) :: tS_1_351
def tS_1_349 : List Cond := (Jvm.Cond.stringRef "Runweaver" (237 : Nat) "no such number of the house") :: tS_1_350
def tS_1_348 : List Cond := (Jvm.Cond.code ({ cls := "Runweaver", name := "sortedRows", desc := "()I" } : Jvm.MethodName) prog_1_method_64_code (3 : Nat) (Option.some Jvm.ClassFile.FieldType.int)) :: tS_1_349
def tS_1_347 : List Cond := (Jvm.Cond.instanceMethod ({ cls := "Runweaver", name := "sortedRows", desc := "()I" } : Jvm.MethodName)) :: tS_1_348
def tS_1_346 : List Cond := (Jvm.Cond.privateMethod ({ cls := "Runweaver", name := "sortedRows", desc := "()I" } : Jvm.MethodName)) :: tS_1_347
def tS_1_345 : List Cond := (Jvm.Cond.methodLink "Runweaver" (232 : Nat) ({ cls := "Runweaver", name := "sortedRows", desc := "()I" } : Jvm.MethodName)) :: tS_1_346
def tS_1_344 : List Cond := (Jvm.Cond.code ({ cls := "Runweaver", name := "itemsInAll", desc := "()I" } : Jvm.MethodName) prog_1_method_63_code (3 : Nat) (Option.some Jvm.ClassFile.FieldType.int)) :: tS_1_345
def tS_1_343 : List Cond := (Jvm.Cond.instanceMethod ({ cls := "Runweaver", name := "itemsInAll", desc := "()I" } : Jvm.MethodName)) :: tS_1_344
def tS_1_342 : List Cond := (Jvm.Cond.privateMethod ({ cls := "Runweaver", name := "itemsInAll", desc := "()I" } : Jvm.MethodName)) :: tS_1_343
def tS_1_341 : List Cond := (Jvm.Cond.methodLink "Runweaver" (217 : Nat) ({ cls := "Runweaver", name := "itemsInAll", desc := "()I" } : Jvm.MethodName)) :: tS_1_342
def tS_1_340 : List Cond := (Jvm.Cond.code ({ cls := "Runweaver", name := "house", desc := "(I)I" } : Jvm.MethodName) prog_1_method_44_code (2 : Nat) (Option.some Jvm.ClassFile.FieldType.int)) :: tS_1_341
def tS_1_339 : List Cond := (Jvm.Cond.selects "Runweaver" ({ cls := "Runweaver", name := "house", desc := "(I)I" } : Jvm.MethodName) ({ cls := "Runweaver", name := "house", desc := "(I)I" } : Jvm.MethodName)) :: tS_1_340
def tS_1_338 : List Cond := (Jvm.Cond.instanceMethod ({ cls := "Runweaver", name := "house", desc := "(I)I" } : Jvm.MethodName)) :: tS_1_339
def tS_1_337 : List Cond := (Jvm.Cond.methodLink "Runweaver" (279 : Nat) ({ cls := "Runweaver", name := "house", desc := "(I)I" } : Jvm.MethodName)) :: tS_1_338
def tS_1_336 : List Cond := (Jvm.Cond.code ({ cls := "Runweaver$Row", name := "unlikeKeysOfSorted", desc := "()I" } : Jvm.MethodName) prog_3_method_31_code (3 : Nat) (Option.some Jvm.ClassFile.FieldType.int)) :: tS_1_337
def tS_1_335 : List Cond := (Jvm.Cond.selects "Runweaver$Row" ({ cls := "Runweaver$Row", name := "unlikeKeysOfSorted", desc := "()I" } : Jvm.MethodName) ({ cls := "Runweaver$Row", name := "unlikeKeysOfSorted", desc := "()I" } : Jvm.MethodName)) :: tS_1_336
def tS_1_334 : List Cond := (Jvm.Cond.instanceMethod ({ cls := "Runweaver$Row", name := "unlikeKeysOfSorted", desc := "()I" } : Jvm.MethodName)) :: tS_1_335
def tS_1_333 : List Cond := (Jvm.Cond.methodLink "Runweaver" (208 : Nat) ({ cls := "Runweaver$Row", name := "unlikeKeysOfSorted", desc := "()I" } : Jvm.MethodName)) :: tS_1_334
def tS_1_332 : List Cond := (Jvm.Cond.code ({ cls := "Runweaver", name := "unlike", desc := "(I)I" } : Jvm.MethodName) prog_1_method_38_code (2 : Nat) (Option.some Jvm.ClassFile.FieldType.int)) :: tS_1_333
def tS_1_331 : List Cond := (Jvm.Cond.selects "Runweaver" ({ cls := "Runweaver", name := "unlike", desc := "(I)I" } : Jvm.MethodName) ({ cls := "Runweaver", name := "unlike", desc := "(I)I" } : Jvm.MethodName)) :: tS_1_332
def tS_1_330 : List Cond := (Jvm.Cond.instanceMethod ({ cls := "Runweaver", name := "unlike", desc := "(I)I" } : Jvm.MethodName)) :: tS_1_331
def tS_1_329 : List Cond := (Jvm.Cond.methodLink "Runweaver" (276 : Nat) ({ cls := "Runweaver", name := "unlike", desc := "(I)I" } : Jvm.MethodName)) :: tS_1_330
def tS_1_328 : List Cond := (Jvm.Cond.code ({ cls := "Runweaver$Row", name := "keysTogether", desc := "()I" } : Jvm.MethodName) prog_3_method_29_code (3 : Nat) (Option.some Jvm.ClassFile.FieldType.int)) :: tS_1_329
def tS_1_327 : List Cond := (Jvm.Cond.selects "Runweaver$Row" ({ cls := "Runweaver$Row", name := "keysTogether", desc := "()I" } : Jvm.MethodName) ({ cls := "Runweaver$Row", name := "keysTogether", desc := "()I" } : Jvm.MethodName)) :: tS_1_328
def tS_1_326 : List Cond := (Jvm.Cond.instanceMethod ({ cls := "Runweaver$Row", name := "keysTogether", desc := "()I" } : Jvm.MethodName)) :: tS_1_327
def tS_1_325 : List Cond := (Jvm.Cond.methodLink "Runweaver" (214 : Nat) ({ cls := "Runweaver$Row", name := "keysTogether", desc := "()I" } : Jvm.MethodName)) :: tS_1_326
def tS_1_324 : List Cond := (Jvm.Cond.code ({ cls := "Runweaver", name := "sum", desc := "(I)I" } : Jvm.MethodName) prog_1_method_40_code (2 : Nat) (Option.some Jvm.ClassFile.FieldType.int)) :: tS_1_325
def tS_1_323 : List Cond := (Jvm.Cond.selects "Runweaver" ({ cls := "Runweaver", name := "sum", desc := "(I)I" } : Jvm.MethodName) ({ cls := "Runweaver", name := "sum", desc := "(I)I" } : Jvm.MethodName)) :: tS_1_324
def tS_1_322 : List Cond := (Jvm.Cond.instanceMethod ({ cls := "Runweaver", name := "sum", desc := "(I)I" } : Jvm.MethodName)) :: tS_1_323
def tS_1_321 : List Cond := (Jvm.Cond.methodLink "Runweaver" (273 : Nat) ({ cls := "Runweaver", name := "sum", desc := "(I)I" } : Jvm.MethodName)) :: tS_1_322
def tS_1_320 : List Cond := (Jvm.Cond.code ({ cls := "java/lang/Math", name := "max", desc := "(II)I" } : Jvm.MethodName) prog_13_method_65_code (2 : Nat) (Option.some Jvm.ClassFile.FieldType.int)) :: tS_1_321
def tS_1_319 : List Cond := (Jvm.Cond.static ({ cls := "java/lang/Math", name := "max", desc := "(II)I" } : Jvm.MethodName)) :: tS_1_320
def tS_1_318 : List Cond := (Jvm.Cond.methodLink "Runweaver$Row" (46 : Nat) ({ cls := "java/lang/Math", name := "max", desc := "(II)I" } : Jvm.MethodName)) :: tS_1_319
def tS_1_317 : List Cond := (Jvm.Cond.code ({ cls := "Runweaver$Row", name := "longestRun", desc := "()I" } : Jvm.MethodName) prog_3_method_22_code (4 : Nat) (Option.some Jvm.ClassFile.FieldType.int)) :: tS_1_318
def tS_1_316 : List Cond := (Jvm.Cond.selects "Runweaver$Row" ({ cls := "Runweaver$Row", name := "longestRun", desc := "()I" } : Jvm.MethodName) ({ cls := "Runweaver$Row", name := "longestRun", desc := "()I" } : Jvm.MethodName)) :: tS_1_317
def tS_1_315 : List Cond := (Jvm.Cond.instanceMethod ({ cls := "Runweaver$Row", name := "longestRun", desc := "()I" } : Jvm.MethodName)) :: tS_1_316
def tS_1_314 : List Cond := (Jvm.Cond.methodLink "Runweaver" (187 : Nat) ({ cls := "Runweaver$Row", name := "longestRun", desc := "()I" } : Jvm.MethodName)) :: tS_1_315
def tS_1_313 : List Cond := (Jvm.Cond.code ({ cls := "Runweaver", name := "longest", desc := "(I)I" } : Jvm.MethodName) prog_1_method_33_code (2 : Nat) (Option.some Jvm.ClassFile.FieldType.int)) :: tS_1_314
def tS_1_312 : List Cond := (Jvm.Cond.selects "Runweaver" ({ cls := "Runweaver", name := "longest", desc := "(I)I" } : Jvm.MethodName) ({ cls := "Runweaver", name := "longest", desc := "(I)I" } : Jvm.MethodName)) :: tS_1_313
def tS_1_311 : List Cond := (Jvm.Cond.instanceMethod ({ cls := "Runweaver", name := "longest", desc := "(I)I" } : Jvm.MethodName)) :: tS_1_312
def tS_1_310 : List Cond := (Jvm.Cond.methodLink "Runweaver" (270 : Nat) ({ cls := "Runweaver", name := "longest", desc := "(I)I" } : Jvm.MethodName)) :: tS_1_311
def tS_1_309 : List Cond := (Jvm.Cond.code ({ cls := "Runweaver$Row", name := "runsInAll", desc := "()I" } : Jvm.MethodName) prog_3_method_21_code (3 : Nat) (Option.some Jvm.ClassFile.FieldType.int)) :: tS_1_310
def tS_1_308 : List Cond := (Jvm.Cond.selects "Runweaver$Row" ({ cls := "Runweaver$Row", name := "runsInAll", desc := "()I" } : Jvm.MethodName) ({ cls := "Runweaver$Row", name := "runsInAll", desc := "()I" } : Jvm.MethodName)) :: tS_1_309
def tS_1_307 : List Cond := (Jvm.Cond.instanceMethod ({ cls := "Runweaver$Row", name := "runsInAll", desc := "()I" } : Jvm.MethodName)) :: tS_1_308
def tS_1_306 : List Cond := (Jvm.Cond.methodLink "Runweaver" (184 : Nat) ({ cls := "Runweaver$Row", name := "runsInAll", desc := "()I" } : Jvm.MethodName)) :: tS_1_307
def tS_1_305 : List Cond := (Jvm.Cond.code ({ cls := "Runweaver", name := "runs", desc := "(I)I" } : Jvm.MethodName) prog_1_method_32_code (2 : Nat) (Option.some Jvm.ClassFile.FieldType.int)) :: tS_1_306
def tS_1_304 : List Cond := (Jvm.Cond.selects "Runweaver" ({ cls := "Runweaver", name := "runs", desc := "(I)I" } : Jvm.MethodName) ({ cls := "Runweaver", name := "runs", desc := "(I)I" } : Jvm.MethodName)) :: tS_1_305
def tS_1_303 : List Cond := (Jvm.Cond.instanceMethod ({ cls := "Runweaver", name := "runs", desc := "(I)I" } : Jvm.MethodName)) :: tS_1_304
def tS_1_302 : List Cond := (Jvm.Cond.methodLink "Runweaver" (267 : Nat) ({ cls := "Runweaver", name := "runs", desc := "(I)I" } : Jvm.MethodName)) :: tS_1_303
def tS_1_301 : List Cond := (Jvm.Cond.code ({ cls := "Runweaver", name := "ties", desc := "(I)I" } : Jvm.MethodName) prog_1_method_31_code (2 : Nat) (Option.some Jvm.ClassFile.FieldType.int)) :: tS_1_302
def tS_1_300 : List Cond := (Jvm.Cond.selects "Runweaver" ({ cls := "Runweaver", name := "ties", desc := "(I)I" } : Jvm.MethodName) ({ cls := "Runweaver", name := "ties", desc := "(I)I" } : Jvm.MethodName)) :: tS_1_301
def tS_1_299 : List Cond := (Jvm.Cond.instanceMethod ({ cls := "Runweaver", name := "ties", desc := "(I)I" } : Jvm.MethodName)) :: tS_1_300
def tS_1_298 : List Cond := (Jvm.Cond.methodLink "Runweaver" (264 : Nat) ({ cls := "Runweaver", name := "ties", desc := "(I)I" } : Jvm.MethodName)) :: tS_1_299
def tS_1_297 : List Cond := (Jvm.Cond.superclass "java/lang/IllegalArgumentException" "java/lang/RuntimeException") :: tS_1_298
def tS_1_296 : List Cond := (Jvm.Cond.lays "java/lang/IllegalArgumentException" "java/lang/Throwable" "depth" "I") :: tS_1_297
def tS_1_295 : List Cond := (Jvm.Cond.methodLink "java/lang/IllegalArgumentException" (7 : Nat) ({ cls := "java/lang/RuntimeException", name := "<init>", desc := "(Ljava/lang/String;)V" } : Jvm.MethodName)) :: tS_1_296
def tS_1_294 : List Cond := (Jvm.Cond.code ({ cls := "java/lang/IllegalArgumentException", name := "<init>", desc := "(Ljava/lang/String;)V" } : Jvm.MethodName) prog_10_method_2_code (2 : Nat) (Option.none : Option Jvm.ClassFile.FieldType)) :: tS_1_295
def tS_1_293 : List Cond := (Jvm.Cond.instanceMethod ({ cls := "java/lang/IllegalArgumentException", name := "<init>", desc := "(Ljava/lang/String;)V" } : Jvm.MethodName)) :: tS_1_294
def tS_1_292 : List Cond := (Jvm.Cond.methodLink "Runweaver" (239 : Nat) ({ cls := "java/lang/IllegalArgumentException", name := "<init>", desc := "(Ljava/lang/String;)V" } : Jvm.MethodName)) :: tS_1_293
def tS_1_291 : List Cond := (Jvm.Cond.stringRef "Runweaver" (290 : Nat) "an argument is out of its range") :: tS_1_292
def tS_1_290 : List Cond := (Jvm.Cond.lays "java/lang/IllegalArgumentException" "java/lang/Throwable" "backtrace" "Ljava/lang/Object;") :: tS_1_291
def tS_1_289 : List Cond := (Jvm.Cond.lays "java/lang/IllegalArgumentException" "java/lang/Throwable" "detailMessage" "Ljava/lang/String;") :: tS_1_290
def tS_1_288 : List Cond := (Jvm.Cond.lays "java/lang/IllegalArgumentException" "java/lang/Throwable" "suppressedExceptions" "Ljava/util/List;") :: tS_1_289
def tS_1_287 : List Cond := (Jvm.Cond.lays "java/lang/IllegalArgumentException" "java/lang/Throwable" "stackTrace" "[Ljava/lang/StackTraceElement;") :: tS_1_288
def tS_1_286 : List Cond := (Jvm.Cond.lays "java/lang/IllegalArgumentException" "java/lang/Throwable" "cause" "Ljava/lang/Throwable;") :: tS_1_287
def tS_1_285 : List Cond := (Jvm.Cond.selects "java/lang/IllegalArgumentException" ({ cls := "java/lang/Throwable", name := "fillInStackTrace", desc := "(I)Ljava/lang/Throwable;" } : Jvm.MethodName) ({ cls := "java/lang/Throwable", name := "fillInStackTrace", desc := "(I)Ljava/lang/Throwable;" } : Jvm.MethodName)) :: tS_1_286
def tS_1_284 : List Cond := (Jvm.Cond.castable "java/lang/IllegalArgumentException" "java/lang/IllegalArgumentException") :: tS_1_285
def tS_1_283 : List Cond := (Jvm.Cond.instantiable "java/lang/IllegalArgumentException" (6 : Nat)) :: tS_1_284
def tS_1_282 : List Cond := (Jvm.Cond.classLink "Runweaver" (235 : Nat) "java/lang/IllegalArgumentException") :: tS_1_283
def tS_1_281 : List Cond := (Jvm.Cond.code ({ cls := "Runweaver", name := "demand", desc := "(Z)V" } : Jvm.MethodName) prog_1_method_49_code (1 : Nat) (Option.none : Option Jvm.ClassFile.FieldType)) :: tS_1_282
def tS_1_280 : List Cond := (Jvm.Cond.static ({ cls := "Runweaver", name := "demand", desc := "(Z)V" } : Jvm.MethodName)) :: tS_1_281
def tS_1_279 : List Cond := (Jvm.Cond.methodLink "Runweaver" (35 : Nat) ({ cls := "Runweaver", name := "demand", desc := "(Z)V" } : Jvm.MethodName)) :: tS_1_280
def tS_1_278 : List Cond := (Jvm.Cond.code ({ cls := "Runweaver", name := "wrong", desc := "(II)I" } : Jvm.MethodName) prog_1_method_29_code (4 : Nat) (Option.some Jvm.ClassFile.FieldType.int)) :: tS_1_279
def tS_1_277 : List Cond := (Jvm.Cond.selects "Runweaver" ({ cls := "Runweaver", name := "wrong", desc := "(II)I" } : Jvm.MethodName) ({ cls := "Runweaver", name := "wrong", desc := "(II)I" } : Jvm.MethodName)) :: tS_1_278
def tS_1_276 : List Cond := (Jvm.Cond.instanceMethod ({ cls := "Runweaver", name := "wrong", desc := "(II)I" } : Jvm.MethodName)) :: tS_1_277
def tS_1_275 : List Cond := (Jvm.Cond.methodLink "Runweaver" (261 : Nat) ({ cls := "Runweaver", name := "wrong", desc := "(II)I" } : Jvm.MethodName)) :: tS_1_276
def tS_1_274 : List Cond := (Jvm.Cond.code ({ cls := "Runweaver", name := "mark", desc := "(IZ)I" } : Jvm.MethodName) prog_1_method_43_code (6 : Nat) (Option.some Jvm.ClassFile.FieldType.int)) :: tS_1_275
def tS_1_273 : List Cond := (Jvm.Cond.selects "Runweaver" ({ cls := "Runweaver", name := "mark", desc := "(IZ)I" } : Jvm.MethodName) ({ cls := "Runweaver", name := "mark", desc := "(IZ)I" } : Jvm.MethodName)) :: tS_1_274
def tS_1_272 : List Cond := (Jvm.Cond.instanceMethod ({ cls := "Runweaver", name := "mark", desc := "(IZ)I" } : Jvm.MethodName)) :: tS_1_273
def tS_1_271 : List Cond := (Jvm.Cond.methodLink "Runweaver" (257 : Nat) ({ cls := "Runweaver", name := "mark", desc := "(IZ)I" } : Jvm.MethodName)) :: tS_1_272
def tS_1_270 : List Cond := (Jvm.Cond.arrayClass Jvm.ClassFile.FieldType.byte) :: tS_1_271
def tS_1_269 : List Cond := (Jvm.Cond.superclass "java/lang/IndexOutOfBoundsException" "java/lang/RuntimeException") :: tS_1_270
def tS_1_268 : List Cond := (Jvm.Cond.soleField "java/lang/Throwable" "suppressedExceptions") :: tS_1_269
def tS_1_267 : List Cond := (Jvm.Cond.soleField "java/lang/Throwable" "depth") :: tS_1_268
def tS_1_266 : List Cond := (Jvm.Cond.lays "java/lang/IndexOutOfBoundsException" "java/lang/Throwable" "depth" "I") :: tS_1_267
def tS_1_265 : List Cond := (Jvm.Cond.soleField "java/lang/Throwable" "stackTrace") :: tS_1_266
def tS_1_264 : List Cond := (Jvm.Cond.soleField "java/lang/Throwable" "cause") :: tS_1_265
def tS_1_263 : List Cond := (Jvm.Cond.soleField "java/lang/Throwable" "detailMessage") :: tS_1_264
def tS_1_262 : List Cond := (Jvm.Cond.soleField "java/lang/Throwable" "backtrace") :: tS_1_263
def tS_1_261 : List Cond := (Jvm.Cond.fieldLink "java/lang/Throwable" (24 : Nat) "java/lang/Throwable" "suppressedExceptions" "Ljava/util/List;") :: tS_1_262
def tS_1_260 : List Cond := (Jvm.Cond.fieldLink "java/lang/Throwable" (17 : Nat) "java/lang/Throwable" "stackTrace" "[Ljava/lang/StackTraceElement;") :: tS_1_261
def tS_1_259 : List Cond := (Jvm.Cond.fieldLink "java/lang/Throwable" (7 : Nat) "java/lang/Throwable" "cause" "Ljava/lang/Throwable;") :: tS_1_260
def tS_1_258 : List Cond := (Jvm.Cond.fieldLink "java/lang/Throwable" (31 : Nat) "java/lang/Throwable" "detailMessage" "Ljava/lang/String;") :: tS_1_259
def tS_1_257 : List Cond := (Jvm.Cond.fieldLink "java/lang/Throwable" (198 : Nat) "java/lang/Throwable" "backtrace" "Ljava/lang/Object;") :: tS_1_258
def tS_1_256 : List Cond := (Jvm.Cond.code ({ cls := "java/lang/Throwable", name := "<init>", desc := "(Ljava/lang/String;)V" } : Jvm.MethodName) prog_20_method_2_code (2 : Nat) (Option.none : Option Jvm.ClassFile.FieldType)) :: tS_1_257
def tS_1_255 : List Cond := (Jvm.Cond.instanceMethod ({ cls := "java/lang/Throwable", name := "<init>", desc := "(Ljava/lang/String;)V" } : Jvm.MethodName)) :: tS_1_256
def tS_1_254 : List Cond := (Jvm.Cond.methodLink "java/lang/Exception" (7 : Nat) ({ cls := "java/lang/Throwable", name := "<init>", desc := "(Ljava/lang/String;)V" } : Jvm.MethodName)) :: tS_1_255
def tS_1_253 : List Cond := (Jvm.Cond.code ({ cls := "java/lang/Exception", name := "<init>", desc := "(Ljava/lang/String;)V" } : Jvm.MethodName) prog_9_method_2_code (2 : Nat) (Option.none : Option Jvm.ClassFile.FieldType)) :: tS_1_254
def tS_1_252 : List Cond := (Jvm.Cond.instanceMethod ({ cls := "java/lang/Exception", name := "<init>", desc := "(Ljava/lang/String;)V" } : Jvm.MethodName)) :: tS_1_253
def tS_1_251 : List Cond := (Jvm.Cond.methodLink "java/lang/RuntimeException" (7 : Nat) ({ cls := "java/lang/Exception", name := "<init>", desc := "(Ljava/lang/String;)V" } : Jvm.MethodName)) :: tS_1_252
def tS_1_250 : List Cond := (Jvm.Cond.code ({ cls := "java/lang/RuntimeException", name := "<init>", desc := "(Ljava/lang/String;)V" } : Jvm.MethodName) prog_14_method_2_code (2 : Nat) (Option.none : Option Jvm.ClassFile.FieldType)) :: tS_1_251
def tS_1_249 : List Cond := (Jvm.Cond.instanceMethod ({ cls := "java/lang/RuntimeException", name := "<init>", desc := "(Ljava/lang/String;)V" } : Jvm.MethodName)) :: tS_1_250
def tS_1_248 : List Cond := (Jvm.Cond.methodLink "java/lang/IndexOutOfBoundsException" (7 : Nat) ({ cls := "java/lang/RuntimeException", name := "<init>", desc := "(Ljava/lang/String;)V" } : Jvm.MethodName)) :: tS_1_249
def tS_1_247 : List Cond := (Jvm.Cond.code ({ cls := "java/lang/IndexOutOfBoundsException", name := "<init>", desc := "(Ljava/lang/String;)V" } : Jvm.MethodName) prog_11_method_2_code (2 : Nat) (Option.none : Option Jvm.ClassFile.FieldType)) :: tS_1_248
def tS_1_246 : List Cond := (Jvm.Cond.instanceMethod ({ cls := "java/lang/IndexOutOfBoundsException", name := "<init>", desc := "(Ljava/lang/String;)V" } : Jvm.MethodName)) :: tS_1_247
def tS_1_245 : List Cond := (Jvm.Cond.methodLink "Runweaver" (289 : Nat) ({ cls := "java/lang/IndexOutOfBoundsException", name := "<init>", desc := "(Ljava/lang/String;)V" } : Jvm.MethodName)) :: tS_1_246
def tS_1_244 : List Cond := (Jvm.Cond.stringRef "Runweaver" (287 : Nat) "no such row") :: tS_1_245
def tS_1_243 : List Cond := (Jvm.Cond.native ({ cls := "java/lang/Throwable", name := "fillInStackTrace", desc := "(I)Ljava/lang/Throwable;" } : Jvm.MethodName)) :: tS_1_244
def tS_1_242 : List Cond := (Jvm.Cond.instantiable "java/lang/Throwable" (6 : Nat)) :: tS_1_243
def tS_1_241 : List Cond := (Jvm.Cond.instanceMethod ({ cls := "java/lang/Throwable", name := "fillInStackTrace", desc := "(I)Ljava/lang/Throwable;" } : Jvm.MethodName)) :: tS_1_242
def tS_1_240 : List Cond := (Jvm.Cond.privateMethod ({ cls := "java/lang/Throwable", name := "fillInStackTrace", desc := "(I)Ljava/lang/Throwable;" } : Jvm.MethodName)) :: tS_1_241
set_option maxRecDepth 100000 in
theorem tU_1 : tables_1_2 = tS_1_240 := rfl
theorem tV_1_240 {w : Cond} (h0 : w ∈ tS_1_240) : w ∈ lw_tbl := List.mem_append_left _ (List.mem_append_right _ (have h : w ∈ tables_1_2 := tU_1 ▸ h0; (List.mem_append_right _ (List.mem_append_left _ h) : w ∈ tables_1)))
theorem tV_1_241 {w : Cond} (h : w ∈ tS_1_241) : w ∈ lw_tbl := tV_1_240 (List.mem_cons_of_mem _ h)
theorem tV_1_242 {w : Cond} (h : w ∈ tS_1_242) : w ∈ lw_tbl := tV_1_241 (List.mem_cons_of_mem _ h)
theorem tV_1_243 {w : Cond} (h : w ∈ tS_1_243) : w ∈ lw_tbl := tV_1_242 (List.mem_cons_of_mem _ h)
theorem tV_1_244 {w : Cond} (h : w ∈ tS_1_244) : w ∈ lw_tbl := tV_1_243 (List.mem_cons_of_mem _ h)
theorem tV_1_245 {w : Cond} (h : w ∈ tS_1_245) : w ∈ lw_tbl := tV_1_244 (List.mem_cons_of_mem _ h)
theorem tV_1_246 {w : Cond} (h : w ∈ tS_1_246) : w ∈ lw_tbl := tV_1_245 (List.mem_cons_of_mem _ h)
theorem tV_1_247 {w : Cond} (h : w ∈ tS_1_247) : w ∈ lw_tbl := tV_1_246 (List.mem_cons_of_mem _ h)
theorem tV_1_248 {w : Cond} (h : w ∈ tS_1_248) : w ∈ lw_tbl := tV_1_247 (List.mem_cons_of_mem _ h)
theorem tV_1_249 {w : Cond} (h : w ∈ tS_1_249) : w ∈ lw_tbl := tV_1_248 (List.mem_cons_of_mem _ h)
theorem tV_1_250 {w : Cond} (h : w ∈ tS_1_250) : w ∈ lw_tbl := tV_1_249 (List.mem_cons_of_mem _ h)
theorem tV_1_251 {w : Cond} (h : w ∈ tS_1_251) : w ∈ lw_tbl := tV_1_250 (List.mem_cons_of_mem _ h)
theorem tV_1_252 {w : Cond} (h : w ∈ tS_1_252) : w ∈ lw_tbl := tV_1_251 (List.mem_cons_of_mem _ h)
theorem tV_1_253 {w : Cond} (h : w ∈ tS_1_253) : w ∈ lw_tbl := tV_1_252 (List.mem_cons_of_mem _ h)
theorem tV_1_254 {w : Cond} (h : w ∈ tS_1_254) : w ∈ lw_tbl := tV_1_253 (List.mem_cons_of_mem _ h)
theorem tV_1_255 {w : Cond} (h : w ∈ tS_1_255) : w ∈ lw_tbl := tV_1_254 (List.mem_cons_of_mem _ h)
theorem tV_1_256 {w : Cond} (h : w ∈ tS_1_256) : w ∈ lw_tbl := tV_1_255 (List.mem_cons_of_mem _ h)
theorem tV_1_257 {w : Cond} (h : w ∈ tS_1_257) : w ∈ lw_tbl := tV_1_256 (List.mem_cons_of_mem _ h)
theorem tV_1_258 {w : Cond} (h : w ∈ tS_1_258) : w ∈ lw_tbl := tV_1_257 (List.mem_cons_of_mem _ h)
theorem tV_1_259 {w : Cond} (h : w ∈ tS_1_259) : w ∈ lw_tbl := tV_1_258 (List.mem_cons_of_mem _ h)
theorem tV_1_260 {w : Cond} (h : w ∈ tS_1_260) : w ∈ lw_tbl := tV_1_259 (List.mem_cons_of_mem _ h)
theorem tV_1_261 {w : Cond} (h : w ∈ tS_1_261) : w ∈ lw_tbl := tV_1_260 (List.mem_cons_of_mem _ h)
theorem tV_1_262 {w : Cond} (h : w ∈ tS_1_262) : w ∈ lw_tbl := tV_1_261 (List.mem_cons_of_mem _ h)
theorem tV_1_263 {w : Cond} (h : w ∈ tS_1_263) : w ∈ lw_tbl := tV_1_262 (List.mem_cons_of_mem _ h)
theorem tV_1_264 {w : Cond} (h : w ∈ tS_1_264) : w ∈ lw_tbl := tV_1_263 (List.mem_cons_of_mem _ h)
theorem tV_1_265 {w : Cond} (h : w ∈ tS_1_265) : w ∈ lw_tbl := tV_1_264 (List.mem_cons_of_mem _ h)
theorem tV_1_266 {w : Cond} (h : w ∈ tS_1_266) : w ∈ lw_tbl := tV_1_265 (List.mem_cons_of_mem _ h)
theorem tV_1_267 {w : Cond} (h : w ∈ tS_1_267) : w ∈ lw_tbl := tV_1_266 (List.mem_cons_of_mem _ h)
theorem tV_1_268 {w : Cond} (h : w ∈ tS_1_268) : w ∈ lw_tbl := tV_1_267 (List.mem_cons_of_mem _ h)
theorem tV_1_269 {w : Cond} (h : w ∈ tS_1_269) : w ∈ lw_tbl := tV_1_268 (List.mem_cons_of_mem _ h)
theorem tV_1_270 {w : Cond} (h : w ∈ tS_1_270) : w ∈ lw_tbl := tV_1_269 (List.mem_cons_of_mem _ h)
theorem tV_1_271 {w : Cond} (h : w ∈ tS_1_271) : w ∈ lw_tbl := tV_1_270 (List.mem_cons_of_mem _ h)
theorem tV_1_272 {w : Cond} (h : w ∈ tS_1_272) : w ∈ lw_tbl := tV_1_271 (List.mem_cons_of_mem _ h)
theorem tV_1_273 {w : Cond} (h : w ∈ tS_1_273) : w ∈ lw_tbl := tV_1_272 (List.mem_cons_of_mem _ h)
theorem tV_1_274 {w : Cond} (h : w ∈ tS_1_274) : w ∈ lw_tbl := tV_1_273 (List.mem_cons_of_mem _ h)
theorem tV_1_275 {w : Cond} (h : w ∈ tS_1_275) : w ∈ lw_tbl := tV_1_274 (List.mem_cons_of_mem _ h)
theorem tV_1_276 {w : Cond} (h : w ∈ tS_1_276) : w ∈ lw_tbl := tV_1_275 (List.mem_cons_of_mem _ h)
theorem tV_1_277 {w : Cond} (h : w ∈ tS_1_277) : w ∈ lw_tbl := tV_1_276 (List.mem_cons_of_mem _ h)
theorem tV_1_278 {w : Cond} (h : w ∈ tS_1_278) : w ∈ lw_tbl := tV_1_277 (List.mem_cons_of_mem _ h)
theorem tV_1_279 {w : Cond} (h : w ∈ tS_1_279) : w ∈ lw_tbl := tV_1_278 (List.mem_cons_of_mem _ h)
theorem tV_1_280 {w : Cond} (h : w ∈ tS_1_280) : w ∈ lw_tbl := tV_1_279 (List.mem_cons_of_mem _ h)
theorem tV_1_281 {w : Cond} (h : w ∈ tS_1_281) : w ∈ lw_tbl := tV_1_280 (List.mem_cons_of_mem _ h)
theorem tV_1_282 {w : Cond} (h : w ∈ tS_1_282) : w ∈ lw_tbl := tV_1_281 (List.mem_cons_of_mem _ h)
theorem tV_1_283 {w : Cond} (h : w ∈ tS_1_283) : w ∈ lw_tbl := tV_1_282 (List.mem_cons_of_mem _ h)
theorem tV_1_284 {w : Cond} (h : w ∈ tS_1_284) : w ∈ lw_tbl := tV_1_283 (List.mem_cons_of_mem _ h)
theorem tV_1_285 {w : Cond} (h : w ∈ tS_1_285) : w ∈ lw_tbl := tV_1_284 (List.mem_cons_of_mem _ h)
theorem tV_1_286 {w : Cond} (h : w ∈ tS_1_286) : w ∈ lw_tbl := tV_1_285 (List.mem_cons_of_mem _ h)
theorem tV_1_287 {w : Cond} (h : w ∈ tS_1_287) : w ∈ lw_tbl := tV_1_286 (List.mem_cons_of_mem _ h)
theorem tV_1_288 {w : Cond} (h : w ∈ tS_1_288) : w ∈ lw_tbl := tV_1_287 (List.mem_cons_of_mem _ h)
theorem tV_1_289 {w : Cond} (h : w ∈ tS_1_289) : w ∈ lw_tbl := tV_1_288 (List.mem_cons_of_mem _ h)
theorem tV_1_290 {w : Cond} (h : w ∈ tS_1_290) : w ∈ lw_tbl := tV_1_289 (List.mem_cons_of_mem _ h)
theorem tV_1_291 {w : Cond} (h : w ∈ tS_1_291) : w ∈ lw_tbl := tV_1_290 (List.mem_cons_of_mem _ h)
theorem tV_1_292 {w : Cond} (h : w ∈ tS_1_292) : w ∈ lw_tbl := tV_1_291 (List.mem_cons_of_mem _ h)
theorem tV_1_293 {w : Cond} (h : w ∈ tS_1_293) : w ∈ lw_tbl := tV_1_292 (List.mem_cons_of_mem _ h)
theorem tV_1_294 {w : Cond} (h : w ∈ tS_1_294) : w ∈ lw_tbl := tV_1_293 (List.mem_cons_of_mem _ h)
theorem tV_1_295 {w : Cond} (h : w ∈ tS_1_295) : w ∈ lw_tbl := tV_1_294 (List.mem_cons_of_mem _ h)
theorem tV_1_296 {w : Cond} (h : w ∈ tS_1_296) : w ∈ lw_tbl := tV_1_295 (List.mem_cons_of_mem _ h)
theorem tV_1_297 {w : Cond} (h : w ∈ tS_1_297) : w ∈ lw_tbl := tV_1_296 (List.mem_cons_of_mem _ h)
theorem tV_1_298 {w : Cond} (h : w ∈ tS_1_298) : w ∈ lw_tbl := tV_1_297 (List.mem_cons_of_mem _ h)
theorem tV_1_299 {w : Cond} (h : w ∈ tS_1_299) : w ∈ lw_tbl := tV_1_298 (List.mem_cons_of_mem _ h)
theorem tV_1_300 {w : Cond} (h : w ∈ tS_1_300) : w ∈ lw_tbl := tV_1_299 (List.mem_cons_of_mem _ h)
theorem tV_1_301 {w : Cond} (h : w ∈ tS_1_301) : w ∈ lw_tbl := tV_1_300 (List.mem_cons_of_mem _ h)
theorem tV_1_302 {w : Cond} (h : w ∈ tS_1_302) : w ∈ lw_tbl := tV_1_301 (List.mem_cons_of_mem _ h)
theorem tV_1_303 {w : Cond} (h : w ∈ tS_1_303) : w ∈ lw_tbl := tV_1_302 (List.mem_cons_of_mem _ h)
theorem tV_1_304 {w : Cond} (h : w ∈ tS_1_304) : w ∈ lw_tbl := tV_1_303 (List.mem_cons_of_mem _ h)
theorem tV_1_305 {w : Cond} (h : w ∈ tS_1_305) : w ∈ lw_tbl := tV_1_304 (List.mem_cons_of_mem _ h)
theorem tV_1_306 {w : Cond} (h : w ∈ tS_1_306) : w ∈ lw_tbl := tV_1_305 (List.mem_cons_of_mem _ h)
theorem tV_1_307 {w : Cond} (h : w ∈ tS_1_307) : w ∈ lw_tbl := tV_1_306 (List.mem_cons_of_mem _ h)
theorem tV_1_308 {w : Cond} (h : w ∈ tS_1_308) : w ∈ lw_tbl := tV_1_307 (List.mem_cons_of_mem _ h)
theorem tV_1_309 {w : Cond} (h : w ∈ tS_1_309) : w ∈ lw_tbl := tV_1_308 (List.mem_cons_of_mem _ h)
theorem tV_1_310 {w : Cond} (h : w ∈ tS_1_310) : w ∈ lw_tbl := tV_1_309 (List.mem_cons_of_mem _ h)
theorem tV_1_311 {w : Cond} (h : w ∈ tS_1_311) : w ∈ lw_tbl := tV_1_310 (List.mem_cons_of_mem _ h)
theorem tV_1_312 {w : Cond} (h : w ∈ tS_1_312) : w ∈ lw_tbl := tV_1_311 (List.mem_cons_of_mem _ h)
theorem tV_1_313 {w : Cond} (h : w ∈ tS_1_313) : w ∈ lw_tbl := tV_1_312 (List.mem_cons_of_mem _ h)
theorem tV_1_314 {w : Cond} (h : w ∈ tS_1_314) : w ∈ lw_tbl := tV_1_313 (List.mem_cons_of_mem _ h)
theorem tV_1_315 {w : Cond} (h : w ∈ tS_1_315) : w ∈ lw_tbl := tV_1_314 (List.mem_cons_of_mem _ h)
theorem tV_1_316 {w : Cond} (h : w ∈ tS_1_316) : w ∈ lw_tbl := tV_1_315 (List.mem_cons_of_mem _ h)
theorem tV_1_317 {w : Cond} (h : w ∈ tS_1_317) : w ∈ lw_tbl := tV_1_316 (List.mem_cons_of_mem _ h)
theorem tV_1_318 {w : Cond} (h : w ∈ tS_1_318) : w ∈ lw_tbl := tV_1_317 (List.mem_cons_of_mem _ h)
theorem tV_1_319 {w : Cond} (h : w ∈ tS_1_319) : w ∈ lw_tbl := tV_1_318 (List.mem_cons_of_mem _ h)
theorem tV_1_320 {w : Cond} (h : w ∈ tS_1_320) : w ∈ lw_tbl := tV_1_319 (List.mem_cons_of_mem _ h)
theorem tV_1_321 {w : Cond} (h : w ∈ tS_1_321) : w ∈ lw_tbl := tV_1_320 (List.mem_cons_of_mem _ h)
theorem tV_1_322 {w : Cond} (h : w ∈ tS_1_322) : w ∈ lw_tbl := tV_1_321 (List.mem_cons_of_mem _ h)
theorem tV_1_323 {w : Cond} (h : w ∈ tS_1_323) : w ∈ lw_tbl := tV_1_322 (List.mem_cons_of_mem _ h)
theorem tV_1_324 {w : Cond} (h : w ∈ tS_1_324) : w ∈ lw_tbl := tV_1_323 (List.mem_cons_of_mem _ h)
theorem tV_1_325 {w : Cond} (h : w ∈ tS_1_325) : w ∈ lw_tbl := tV_1_324 (List.mem_cons_of_mem _ h)
theorem tV_1_326 {w : Cond} (h : w ∈ tS_1_326) : w ∈ lw_tbl := tV_1_325 (List.mem_cons_of_mem _ h)
theorem tV_1_327 {w : Cond} (h : w ∈ tS_1_327) : w ∈ lw_tbl := tV_1_326 (List.mem_cons_of_mem _ h)
theorem tV_1_328 {w : Cond} (h : w ∈ tS_1_328) : w ∈ lw_tbl := tV_1_327 (List.mem_cons_of_mem _ h)
theorem tV_1_329 {w : Cond} (h : w ∈ tS_1_329) : w ∈ lw_tbl := tV_1_328 (List.mem_cons_of_mem _ h)
theorem tV_1_330 {w : Cond} (h : w ∈ tS_1_330) : w ∈ lw_tbl := tV_1_329 (List.mem_cons_of_mem _ h)
theorem tV_1_331 {w : Cond} (h : w ∈ tS_1_331) : w ∈ lw_tbl := tV_1_330 (List.mem_cons_of_mem _ h)
theorem tV_1_332 {w : Cond} (h : w ∈ tS_1_332) : w ∈ lw_tbl := tV_1_331 (List.mem_cons_of_mem _ h)
theorem tV_1_333 {w : Cond} (h : w ∈ tS_1_333) : w ∈ lw_tbl := tV_1_332 (List.mem_cons_of_mem _ h)
theorem tV_1_334 {w : Cond} (h : w ∈ tS_1_334) : w ∈ lw_tbl := tV_1_333 (List.mem_cons_of_mem _ h)
theorem tV_1_335 {w : Cond} (h : w ∈ tS_1_335) : w ∈ lw_tbl := tV_1_334 (List.mem_cons_of_mem _ h)
theorem tV_1_336 {w : Cond} (h : w ∈ tS_1_336) : w ∈ lw_tbl := tV_1_335 (List.mem_cons_of_mem _ h)
theorem tV_1_337 {w : Cond} (h : w ∈ tS_1_337) : w ∈ lw_tbl := tV_1_336 (List.mem_cons_of_mem _ h)
theorem tV_1_338 {w : Cond} (h : w ∈ tS_1_338) : w ∈ lw_tbl := tV_1_337 (List.mem_cons_of_mem _ h)
theorem tV_1_339 {w : Cond} (h : w ∈ tS_1_339) : w ∈ lw_tbl := tV_1_338 (List.mem_cons_of_mem _ h)
theorem tV_1_340 {w : Cond} (h : w ∈ tS_1_340) : w ∈ lw_tbl := tV_1_339 (List.mem_cons_of_mem _ h)
theorem tV_1_341 {w : Cond} (h : w ∈ tS_1_341) : w ∈ lw_tbl := tV_1_340 (List.mem_cons_of_mem _ h)
theorem tV_1_342 {w : Cond} (h : w ∈ tS_1_342) : w ∈ lw_tbl := tV_1_341 (List.mem_cons_of_mem _ h)
theorem tV_1_343 {w : Cond} (h : w ∈ tS_1_343) : w ∈ lw_tbl := tV_1_342 (List.mem_cons_of_mem _ h)
theorem tV_1_344 {w : Cond} (h : w ∈ tS_1_344) : w ∈ lw_tbl := tV_1_343 (List.mem_cons_of_mem _ h)
theorem tV_1_345 {w : Cond} (h : w ∈ tS_1_345) : w ∈ lw_tbl := tV_1_344 (List.mem_cons_of_mem _ h)
theorem tV_1_346 {w : Cond} (h : w ∈ tS_1_346) : w ∈ lw_tbl := tV_1_345 (List.mem_cons_of_mem _ h)
theorem tV_1_347 {w : Cond} (h : w ∈ tS_1_347) : w ∈ lw_tbl := tV_1_346 (List.mem_cons_of_mem _ h)
theorem tV_1_348 {w : Cond} (h : w ∈ tS_1_348) : w ∈ lw_tbl := tV_1_347 (List.mem_cons_of_mem _ h)
theorem tV_1_349 {w : Cond} (h : w ∈ tS_1_349) : w ∈ lw_tbl := tV_1_348 (List.mem_cons_of_mem _ h)
theorem tV_1_350 {w : Cond} (h : w ∈ tS_1_350) : w ∈ lw_tbl := tV_1_349 (List.mem_cons_of_mem _ h)
theorem tV_1_351 {w : Cond} (h : w ∈ tS_1_351) : w ∈ lw_tbl := tV_1_350 (List.mem_cons_of_mem _ h)
theorem tV_1_352 {w : Cond} (h : w ∈ tS_1_352) : w ∈ lw_tbl := tV_1_351 (List.mem_cons_of_mem _ h)
theorem tV_1_353 {w : Cond} (h : w ∈ tS_1_353) : w ∈ lw_tbl := tV_1_352 (List.mem_cons_of_mem _ h)
theorem tV_1_354 {w : Cond} (h : w ∈ tS_1_354) : w ∈ lw_tbl := tV_1_353 (List.mem_cons_of_mem _ h)
theorem tV_1_355 {w : Cond} (h : w ∈ tS_1_355) : w ∈ lw_tbl := tV_1_354 (List.mem_cons_of_mem _ h)
theorem tV_1_356 {w : Cond} (h : w ∈ tS_1_356) : w ∈ lw_tbl := tV_1_355 (List.mem_cons_of_mem _ h)
theorem tV_1_357 {w : Cond} (h : w ∈ tS_1_357) : w ∈ lw_tbl := tV_1_356 (List.mem_cons_of_mem _ h)
theorem tV_1_358 {w : Cond} (h : w ∈ tS_1_358) : w ∈ lw_tbl := tV_1_357 (List.mem_cons_of_mem _ h)
theorem tV_1_359 {w : Cond} (h : w ∈ tS_1_359) : w ∈ lw_tbl := tV_1_358 (List.mem_cons_of_mem _ h)
theorem tV_1_360 {w : Cond} (h : w ∈ tS_1_360) : w ∈ lw_tbl := tV_1_359 (List.mem_cons_of_mem _ h)
theorem tV_1_361 {w : Cond} (h : w ∈ tS_1_361) : w ∈ lw_tbl := tV_1_360 (List.mem_cons_of_mem _ h)
theorem tV_1_362 {w : Cond} (h : w ∈ tS_1_362) : w ∈ lw_tbl := tV_1_361 (List.mem_cons_of_mem _ h)
theorem tV_1_363 {w : Cond} (h : w ∈ tS_1_363) : w ∈ lw_tbl := tV_1_362 (List.mem_cons_of_mem _ h)
theorem tV_1_364 {w : Cond} (h : w ∈ tS_1_364) : w ∈ lw_tbl := tV_1_363 (List.mem_cons_of_mem _ h)
theorem tV_1_365 {w : Cond} (h : w ∈ tS_1_365) : w ∈ lw_tbl := tV_1_364 (List.mem_cons_of_mem _ h)
theorem tV_1_366 {w : Cond} (h : w ∈ tS_1_366) : w ∈ lw_tbl := tV_1_365 (List.mem_cons_of_mem _ h)
theorem tV_1_367 {w : Cond} (h : w ∈ tS_1_367) : w ∈ lw_tbl := tV_1_366 (List.mem_cons_of_mem _ h)
theorem tV_1_368 {w : Cond} (h : w ∈ tS_1_368) : w ∈ lw_tbl := tV_1_367 (List.mem_cons_of_mem _ h)
theorem tV_1_369 {w : Cond} (h : w ∈ tS_1_369) : w ∈ lw_tbl := tV_1_368 (List.mem_cons_of_mem _ h)
theorem tV_1_370 {w : Cond} (h : w ∈ tS_1_370) : w ∈ lw_tbl := tV_1_369 (List.mem_cons_of_mem _ h)
theorem tV_1_371 {w : Cond} (h : w ∈ tS_1_371) : w ∈ lw_tbl := tV_1_370 (List.mem_cons_of_mem _ h)
theorem tV_1_372 {w : Cond} (h : w ∈ tS_1_372) : w ∈ lw_tbl := tV_1_371 (List.mem_cons_of_mem _ h)
theorem tV_1_373 {w : Cond} (h : w ∈ tS_1_373) : w ∈ lw_tbl := tV_1_372 (List.mem_cons_of_mem _ h)
theorem tV_1_374 {w : Cond} (h : w ∈ tS_1_374) : w ∈ lw_tbl := tV_1_373 (List.mem_cons_of_mem _ h)
theorem tV_1_375 {w : Cond} (h : w ∈ tS_1_375) : w ∈ lw_tbl := tV_1_374 (List.mem_cons_of_mem _ h)
theorem tV_1_376 {w : Cond} (h : w ∈ tS_1_376) : w ∈ lw_tbl := tV_1_375 (List.mem_cons_of_mem _ h)
theorem tV_1_377 {w : Cond} (h : w ∈ tS_1_377) : w ∈ lw_tbl := tV_1_376 (List.mem_cons_of_mem _ h)
theorem tV_1_378 {w : Cond} (h : w ∈ tS_1_378) : w ∈ lw_tbl := tV_1_377 (List.mem_cons_of_mem _ h)
theorem tV_1_379 {w : Cond} (h : w ∈ tS_1_379) : w ∈ lw_tbl := tV_1_378 (List.mem_cons_of_mem _ h)
theorem tV_1_380 {w : Cond} (h : w ∈ tS_1_380) : w ∈ lw_tbl := tV_1_379 (List.mem_cons_of_mem _ h)
theorem tV_1_381 {w : Cond} (h : w ∈ tS_1_381) : w ∈ lw_tbl := tV_1_380 (List.mem_cons_of_mem _ h)
theorem tV_1_382 {w : Cond} (h : w ∈ tS_1_382) : w ∈ lw_tbl := tV_1_381 (List.mem_cons_of_mem _ h)
theorem tV_1_383 {w : Cond} (h : w ∈ tS_1_383) : w ∈ lw_tbl := tV_1_382 (List.mem_cons_of_mem _ h)
theorem tV_1_384 {w : Cond} (h : w ∈ tS_1_384) : w ∈ lw_tbl := tV_1_383 (List.mem_cons_of_mem _ h)
theorem tV_1_385 {w : Cond} (h : w ∈ tS_1_385) : w ∈ lw_tbl := tV_1_384 (List.mem_cons_of_mem _ h)
theorem tV_1_386 {w : Cond} (h : w ∈ tS_1_386) : w ∈ lw_tbl := tV_1_385 (List.mem_cons_of_mem _ h)
theorem tV_1_387 {w : Cond} (h : w ∈ tS_1_387) : w ∈ lw_tbl := tV_1_386 (List.mem_cons_of_mem _ h)
theorem tV_1_388 {w : Cond} (h : w ∈ tS_1_388) : w ∈ lw_tbl := tV_1_387 (List.mem_cons_of_mem _ h)
theorem tV_1_389 {w : Cond} (h : w ∈ tS_1_389) : w ∈ lw_tbl := tV_1_388 (List.mem_cons_of_mem _ h)
theorem tV_1_390 {w : Cond} (h : w ∈ tS_1_390) : w ∈ lw_tbl := tV_1_389 (List.mem_cons_of_mem _ h)
theorem tV_1_391 {w : Cond} (h : w ∈ tS_1_391) : w ∈ lw_tbl := tV_1_390 (List.mem_cons_of_mem _ h)
theorem tV_1_392 {w : Cond} (h : w ∈ tS_1_392) : w ∈ lw_tbl := tV_1_391 (List.mem_cons_of_mem _ h)
theorem tV_1_393 {w : Cond} (h : w ∈ tS_1_393) : w ∈ lw_tbl := tV_1_392 (List.mem_cons_of_mem _ h)
theorem tV_1_394 {w : Cond} (h : w ∈ tS_1_394) : w ∈ lw_tbl := tV_1_393 (List.mem_cons_of_mem _ h)
theorem tV_1_395 {w : Cond} (h : w ∈ tS_1_395) : w ∈ lw_tbl := tV_1_394 (List.mem_cons_of_mem _ h)
theorem tV_1_396 {w : Cond} (h : w ∈ tS_1_396) : w ∈ lw_tbl := tV_1_395 (List.mem_cons_of_mem _ h)
theorem tV_1_397 {w : Cond} (h : w ∈ tS_1_397) : w ∈ lw_tbl := tV_1_396 (List.mem_cons_of_mem _ h)
theorem tV_1_398 {w : Cond} (h : w ∈ tS_1_398) : w ∈ lw_tbl := tV_1_397 (List.mem_cons_of_mem _ h)
theorem tV_1_399 {w : Cond} (h : w ∈ tS_1_399) : w ∈ lw_tbl := tV_1_398 (List.mem_cons_of_mem _ h)
theorem tV_1_400 {w : Cond} (h : w ∈ tS_1_400) : w ∈ lw_tbl := tV_1_399 (List.mem_cons_of_mem _ h)
theorem tV_1_401 {w : Cond} (h : w ∈ tS_1_401) : w ∈ lw_tbl := tV_1_400 (List.mem_cons_of_mem _ h)
theorem tV_1_402 {w : Cond} (h : w ∈ tS_1_402) : w ∈ lw_tbl := tV_1_401 (List.mem_cons_of_mem _ h)
theorem tV_1_403 {w : Cond} (h : w ∈ tS_1_403) : w ∈ lw_tbl := tV_1_402 (List.mem_cons_of_mem _ h)
theorem tV_1_404 {w : Cond} (h : w ∈ tS_1_404) : w ∈ lw_tbl := tV_1_403 (List.mem_cons_of_mem _ h)
theorem tV_1_405 {w : Cond} (h : w ∈ tS_1_405) : w ∈ lw_tbl := tV_1_404 (List.mem_cons_of_mem _ h)
theorem tV_1_406 {w : Cond} (h : w ∈ tS_1_406) : w ∈ lw_tbl := tV_1_405 (List.mem_cons_of_mem _ h)
theorem tV_1_407 {w : Cond} (h : w ∈ tS_1_407) : w ∈ lw_tbl := tV_1_406 (List.mem_cons_of_mem _ h)
theorem tV_1_408 {w : Cond} (h : w ∈ tS_1_408) : w ∈ lw_tbl := tV_1_407 (List.mem_cons_of_mem _ h)
theorem tV_1_409 {w : Cond} (h : w ∈ tS_1_409) : w ∈ lw_tbl := tV_1_408 (List.mem_cons_of_mem _ h)
theorem tV_1_410 {w : Cond} (h : w ∈ tS_1_410) : w ∈ lw_tbl := tV_1_409 (List.mem_cons_of_mem _ h)
theorem tV_1_411 {w : Cond} (h : w ∈ tS_1_411) : w ∈ lw_tbl := tV_1_410 (List.mem_cons_of_mem _ h)
theorem tV_1_412 {w : Cond} (h : w ∈ tS_1_412) : w ∈ lw_tbl := tV_1_411 (List.mem_cons_of_mem _ h)
theorem tV_1_413 {w : Cond} (h : w ∈ tS_1_413) : w ∈ lw_tbl := tV_1_412 (List.mem_cons_of_mem _ h)
theorem tV_1_414 {w : Cond} (h : w ∈ tS_1_414) : w ∈ lw_tbl := tV_1_413 (List.mem_cons_of_mem _ h)
theorem tV_1_415 {w : Cond} (h : w ∈ tS_1_415) : w ∈ lw_tbl := tV_1_414 (List.mem_cons_of_mem _ h)
theorem tV_1_416 {w : Cond} (h : w ∈ tS_1_416) : w ∈ lw_tbl := tV_1_415 (List.mem_cons_of_mem _ h)
theorem tV_1_417 {w : Cond} (h : w ∈ tS_1_417) : w ∈ lw_tbl := tV_1_416 (List.mem_cons_of_mem _ h)
theorem tV_1_418 {w : Cond} (h : w ∈ tS_1_418) : w ∈ lw_tbl := tV_1_417 (List.mem_cons_of_mem _ h)
theorem tV_1_419 {w : Cond} (h : w ∈ tS_1_419) : w ∈ lw_tbl := tV_1_418 (List.mem_cons_of_mem _ h)
theorem tV_1_420 {w : Cond} (h : w ∈ tS_1_420) : w ∈ lw_tbl := tV_1_419 (List.mem_cons_of_mem _ h)
theorem tV_1_421 {w : Cond} (h : w ∈ tS_1_421) : w ∈ lw_tbl := tV_1_420 (List.mem_cons_of_mem _ h)
theorem tV_1_422 {w : Cond} (h : w ∈ tS_1_422) : w ∈ lw_tbl := tV_1_421 (List.mem_cons_of_mem _ h)
theorem tV_1_423 {w : Cond} (h : w ∈ tS_1_423) : w ∈ lw_tbl := tV_1_422 (List.mem_cons_of_mem _ h)
theorem tV_1_424 {w : Cond} (h : w ∈ tS_1_424) : w ∈ lw_tbl := tV_1_423 (List.mem_cons_of_mem _ h)
theorem tV_1_425 {w : Cond} (h : w ∈ tS_1_425) : w ∈ lw_tbl := tV_1_424 (List.mem_cons_of_mem _ h)
theorem tV_1_426 {w : Cond} (h : w ∈ tS_1_426) : w ∈ lw_tbl := tV_1_425 (List.mem_cons_of_mem _ h)
theorem tV_1_427 {w : Cond} (h : w ∈ tS_1_427) : w ∈ lw_tbl := tV_1_426 (List.mem_cons_of_mem _ h)
theorem tV_1_428 {w : Cond} (h : w ∈ tS_1_428) : w ∈ lw_tbl := tV_1_427 (List.mem_cons_of_mem _ h)
theorem tV_1_429 {w : Cond} (h : w ∈ tS_1_429) : w ∈ lw_tbl := tV_1_428 (List.mem_cons_of_mem _ h)
theorem tV_1_430 {w : Cond} (h : w ∈ tS_1_430) : w ∈ lw_tbl := tV_1_429 (List.mem_cons_of_mem _ h)
theorem tV_1_431 {w : Cond} (h : w ∈ tS_1_431) : w ∈ lw_tbl := tV_1_430 (List.mem_cons_of_mem _ h)
theorem tV_1_432 {w : Cond} (h : w ∈ tS_1_432) : w ∈ lw_tbl := tV_1_431 (List.mem_cons_of_mem _ h)
theorem tV_1_433 {w : Cond} (h : w ∈ tS_1_433) : w ∈ lw_tbl := tV_1_432 (List.mem_cons_of_mem _ h)
theorem tV_1_434 {w : Cond} (h : w ∈ tS_1_434) : w ∈ lw_tbl := tV_1_433 (List.mem_cons_of_mem _ h)
theorem tV_1_435 {w : Cond} (h : w ∈ tS_1_435) : w ∈ lw_tbl := tV_1_434 (List.mem_cons_of_mem _ h)
theorem tV_1_436 {w : Cond} (h : w ∈ tS_1_436) : w ∈ lw_tbl := tV_1_435 (List.mem_cons_of_mem _ h)
theorem tV_1_437 {w : Cond} (h : w ∈ tS_1_437) : w ∈ lw_tbl := tV_1_436 (List.mem_cons_of_mem _ h)
theorem tV_1_438 {w : Cond} (h : w ∈ tS_1_438) : w ∈ lw_tbl := tV_1_437 (List.mem_cons_of_mem _ h)
theorem tV_1_439 {w : Cond} (h : w ∈ tS_1_439) : w ∈ lw_tbl := tV_1_438 (List.mem_cons_of_mem _ h)
theorem tV_1_440 {w : Cond} (h : w ∈ tS_1_440) : w ∈ lw_tbl := tV_1_439 (List.mem_cons_of_mem _ h)
theorem tV_1_441 {w : Cond} (h : w ∈ tS_1_441) : w ∈ lw_tbl := tV_1_440 (List.mem_cons_of_mem _ h)
theorem tV_1_442 {w : Cond} (h : w ∈ tS_1_442) : w ∈ lw_tbl := tV_1_441 (List.mem_cons_of_mem _ h)
theorem tV_1_443 {w : Cond} (h : w ∈ tS_1_443) : w ∈ lw_tbl := tV_1_442 (List.mem_cons_of_mem _ h)
theorem tV_1_444 {w : Cond} (h : w ∈ tS_1_444) : w ∈ lw_tbl := tV_1_443 (List.mem_cons_of_mem _ h)
theorem tV_1_445 {w : Cond} (h : w ∈ tS_1_445) : w ∈ lw_tbl := tV_1_444 (List.mem_cons_of_mem _ h)
theorem tV_1_446 {w : Cond} (h : w ∈ tS_1_446) : w ∈ lw_tbl := tV_1_445 (List.mem_cons_of_mem _ h)
theorem tV_1_447 {w : Cond} (h : w ∈ tS_1_447) : w ∈ lw_tbl := tV_1_446 (List.mem_cons_of_mem _ h)
theorem tV_1_448 {w : Cond} (h : w ∈ tS_1_448) : w ∈ lw_tbl := tV_1_447 (List.mem_cons_of_mem _ h)
theorem tV_1_449 {w : Cond} (h : w ∈ tS_1_449) : w ∈ lw_tbl := tV_1_448 (List.mem_cons_of_mem _ h)
theorem tV_1_450 {w : Cond} (h : w ∈ tS_1_450) : w ∈ lw_tbl := tV_1_449 (List.mem_cons_of_mem _ h)
theorem tV_1_451 {w : Cond} (h : w ∈ tS_1_451) : w ∈ lw_tbl := tV_1_450 (List.mem_cons_of_mem _ h)
theorem tV_1_452 {w : Cond} (h : w ∈ tS_1_452) : w ∈ lw_tbl := tV_1_451 (List.mem_cons_of_mem _ h)
theorem tV_1_453 {w : Cond} (h : w ∈ tS_1_453) : w ∈ lw_tbl := tV_1_452 (List.mem_cons_of_mem _ h)
theorem tV_1_454 {w : Cond} (h : w ∈ tS_1_454) : w ∈ lw_tbl := tV_1_453 (List.mem_cons_of_mem _ h)
theorem tV_1_455 {w : Cond} (h : w ∈ tS_1_455) : w ∈ lw_tbl := tV_1_454 (List.mem_cons_of_mem _ h)
theorem tV_1_456 {w : Cond} (h : w ∈ tS_1_456) : w ∈ lw_tbl := tV_1_455 (List.mem_cons_of_mem _ h)
theorem tV_1_457 {w : Cond} (h : w ∈ tS_1_457) : w ∈ lw_tbl := tV_1_456 (List.mem_cons_of_mem _ h)
theorem tV_1_458 {w : Cond} (h : w ∈ tS_1_458) : w ∈ lw_tbl := tV_1_457 (List.mem_cons_of_mem _ h)
theorem tV_1_459 {w : Cond} (h : w ∈ tS_1_459) : w ∈ lw_tbl := tV_1_458 (List.mem_cons_of_mem _ h)
theorem tV_1_460 {w : Cond} (h : w ∈ tS_1_460) : w ∈ lw_tbl := tV_1_459 (List.mem_cons_of_mem _ h)
theorem tV_1_461 {w : Cond} (h : w ∈ tS_1_461) : w ∈ lw_tbl := tV_1_460 (List.mem_cons_of_mem _ h)
theorem tV_1_462 {w : Cond} (h : w ∈ tS_1_462) : w ∈ lw_tbl := tV_1_461 (List.mem_cons_of_mem _ h)
theorem tV_1_463 {w : Cond} (h : w ∈ tS_1_463) : w ∈ lw_tbl := tV_1_462 (List.mem_cons_of_mem _ h)
theorem tV_1_464 {w : Cond} (h : w ∈ tS_1_464) : w ∈ lw_tbl := tV_1_463 (List.mem_cons_of_mem _ h)
theorem tV_1_465 {w : Cond} (h : w ∈ tS_1_465) : w ∈ lw_tbl := tV_1_464 (List.mem_cons_of_mem _ h)
theorem tV_1_466 {w : Cond} (h : w ∈ tS_1_466) : w ∈ lw_tbl := tV_1_465 (List.mem_cons_of_mem _ h)
theorem tV_1_467 {w : Cond} (h : w ∈ tS_1_467) : w ∈ lw_tbl := tV_1_466 (List.mem_cons_of_mem _ h)
theorem tV_1_468 {w : Cond} (h : w ∈ tS_1_468) : w ∈ lw_tbl := tV_1_467 (List.mem_cons_of_mem _ h)
theorem tV_1_469 {w : Cond} (h : w ∈ tS_1_469) : w ∈ lw_tbl := tV_1_468 (List.mem_cons_of_mem _ h)
theorem tV_1_470 {w : Cond} (h : w ∈ tS_1_470) : w ∈ lw_tbl := tV_1_469 (List.mem_cons_of_mem _ h)
theorem tV_1_471 {w : Cond} (h : w ∈ tS_1_471) : w ∈ lw_tbl := tV_1_470 (List.mem_cons_of_mem _ h)
theorem tV_1_472 {w : Cond} (h : w ∈ tS_1_472) : w ∈ lw_tbl := tV_1_471 (List.mem_cons_of_mem _ h)
theorem tV_1_473 {w : Cond} (h : w ∈ tS_1_473) : w ∈ lw_tbl := tV_1_472 (List.mem_cons_of_mem _ h)
theorem tV_1_474 {w : Cond} (h : w ∈ tS_1_474) : w ∈ lw_tbl := tV_1_473 (List.mem_cons_of_mem _ h)
theorem tV_1_475 {w : Cond} (h : w ∈ tS_1_475) : w ∈ lw_tbl := tV_1_474 (List.mem_cons_of_mem _ h)
theorem tV_1_476 {w : Cond} (h : w ∈ tS_1_476) : w ∈ lw_tbl := tV_1_475 (List.mem_cons_of_mem _ h)
theorem tV_1_477 {w : Cond} (h : w ∈ tS_1_477) : w ∈ lw_tbl := tV_1_476 (List.mem_cons_of_mem _ h)
theorem tV_1_478 {w : Cond} (h : w ∈ tS_1_478) : w ∈ lw_tbl := tV_1_477 (List.mem_cons_of_mem _ h)
theorem tV_1_479 {w : Cond} (h : w ∈ tS_1_479) : w ∈ lw_tbl := tV_1_478 (List.mem_cons_of_mem _ h)
def tS_2_720 : List Cond := []
def tS_2_719 : List Cond := (Jvm.Cond.static ({ cls := "java/lang/StringUTF16", name := "putCharSB", desc := "([BII)V" } : Jvm.MethodName)) :: tS_2_720
def tS_2_718 : List Cond := (Jvm.Cond.methodLink "java/lang/AbstractStringBuilder" (197 : Nat) ({ cls := "java/lang/StringUTF16", name := "putCharSB", desc := "([BII)V" } : Jvm.MethodName)) :: tS_2_719
def tS_2_717 : List Cond := (Jvm.Cond.laysStatic "java/lang/StringUTF16" "LO_BYTE_SHIFT" "I") :: tS_2_718
def tS_2_716 : List Cond := (Jvm.Cond.fieldLink "java/lang/StringUTF16" (63 : Nat) "java/lang/StringUTF16" "LO_BYTE_SHIFT" "I") :: tS_2_717
def tS_2_715 : List Cond := (Jvm.Cond.laysStatic "java/lang/StringUTF16" "HI_BYTE_SHIFT" "I") :: tS_2_716
def tS_2_714 : List Cond := (Jvm.Cond.fieldLink "java/lang/StringUTF16" (59 : Nat) "java/lang/StringUTF16" "HI_BYTE_SHIFT" "I") :: tS_2_715
def tS_2_713 : List Cond := (Jvm.Cond.laysStatic "java/lang/StringUTF16" "$assertionsDisabled" "Z") :: tS_2_714
def tS_2_712 : List Cond := (Jvm.Cond.fieldLink "java/lang/StringUTF16" (44 : Nat) "java/lang/StringUTF16" "$assertionsDisabled" "Z") :: tS_2_713
def tS_2_711 : List Cond := (Jvm.Cond.code ({ cls := "java/lang/StringUTF16", name := "putChar", desc := "([BII)V" } : Jvm.MethodName) prog_18_method_4_code (3 : Nat) (Option.none : Option Jvm.ClassFile.FieldType)) :: tS_2_712
def tS_2_710 : List Cond := (Jvm.Cond.static ({ cls := "java/lang/StringUTF16", name := "putChar", desc := "([BII)V" } : Jvm.MethodName)) :: tS_2_711
def tS_2_709 : List Cond := (Jvm.Cond.methodLink "java/lang/StringUTF16" (111 : Nat) ({ cls := "java/lang/StringUTF16", name := "putChar", desc := "([BII)V" } : Jvm.MethodName)) :: tS_2_710
def tS_2_708 : List Cond := (Jvm.Cond.code ({ cls := "jdk/internal/util/Preconditions", name := "checkFromIndexSize", desc := "(IIILjava/util/function/BiFunction;)I" } : Jvm.MethodName) prog_23_method_13_code (4 : Nat) (Option.some Jvm.ClassFile.FieldType.int)) :: tS_2_709
def tS_2_707 : List Cond := (Jvm.Cond.static ({ cls := "jdk/internal/util/Preconditions", name := "checkFromIndexSize", desc := "(IIILjava/util/function/BiFunction;)I" } : Jvm.MethodName)) :: tS_2_708
def tS_2_706 : List Cond := (Jvm.Cond.methodLink "java/lang/String" (1065 : Nat) ({ cls := "jdk/internal/util/Preconditions", name := "checkFromIndexSize", desc := "(IIILjava/util/function/BiFunction;)I" } : Jvm.MethodName)) :: tS_2_707
def tS_2_705 : List Cond := (Jvm.Cond.laysStatic "jdk/internal/util/Preconditions" "SIOOBE_FORMATTER" "Ljava/util/function/BiFunction;") :: tS_2_706
def tS_2_704 : List Cond := (Jvm.Cond.fieldLink "java/lang/String" (1053 : Nat) "jdk/internal/util/Preconditions" "SIOOBE_FORMATTER" "Ljava/util/function/BiFunction;") :: tS_2_705
def tS_2_703 : List Cond := (Jvm.Cond.code ({ cls := "java/lang/String", name := "checkBoundsOffCount", desc := "(III)I" } : Jvm.MethodName) prog_15_method_157_code (3 : Nat) (Option.some Jvm.ClassFile.FieldType.int)) :: tS_2_704
def tS_2_702 : List Cond := (Jvm.Cond.static ({ cls := "java/lang/String", name := "checkBoundsOffCount", desc := "(III)I" } : Jvm.MethodName)) :: tS_2_703
def tS_2_701 : List Cond := (Jvm.Cond.methodLink "java/lang/StringUTF16" (419 : Nat) ({ cls := "java/lang/String", name := "checkBoundsOffCount", desc := "(III)I" } : Jvm.MethodName)) :: tS_2_702
def tS_2_700 : List Cond := (Jvm.Cond.code ({ cls := "java/lang/StringUTF16", name := "length", desc := "([B)I" } : Jvm.MethodName) prog_18_method_6_code (1 : Nat) (Option.some Jvm.ClassFile.FieldType.int)) :: tS_2_701
def tS_2_699 : List Cond := (Jvm.Cond.static ({ cls := "java/lang/StringUTF16", name := "length", desc := "([B)I" } : Jvm.MethodName)) :: tS_2_700
def tS_2_698 : List Cond := (Jvm.Cond.methodLink "java/lang/StringUTF16" (48 : Nat) ({ cls := "java/lang/StringUTF16", name := "length", desc := "([B)I" } : Jvm.MethodName)) :: tS_2_699
def tS_2_697 : List Cond := (Jvm.Cond.code ({ cls := "java/lang/StringUTF16", name := "checkBoundsOffCount", desc := "(II[B)V" } : Jvm.MethodName) prog_18_method_94_code (3 : Nat) (Option.none : Option Jvm.ClassFile.FieldType)) :: tS_2_698
def tS_2_696 : List Cond := (Jvm.Cond.static ({ cls := "java/lang/StringUTF16", name := "checkBoundsOffCount", desc := "(II[B)V" } : Jvm.MethodName)) :: tS_2_697
def tS_2_695 : List Cond := (Jvm.Cond.methodLink "java/lang/StringUTF16" (173 : Nat) ({ cls := "java/lang/StringUTF16", name := "checkBoundsOffCount", desc := "(II[B)V" } : Jvm.MethodName)) :: tS_2_696
def tS_2_694 : List Cond := (Jvm.Cond.code ({ cls := "java/lang/StringUTF16", name := "inflate", desc := "([BI[BII)V" } : Jvm.MethodName) prog_18_method_86_code (6 : Nat) (Option.none : Option Jvm.ClassFile.FieldType)) :: tS_2_695
def tS_2_693 : List Cond := (Jvm.Cond.static ({ cls := "java/lang/StringUTF16", name := "inflate", desc := "([BI[BII)V" } : Jvm.MethodName)) :: tS_2_694
def tS_2_692 : List Cond := (Jvm.Cond.methodLink "java/lang/StringLatin1" (240 : Nat) ({ cls := "java/lang/StringUTF16", name := "inflate", desc := "([BI[BII)V" } : Jvm.MethodName)) :: tS_2_693
def tS_2_691 : List Cond := (Jvm.Cond.code ({ cls := "java/lang/StringLatin1", name := "inflate", desc := "([BI[BII)V" } : Jvm.MethodName) prog_17_method_50_code (5 : Nat) (Option.none : Option Jvm.ClassFile.FieldType)) :: tS_2_692
def tS_2_690 : List Cond := (Jvm.Cond.static ({ cls := "java/lang/StringLatin1", name := "inflate", desc := "([BI[BII)V" } : Jvm.MethodName)) :: tS_2_691
def tS_2_689 : List Cond := (Jvm.Cond.methodLink "java/lang/AbstractStringBuilder" (125 : Nat) ({ cls := "java/lang/StringLatin1", name := "inflate", desc := "([BI[BII)V" } : Jvm.MethodName)) :: tS_2_690
def tS_2_688 : List Cond := (Jvm.Cond.code ({ cls := "java/lang/AbstractStringBuilder", name := "inflate", desc := "()V" } : Jvm.MethodName) prog_7_method_11_code (2 : Nat) (Option.none : Option Jvm.ClassFile.FieldType)) :: tS_2_689
def tS_2_687 : List Cond := (Jvm.Cond.instanceMethod ({ cls := "java/lang/AbstractStringBuilder", name := "inflate", desc := "()V" } : Jvm.MethodName)) :: tS_2_688
def tS_2_686 : List Cond := (Jvm.Cond.privateMethod ({ cls := "java/lang/AbstractStringBuilder", name := "inflate", desc := "()V" } : Jvm.MethodName)) :: tS_2_687
def tS_2_685 : List Cond := (Jvm.Cond.methodLink "java/lang/AbstractStringBuilder" (195 : Nat) ({ cls := "java/lang/AbstractStringBuilder", name := "inflate", desc := "()V" } : Jvm.MethodName)) :: tS_2_686
def tS_2_684 : List Cond := (Jvm.Cond.code ({ cls := "java/lang/StringLatin1", name := "canEncode", desc := "(C)Z" } : Jvm.MethodName) prog_17_method_3_code (1 : Nat) (Option.some Jvm.ClassFile.FieldType.boolean)) :: tS_2_685
def tS_2_683 : List Cond := (Jvm.Cond.static ({ cls := "java/lang/StringLatin1", name := "canEncode", desc := "(C)Z" } : Jvm.MethodName)) :: tS_2_684
def tS_2_682 : List Cond := (Jvm.Cond.methodLink "java/lang/AbstractStringBuilder" (191 : Nat) ({ cls := "java/lang/StringLatin1", name := "canEncode", desc := "(C)Z" } : Jvm.MethodName)) :: tS_2_683
def tS_2_681 : List Cond := (Jvm.Cond.code ({ cls := "java/lang/AbstractStringBuilder", name := "isLatin1", desc := "()Z" } : Jvm.MethodName) prog_7_method_68_code (1 : Nat) (Option.some Jvm.ClassFile.FieldType.boolean)) :: tS_2_682
def tS_2_680 : List Cond := (Jvm.Cond.selects "java/lang/StringBuilder" ({ cls := "java/lang/AbstractStringBuilder", name := "isLatin1", desc := "()Z" } : Jvm.MethodName) ({ cls := "java/lang/AbstractStringBuilder", name := "isLatin1", desc := "()Z" } : Jvm.MethodName)) :: tS_2_681
def tS_2_679 : List Cond := (Jvm.Cond.sameMethod "java/lang/AbstractStringBuilder" "java/lang/AbstractStringBuilder" "isLatin1" "()Z") :: tS_2_680
def tS_2_678 : List Cond := (Jvm.Cond.instanceMethod ({ cls := "java/lang/AbstractStringBuilder", name := "isLatin1", desc := "()Z" } : Jvm.MethodName)) :: tS_2_679
def tS_2_677 : List Cond := (Jvm.Cond.methodLink "java/lang/AbstractStringBuilder" (83 : Nat) ({ cls := "java/lang/AbstractStringBuilder", name := "isLatin1", desc := "()Z" } : Jvm.MethodName)) :: tS_2_678
def tS_2_676 : List Cond := (Jvm.Cond.methodLink "java/util/Arrays" (150 : Nat) ({ cls := "java/lang/System", name := "arraycopy", desc := "(Ljava/lang/Object;ILjava/lang/Object;II)V" } : Jvm.MethodName)) :: tS_2_677
def tS_2_675 : List Cond := (Jvm.Cond.methodLink "java/util/Arrays" (304 : Nat) ({ cls := "java/lang/Math", name := "min", desc := "(II)I" } : Jvm.MethodName)) :: tS_2_676
def tS_2_674 : List Cond := (Jvm.Cond.classLink "java/util/Arrays" (311 : Nat) "[B") :: tS_2_675
def tS_2_673 : List Cond := (Jvm.Cond.castable "[B" "java/lang/Cloneable") :: tS_2_674
def tS_2_672 : List Cond := (Jvm.Cond.selects "[B" ({ cls := "[B", name := "clone", desc := "()Ljava/lang/Object;" } : Jvm.MethodName) ({ cls := "java/lang/Object", name := "clone", desc := "()Ljava/lang/Object;" } : Jvm.MethodName)) :: tS_2_673
def tS_2_671 : List Cond := (Jvm.Cond.instanceMethod ({ cls := "java/lang/Object", name := "clone", desc := "()Ljava/lang/Object;" } : Jvm.MethodName)) :: tS_2_672
def tS_2_670 : List Cond := (Jvm.Cond.native ({ cls := "java/lang/Object", name := "clone", desc := "()Ljava/lang/Object;" } : Jvm.MethodName)) :: tS_2_671
def tS_2_669 : List Cond := (Jvm.Cond.sameMethod "[B" "java/lang/Object" "clone" "()Ljava/lang/Object;") :: tS_2_670
def tS_2_668 : List Cond := (Jvm.Cond.methodLink "java/util/Arrays" (310 : Nat) ({ cls := "[B", name := "clone", desc := "()Ljava/lang/Object;" } : Jvm.MethodName)) :: tS_2_669
def tS_2_667 : List Cond := (Jvm.Cond.code ({ cls := "java/util/Arrays", name := "copyOf", desc := "([BI)[B" } : Jvm.MethodName) prog_21_method_121_code (3 : Nat) (Option.some (Jvm.ClassFile.FieldType.array Jvm.ClassFile.FieldType.byte))) :: tS_2_668
def tS_2_666 : List Cond := (Jvm.Cond.static ({ cls := "java/util/Arrays", name := "copyOf", desc := "([BI)[B" } : Jvm.MethodName)) :: tS_2_667
def tS_2_665 : List Cond := (Jvm.Cond.methodLink "java/lang/AbstractStringBuilder" (108 : Nat) ({ cls := "java/util/Arrays", name := "copyOf", desc := "([BI)[B" } : Jvm.MethodName)) :: tS_2_666
def tS_2_664 : List Cond := (Jvm.Cond.constant "java/lang/AbstractStringBuilder" (39 : Nat) (2147483647 : Int32)) :: tS_2_665
def tS_2_663 : List Cond := (Jvm.Cond.code ({ cls := "jdk/internal/util/ArraysSupport", name := "hugeLength", desc := "(II)I" } : Jvm.MethodName) prog_22_method_28_code (3 : Nat) (Option.some Jvm.ClassFile.FieldType.int)) :: tS_2_664
def tS_2_662 : List Cond := (Jvm.Cond.static ({ cls := "jdk/internal/util/ArraysSupport", name := "hugeLength", desc := "(II)I" } : Jvm.MethodName)) :: tS_2_663
def tS_2_661 : List Cond := (Jvm.Cond.methodLink "jdk/internal/util/ArraysSupport" (201 : Nat) ({ cls := "jdk/internal/util/ArraysSupport", name := "hugeLength", desc := "(II)I" } : Jvm.MethodName)) :: tS_2_662
def tS_2_660 : List Cond := (Jvm.Cond.constant "jdk/internal/util/ArraysSupport" (200 : Nat) (2147483639 : Int32)) :: tS_2_661
def tS_2_659 : List Cond := (Jvm.Cond.methodLink "jdk/internal/util/ArraysSupport" (194 : Nat) ({ cls := "java/lang/Math", name := "max", desc := "(II)I" } : Jvm.MethodName)) :: tS_2_660
def tS_2_658 : List Cond := (Jvm.Cond.code ({ cls := "jdk/internal/util/ArraysSupport", name := "newLength", desc := "(III)I" } : Jvm.MethodName) prog_22_method_27_code (4 : Nat) (Option.some Jvm.ClassFile.FieldType.int)) :: tS_2_659
def tS_2_657 : List Cond := (Jvm.Cond.static ({ cls := "jdk/internal/util/ArraysSupport", name := "newLength", desc := "(III)I" } : Jvm.MethodName)) :: tS_2_658
def tS_2_656 : List Cond := (Jvm.Cond.methodLink "java/lang/AbstractStringBuilder" (114 : Nat) ({ cls := "jdk/internal/util/ArraysSupport", name := "newLength", desc := "(III)I" } : Jvm.MethodName)) :: tS_2_657
def tS_2_655 : List Cond := (Jvm.Cond.code ({ cls := "java/lang/AbstractStringBuilder", name := "newCapacity", desc := "(I)I" } : Jvm.MethodName) prog_7_method_10_code (6 : Nat) (Option.some Jvm.ClassFile.FieldType.int)) :: tS_2_656
def tS_2_654 : List Cond := (Jvm.Cond.instanceMethod ({ cls := "java/lang/AbstractStringBuilder", name := "newCapacity", desc := "(I)I" } : Jvm.MethodName)) :: tS_2_655
def tS_2_653 : List Cond := (Jvm.Cond.privateMethod ({ cls := "java/lang/AbstractStringBuilder", name := "newCapacity", desc := "(I)I" } : Jvm.MethodName)) :: tS_2_654
def tS_2_652 : List Cond := (Jvm.Cond.methodLink "java/lang/AbstractStringBuilder" (104 : Nat) ({ cls := "java/lang/AbstractStringBuilder", name := "newCapacity", desc := "(I)I" } : Jvm.MethodName)) :: tS_2_653
def tS_2_651 : List Cond := (Jvm.Cond.code ({ cls := "java/lang/AbstractStringBuilder", name := "ensureCapacityInternal", desc := "(I)V" } : Jvm.MethodName) prog_7_method_9_code (3 : Nat) (Option.none : Option Jvm.ClassFile.FieldType)) :: tS_2_652
def tS_2_650 : List Cond := (Jvm.Cond.instanceMethod ({ cls := "java/lang/AbstractStringBuilder", name := "ensureCapacityInternal", desc := "(I)V" } : Jvm.MethodName)) :: tS_2_651
def tS_2_649 : List Cond := (Jvm.Cond.privateMethod ({ cls := "java/lang/AbstractStringBuilder", name := "ensureCapacityInternal", desc := "(I)V" } : Jvm.MethodName)) :: tS_2_650
def tS_2_648 : List Cond := (Jvm.Cond.methodLink "java/lang/AbstractStringBuilder" (100 : Nat) ({ cls := "java/lang/AbstractStringBuilder", name := "ensureCapacityInternal", desc := "(I)V" } : Jvm.MethodName)) :: tS_2_649
def tS_2_647 : List Cond := (Jvm.Cond.code ({ cls := "java/lang/AbstractStringBuilder", name := "append", desc := "(C)Ljava/lang/AbstractStringBuilder;" } : Jvm.MethodName) prog_7_method_31_code (2 : Nat) (Option.some (Jvm.ClassFile.FieldType.object "java/lang/AbstractStringBuilder"))) :: tS_2_648
def tS_2_646 : List Cond := (Jvm.Cond.instanceMethod ({ cls := "java/lang/AbstractStringBuilder", name := "append", desc := "(C)Ljava/lang/AbstractStringBuilder;" } : Jvm.MethodName)) :: tS_2_647
def tS_2_645 : List Cond := (Jvm.Cond.methodLink "java/lang/StringBuilder" (50 : Nat) ({ cls := "java/lang/AbstractStringBuilder", name := "append", desc := "(C)Ljava/lang/AbstractStringBuilder;" } : Jvm.MethodName)) :: tS_2_646
def tS_2_644 : List Cond := (Jvm.Cond.code ({ cls := "java/lang/StringBuilder", name := "append", desc := "(C)Ljava/lang/StringBuilder;" } : Jvm.MethodName) prog_16_method_14_code (2 : Nat) (Option.some (Jvm.ClassFile.FieldType.object "java/lang/StringBuilder"))) :: tS_2_645
def tS_2_643 : List Cond := (Jvm.Cond.selects "java/lang/StringBuilder" ({ cls := "java/lang/StringBuilder", name := "append", desc := "(C)Ljava/lang/StringBuilder;" } : Jvm.MethodName) ({ cls := "java/lang/StringBuilder", name := "append", desc := "(C)Ljava/lang/StringBuilder;" } : Jvm.MethodName)) :: tS_2_644
def tS_2_642 : List Cond := (Jvm.Cond.instanceMethod ({ cls := "java/lang/StringBuilder", name := "append", desc := "(C)Ljava/lang/StringBuilder;" } : Jvm.MethodName)) :: tS_2_643
def tS_2_641 : List Cond := (Jvm.Cond.methodLink "Runweaver" (159 : Nat) ({ cls := "java/lang/StringBuilder", name := "append", desc := "(C)Ljava/lang/StringBuilder;" } : Jvm.MethodName)) :: tS_2_642
def tS_2_640 : List Cond := (Jvm.Cond.superclass "java/lang/StringBuilder" "java/lang/AbstractStringBuilder") :: tS_2_641
def tS_2_639 : List Cond := (Jvm.Cond.soleField "java/lang/AbstractStringBuilder" "count") :: tS_2_640
def tS_2_638 : List Cond := (Jvm.Cond.lays "java/lang/StringBuilder" "java/lang/AbstractStringBuilder" "count" "I") :: tS_2_639
def tS_2_637 : List Cond := (Jvm.Cond.soleField "java/lang/AbstractStringBuilder" "maybeLatin1") :: tS_2_638
def tS_2_636 : List Cond := (Jvm.Cond.lays "java/lang/StringBuilder" "java/lang/AbstractStringBuilder" "maybeLatin1" "Z") :: tS_2_637
def tS_2_635 : List Cond := (Jvm.Cond.soleField "java/lang/AbstractStringBuilder" "coder") :: tS_2_636
def tS_2_634 : List Cond := (Jvm.Cond.lays "java/lang/StringBuilder" "java/lang/AbstractStringBuilder" "coder" "B") :: tS_2_635
def tS_2_633 : List Cond := (Jvm.Cond.soleField "java/lang/AbstractStringBuilder" "value") :: tS_2_634
def tS_2_632 : List Cond := (Jvm.Cond.lays "java/lang/StringBuilder" "java/lang/AbstractStringBuilder" "value" "[B") :: tS_2_633
def tS_2_631 : List Cond := (Jvm.Cond.fieldLink "java/lang/AbstractStringBuilder" (79 : Nat) "java/lang/AbstractStringBuilder" "count" "I") :: tS_2_632
def tS_2_630 : List Cond := (Jvm.Cond.fieldLink "java/lang/String" (1048 : Nat) "java/lang/AbstractStringBuilder" "maybeLatin1" "Z") :: tS_2_631
def tS_2_629 : List Cond := (Jvm.Cond.fieldLink "java/lang/AbstractStringBuilder" (22 : Nat) "java/lang/AbstractStringBuilder" "coder" "B") :: tS_2_630
def tS_2_628 : List Cond := (Jvm.Cond.fieldLink "java/lang/AbstractStringBuilder" (15 : Nat) "java/lang/AbstractStringBuilder" "value" "[B") :: tS_2_629
def tS_2_627 : List Cond := (Jvm.Cond.constant "java/lang/StringUTF16" (20 : Nat) (1073741823 : Int32)) :: tS_2_628
def tS_2_626 : List Cond := (Jvm.Cond.code ({ cls := "java/lang/StringUTF16", name := "newBytesLength", desc := "(I)I" } : Jvm.MethodName) prog_18_method_3_code (1 : Nat) (Option.some Jvm.ClassFile.FieldType.int)) :: tS_2_627
def tS_2_625 : List Cond := (Jvm.Cond.static ({ cls := "java/lang/StringUTF16", name := "newBytesLength", desc := "(I)I" } : Jvm.MethodName)) :: tS_2_626
def tS_2_624 : List Cond := (Jvm.Cond.methodLink "java/lang/StringUTF16" (11 : Nat) ({ cls := "java/lang/StringUTF16", name := "newBytesLength", desc := "(I)I" } : Jvm.MethodName)) :: tS_2_625
def tS_2_623 : List Cond := (Jvm.Cond.code ({ cls := "java/lang/StringUTF16", name := "newBytesFor", desc := "(I)[B" } : Jvm.MethodName) prog_18_method_2_code (1 : Nat) (Option.some (Jvm.ClassFile.FieldType.array Jvm.ClassFile.FieldType.byte))) :: tS_2_624
def tS_2_622 : List Cond := (Jvm.Cond.static ({ cls := "java/lang/StringUTF16", name := "newBytesFor", desc := "(I)[B" } : Jvm.MethodName)) :: tS_2_623
def tS_2_621 : List Cond := (Jvm.Cond.methodLink "java/lang/AbstractStringBuilder" (26 : Nat) ({ cls := "java/lang/StringUTF16", name := "newBytesFor", desc := "(I)[B" } : Jvm.MethodName)) :: tS_2_622
def tS_2_620 : List Cond := (Jvm.Cond.laysStatic "java/lang/String" "COMPACT_STRINGS" "Z") :: tS_2_621
def tS_2_619 : List Cond := (Jvm.Cond.fieldLink "java/lang/AbstractStringBuilder" (18 : Nat) "java/lang/String" "COMPACT_STRINGS" "Z") :: tS_2_620
def tS_2_618 : List Cond := (Jvm.Cond.methodLink "java/lang/AbstractStringBuilder" (3 : Nat) ({ cls := "java/lang/Object", name := "<init>", desc := "()V" } : Jvm.MethodName)) :: tS_2_619
def tS_2_617 : List Cond := (Jvm.Cond.code ({ cls := "java/lang/AbstractStringBuilder", name := "<init>", desc := "(I)V" } : Jvm.MethodName) prog_7_method_2_code (2 : Nat) (Option.none : Option Jvm.ClassFile.FieldType)) :: tS_2_618
def tS_2_616 : List Cond := (Jvm.Cond.instanceMethod ({ cls := "java/lang/AbstractStringBuilder", name := "<init>", desc := "(I)V" } : Jvm.MethodName)) :: tS_2_617
def tS_2_615 : List Cond := (Jvm.Cond.methodLink "java/lang/StringBuilder" (1 : Nat) ({ cls := "java/lang/AbstractStringBuilder", name := "<init>", desc := "(I)V" } : Jvm.MethodName)) :: tS_2_616
def tS_2_614 : List Cond := (Jvm.Cond.code ({ cls := "java/lang/StringBuilder", name := "<init>", desc := "()V" } : Jvm.MethodName) prog_16_method_1_code (1 : Nat) (Option.none : Option Jvm.ClassFile.FieldType)) :: tS_2_615
def tS_2_613 : List Cond := (Jvm.Cond.instanceMethod ({ cls := "java/lang/StringBuilder", name := "<init>", desc := "()V" } : Jvm.MethodName)) :: tS_2_614
def tS_2_612 : List Cond := (Jvm.Cond.methodLink "Runweaver" (158 : Nat) ({ cls := "java/lang/StringBuilder", name := "<init>", desc := "()V" } : Jvm.MethodName)) :: tS_2_613
def tS_2_611 : List Cond := (Jvm.Cond.instantiable "java/lang/StringBuilder" (4 : Nat)) :: tS_2_612
def tS_2_610 : List Cond := (Jvm.Cond.classLink "Runweaver" (156 : Nat) "java/lang/StringBuilder") :: tS_2_611
def tS_2_609 : List Cond := (Jvm.Cond.code ({ cls := "Runweaver", name := "text", desc := "(III)Ljava/lang/String;" } : Jvm.MethodName) prog_1_method_25_code (8 : Nat) (Option.some (Jvm.ClassFile.FieldType.object "java/lang/String"))) :: tS_2_610
def tS_2_608 : List Cond := (Jvm.Cond.selects "Runweaver" ({ cls := "Runweaver", name := "text", desc := "(III)Ljava/lang/String;" } : Jvm.MethodName) ({ cls := "Runweaver", name := "text", desc := "(III)Ljava/lang/String;" } : Jvm.MethodName)) :: tS_2_609
def tS_2_607 : List Cond := (Jvm.Cond.instanceMethod ({ cls := "Runweaver", name := "text", desc := "(III)Ljava/lang/String;" } : Jvm.MethodName)) :: tS_2_608
def tS_2_606 : List Cond := (Jvm.Cond.methodLink "RunweaverLaw" (92 : Nat) ({ cls := "Runweaver", name := "text", desc := "(III)Ljava/lang/String;" } : Jvm.MethodName)) :: tS_2_607
def tS_2_605 : List Cond := (Jvm.Cond.codeWith ({ cls := "RunweaverLaw", name := "text", desc := "(LRunweaver;IIILRunweaverLaw$Out;)I" } : Jvm.MethodName) method_25_code (6 : Nat) (Option.some Jvm.ClassFile.FieldType.int) [((0 : Nat), (12 : Nat), (15 : Nat), (19 : Nat)), ((0 : Nat), (12 : Nat), (19 : Nat), (21 : Nat))]) :: tS_2_606
def tS_2_604 : List Cond := (Jvm.Cond.static ({ cls := "RunweaverLaw", name := "text", desc := "(LRunweaver;IIILRunweaverLaw$Out;)I" } : Jvm.MethodName)) :: tS_2_605
def tS_2_603 : List Cond := (Jvm.Cond.methodLink "RunweaverLaw" (241 : Nat) ({ cls := "RunweaverLaw", name := "text", desc := "(LRunweaver;IIILRunweaverLaw$Out;)I" } : Jvm.MethodName)) :: tS_2_604
def tS_2_602 : List Cond := (Jvm.Cond.code ({ cls := "Runweaver$Row", name := "endOfRun", desc := "(I)I" } : Jvm.MethodName) prog_3_method_20_code (3 : Nat) (Option.some Jvm.ClassFile.FieldType.int)) :: tS_2_603
def tS_2_601 : List Cond := (Jvm.Cond.selects "Runweaver$Row" ({ cls := "Runweaver$Row", name := "endOfRun", desc := "(I)I" } : Jvm.MethodName) ({ cls := "Runweaver$Row", name := "endOfRun", desc := "(I)I" } : Jvm.MethodName)) :: tS_2_602
def tS_2_600 : List Cond := (Jvm.Cond.instanceMethod ({ cls := "Runweaver$Row", name := "endOfRun", desc := "(I)I" } : Jvm.MethodName)) :: tS_2_601
def tS_2_599 : List Cond := (Jvm.Cond.methodLink "Runweaver" (147 : Nat) ({ cls := "Runweaver$Row", name := "endOfRun", desc := "(I)I" } : Jvm.MethodName)) :: tS_2_600
def tS_2_598 : List Cond := (Jvm.Cond.code ({ cls := "Runweaver", name := "runAt", desc := "(II)I" } : Jvm.MethodName) prog_1_method_24_code (4 : Nat) (Option.some Jvm.ClassFile.FieldType.int)) :: tS_2_599
def tS_2_597 : List Cond := (Jvm.Cond.selects "Runweaver" ({ cls := "Runweaver", name := "runAt", desc := "(II)I" } : Jvm.MethodName) ({ cls := "Runweaver", name := "runAt", desc := "(II)I" } : Jvm.MethodName)) :: tS_2_598
def tS_2_596 : List Cond := (Jvm.Cond.instanceMethod ({ cls := "Runweaver", name := "runAt", desc := "(II)I" } : Jvm.MethodName)) :: tS_2_597
def tS_2_595 : List Cond := (Jvm.Cond.methodLink "RunweaverLaw" (89 : Nat) ({ cls := "Runweaver", name := "runAt", desc := "(II)I" } : Jvm.MethodName)) :: tS_2_596
def tS_2_594 : List Cond := (Jvm.Cond.codeWith ({ cls := "RunweaverLaw", name := "runAt", desc := "(LRunweaver;IILRunweaverLaw$Out;)I" } : Jvm.MethodName) method_24_code (5 : Nat) (Option.some Jvm.ClassFile.FieldType.int) [((0 : Nat), (11 : Nat), (14 : Nat), (19 : Nat))]) :: tS_2_595
def tS_2_593 : List Cond := (Jvm.Cond.static ({ cls := "RunweaverLaw", name := "runAt", desc := "(LRunweaver;IILRunweaverLaw$Out;)I" } : Jvm.MethodName)) :: tS_2_594
def tS_2_592 : List Cond := (Jvm.Cond.methodLink "RunweaverLaw" (238 : Nat) ({ cls := "RunweaverLaw", name := "runAt", desc := "(LRunweaver;IILRunweaverLaw$Out;)I" } : Jvm.MethodName)) :: tS_2_593
def tS_2_591 : List Cond := (Jvm.Cond.code ({ cls := "Runweaver", name := "after", desc := "(II)I" } : Jvm.MethodName) prog_1_method_23_code (4 : Nat) (Option.some Jvm.ClassFile.FieldType.int)) :: tS_2_592
def tS_2_590 : List Cond := (Jvm.Cond.selects "Runweaver" ({ cls := "Runweaver", name := "after", desc := "(II)I" } : Jvm.MethodName) ({ cls := "Runweaver", name := "after", desc := "(II)I" } : Jvm.MethodName)) :: tS_2_591
def tS_2_589 : List Cond := (Jvm.Cond.instanceMethod ({ cls := "Runweaver", name := "after", desc := "(II)I" } : Jvm.MethodName)) :: tS_2_590
def tS_2_588 : List Cond := (Jvm.Cond.methodLink "RunweaverLaw" (86 : Nat) ({ cls := "Runweaver", name := "after", desc := "(II)I" } : Jvm.MethodName)) :: tS_2_589
def tS_2_587 : List Cond := (Jvm.Cond.codeWith ({ cls := "RunweaverLaw", name := "after", desc := "(LRunweaver;IILRunweaverLaw$Out;)I" } : Jvm.MethodName) method_23_code (5 : Nat) (Option.some Jvm.ClassFile.FieldType.int) [((0 : Nat), (11 : Nat), (14 : Nat), (19 : Nat))]) :: tS_2_588
def tS_2_586 : List Cond := (Jvm.Cond.static ({ cls := "RunweaverLaw", name := "after", desc := "(LRunweaver;IILRunweaverLaw$Out;)I" } : Jvm.MethodName)) :: tS_2_587
def tS_2_585 : List Cond := (Jvm.Cond.methodLink "RunweaverLaw" (235 : Nat) ({ cls := "RunweaverLaw", name := "after", desc := "(LRunweaver;IILRunweaverLaw$Out;)I" } : Jvm.MethodName)) :: tS_2_586
def tS_2_584 : List Cond := (Jvm.Cond.code ({ cls := "Runweaver$Row", name := "wrongPairsWith", desc := "(I)I" } : Jvm.MethodName) prog_3_method_17_code (5 : Nat) (Option.some Jvm.ClassFile.FieldType.int)) :: tS_2_585
def tS_2_583 : List Cond := (Jvm.Cond.selects "Runweaver$Row" ({ cls := "Runweaver$Row", name := "wrongPairsWith", desc := "(I)I" } : Jvm.MethodName) ({ cls := "Runweaver$Row", name := "wrongPairsWith", desc := "(I)I" } : Jvm.MethodName)) :: tS_2_584
def tS_2_582 : List Cond := (Jvm.Cond.instanceMethod ({ cls := "Runweaver$Row", name := "wrongPairsWith", desc := "(I)I" } : Jvm.MethodName)) :: tS_2_583
def tS_2_581 : List Cond := (Jvm.Cond.methodLink "Runweaver" (144 : Nat) ({ cls := "Runweaver$Row", name := "wrongPairsWith", desc := "(I)I" } : Jvm.MethodName)) :: tS_2_582
def tS_2_580 : List Cond := (Jvm.Cond.code ({ cls := "Runweaver", name := "wrongAt", desc := "(II)I" } : Jvm.MethodName) prog_1_method_22_code (4 : Nat) (Option.some Jvm.ClassFile.FieldType.int)) :: tS_2_581
def tS_2_579 : List Cond := (Jvm.Cond.selects "Runweaver" ({ cls := "Runweaver", name := "wrongAt", desc := "(II)I" } : Jvm.MethodName) ({ cls := "Runweaver", name := "wrongAt", desc := "(II)I" } : Jvm.MethodName)) :: tS_2_580
def tS_2_578 : List Cond := (Jvm.Cond.instanceMethod ({ cls := "Runweaver", name := "wrongAt", desc := "(II)I" } : Jvm.MethodName)) :: tS_2_579
def tS_2_577 : List Cond := (Jvm.Cond.methodLink "RunweaverLaw" (83 : Nat) ({ cls := "Runweaver", name := "wrongAt", desc := "(II)I" } : Jvm.MethodName)) :: tS_2_578
def tS_2_576 : List Cond := (Jvm.Cond.codeWith ({ cls := "RunweaverLaw", name := "wrongAt", desc := "(LRunweaver;IILRunweaverLaw$Out;)I" } : Jvm.MethodName) method_22_code (5 : Nat) (Option.some Jvm.ClassFile.FieldType.int) [((0 : Nat), (11 : Nat), (14 : Nat), (19 : Nat))]) :: tS_2_577
def tS_2_575 : List Cond := (Jvm.Cond.static ({ cls := "RunweaverLaw", name := "wrongAt", desc := "(LRunweaver;IILRunweaverLaw$Out;)I" } : Jvm.MethodName)) :: tS_2_576
def tS_2_574 : List Cond := (Jvm.Cond.methodLink "RunweaverLaw" (232 : Nat) ({ cls := "RunweaverLaw", name := "wrongAt", desc := "(LRunweaver;IILRunweaverLaw$Out;)I" } : Jvm.MethodName)) :: tS_2_575
def tS_2_573 : List Cond := (Jvm.Cond.code ({ cls := "Runweaver", name := "wouldStamp", desc := "(II)I" } : Jvm.MethodName) prog_1_method_21_code (4 : Nat) (Option.some Jvm.ClassFile.FieldType.int)) :: tS_2_574
def tS_2_572 : List Cond := (Jvm.Cond.selects "Runweaver" ({ cls := "Runweaver", name := "wouldStamp", desc := "(II)I" } : Jvm.MethodName) ({ cls := "Runweaver", name := "wouldStamp", desc := "(II)I" } : Jvm.MethodName)) :: tS_2_573
def tS_2_571 : List Cond := (Jvm.Cond.instanceMethod ({ cls := "Runweaver", name := "wouldStamp", desc := "(II)I" } : Jvm.MethodName)) :: tS_2_572
def tS_2_570 : List Cond := (Jvm.Cond.methodLink "RunweaverLaw" (80 : Nat) ({ cls := "Runweaver", name := "wouldStamp", desc := "(II)I" } : Jvm.MethodName)) :: tS_2_571
def tS_2_569 : List Cond := (Jvm.Cond.codeWith ({ cls := "RunweaverLaw", name := "wouldStamp", desc := "(LRunweaver;IILRunweaverLaw$Out;)I" } : Jvm.MethodName) method_21_code (5 : Nat) (Option.some Jvm.ClassFile.FieldType.int) [((0 : Nat), (11 : Nat), (14 : Nat), (19 : Nat))]) :: tS_2_570
def tS_2_568 : List Cond := (Jvm.Cond.static ({ cls := "RunweaverLaw", name := "wouldStamp", desc := "(LRunweaver;IILRunweaverLaw$Out;)I" } : Jvm.MethodName)) :: tS_2_569
def tS_2_567 : List Cond := (Jvm.Cond.methodLink "RunweaverLaw" (229 : Nat) ({ cls := "RunweaverLaw", name := "wouldStamp", desc := "(LRunweaver;IILRunweaverLaw$Out;)I" } : Jvm.MethodName)) :: tS_2_568
def tS_2_566 : List Cond := (Jvm.Cond.code ({ cls := "Runweaver", name := "would", desc := "(II)I" } : Jvm.MethodName) prog_1_method_20_code (4 : Nat) (Option.some Jvm.ClassFile.FieldType.int)) :: tS_2_567
def tS_2_565 : List Cond := (Jvm.Cond.selects "Runweaver" ({ cls := "Runweaver", name := "would", desc := "(II)I" } : Jvm.MethodName) ({ cls := "Runweaver", name := "would", desc := "(II)I" } : Jvm.MethodName)) :: tS_2_566
def tS_2_564 : List Cond := (Jvm.Cond.instanceMethod ({ cls := "Runweaver", name := "would", desc := "(II)I" } : Jvm.MethodName)) :: tS_2_565
def tS_2_563 : List Cond := (Jvm.Cond.methodLink "RunweaverLaw" (77 : Nat) ({ cls := "Runweaver", name := "would", desc := "(II)I" } : Jvm.MethodName)) :: tS_2_564
def tS_2_562 : List Cond := (Jvm.Cond.codeWith ({ cls := "RunweaverLaw", name := "would", desc := "(LRunweaver;IILRunweaverLaw$Out;)I" } : Jvm.MethodName) method_20_code (5 : Nat) (Option.some Jvm.ClassFile.FieldType.int) [((0 : Nat), (11 : Nat), (14 : Nat), (19 : Nat))]) :: tS_2_563
def tS_2_561 : List Cond := (Jvm.Cond.static ({ cls := "RunweaverLaw", name := "would", desc := "(LRunweaver;IILRunweaverLaw$Out;)I" } : Jvm.MethodName)) :: tS_2_562
def tS_2_560 : List Cond := (Jvm.Cond.methodLink "RunweaverLaw" (226 : Nat) ({ cls := "RunweaverLaw", name := "would", desc := "(LRunweaver;IILRunweaverLaw$Out;)I" } : Jvm.MethodName)) :: tS_2_561
def tS_2_559 : List Cond := (Jvm.Cond.methodLink "Runweaver" (141 : Nat) ({ cls := "Runweaver$Row", name := "rankAt", desc := "(I)I" } : Jvm.MethodName)) :: tS_2_560
def tS_2_558 : List Cond := (Jvm.Cond.code ({ cls := "Runweaver", name := "rank", desc := "(II)I" } : Jvm.MethodName) prog_1_method_19_code (4 : Nat) (Option.some Jvm.ClassFile.FieldType.int)) :: tS_2_559
def tS_2_557 : List Cond := (Jvm.Cond.selects "Runweaver" ({ cls := "Runweaver", name := "rank", desc := "(II)I" } : Jvm.MethodName) ({ cls := "Runweaver", name := "rank", desc := "(II)I" } : Jvm.MethodName)) :: tS_2_558
def tS_2_556 : List Cond := (Jvm.Cond.instanceMethod ({ cls := "Runweaver", name := "rank", desc := "(II)I" } : Jvm.MethodName)) :: tS_2_557
def tS_2_555 : List Cond := (Jvm.Cond.methodLink "RunweaverLaw" (74 : Nat) ({ cls := "Runweaver", name := "rank", desc := "(II)I" } : Jvm.MethodName)) :: tS_2_556
def tS_2_554 : List Cond := (Jvm.Cond.codeWith ({ cls := "RunweaverLaw", name := "rank", desc := "(LRunweaver;IILRunweaverLaw$Out;)I" } : Jvm.MethodName) method_19_code (5 : Nat) (Option.some Jvm.ClassFile.FieldType.int) [((0 : Nat), (11 : Nat), (14 : Nat), (19 : Nat))]) :: tS_2_555
def tS_2_553 : List Cond := (Jvm.Cond.static ({ cls := "RunweaverLaw", name := "rank", desc := "(LRunweaver;IILRunweaverLaw$Out;)I" } : Jvm.MethodName)) :: tS_2_554
def tS_2_552 : List Cond := (Jvm.Cond.methodLink "RunweaverLaw" (223 : Nat) ({ cls := "RunweaverLaw", name := "rank", desc := "(LRunweaver;IILRunweaverLaw$Out;)I" } : Jvm.MethodName)) :: tS_2_553
def tS_2_551 : List Cond := (Jvm.Cond.code ({ cls := "Runweaver", name := "stamp", desc := "(II)I" } : Jvm.MethodName) prog_1_method_18_code (4 : Nat) (Option.some Jvm.ClassFile.FieldType.int)) :: tS_2_552
def tS_2_550 : List Cond := (Jvm.Cond.selects "Runweaver" ({ cls := "Runweaver", name := "stamp", desc := "(II)I" } : Jvm.MethodName) ({ cls := "Runweaver", name := "stamp", desc := "(II)I" } : Jvm.MethodName)) :: tS_2_551
def tS_2_549 : List Cond := (Jvm.Cond.instanceMethod ({ cls := "Runweaver", name := "stamp", desc := "(II)I" } : Jvm.MethodName)) :: tS_2_550
def tS_2_548 : List Cond := (Jvm.Cond.methodLink "RunweaverLaw" (71 : Nat) ({ cls := "Runweaver", name := "stamp", desc := "(II)I" } : Jvm.MethodName)) :: tS_2_549
def tS_2_547 : List Cond := (Jvm.Cond.codeWith ({ cls := "RunweaverLaw", name := "stamp", desc := "(LRunweaver;IILRunweaverLaw$Out;)I" } : Jvm.MethodName) method_18_code (5 : Nat) (Option.some Jvm.ClassFile.FieldType.int) [((0 : Nat), (11 : Nat), (14 : Nat), (19 : Nat))]) :: tS_2_548
def tS_2_546 : List Cond := (Jvm.Cond.static ({ cls := "RunweaverLaw", name := "stamp", desc := "(LRunweaver;IILRunweaverLaw$Out;)I" } : Jvm.MethodName)) :: tS_2_547
def tS_2_545 : List Cond := (Jvm.Cond.methodLink "RunweaverLaw" (220 : Nat) ({ cls := "RunweaverLaw", name := "stamp", desc := "(LRunweaver;IILRunweaverLaw$Out;)I" } : Jvm.MethodName)) :: tS_2_546
def tS_2_544 : List Cond := (Jvm.Cond.code ({ cls := "Runweaver", name := "key", desc := "(II)I" } : Jvm.MethodName) prog_1_method_17_code (4 : Nat) (Option.some Jvm.ClassFile.FieldType.int)) :: tS_2_545
def tS_2_543 : List Cond := (Jvm.Cond.selects "Runweaver" ({ cls := "Runweaver", name := "key", desc := "(II)I" } : Jvm.MethodName) ({ cls := "Runweaver", name := "key", desc := "(II)I" } : Jvm.MethodName)) :: tS_2_544
def tS_2_542 : List Cond := (Jvm.Cond.instanceMethod ({ cls := "Runweaver", name := "key", desc := "(II)I" } : Jvm.MethodName)) :: tS_2_543
def tS_2_541 : List Cond := (Jvm.Cond.methodLink "RunweaverLaw" (68 : Nat) ({ cls := "Runweaver", name := "key", desc := "(II)I" } : Jvm.MethodName)) :: tS_2_542
def tS_2_540 : List Cond := (Jvm.Cond.codeWith ({ cls := "RunweaverLaw", name := "key", desc := "(LRunweaver;IILRunweaverLaw$Out;)I" } : Jvm.MethodName) method_17_code (5 : Nat) (Option.some Jvm.ClassFile.FieldType.int) [((0 : Nat), (11 : Nat), (14 : Nat), (19 : Nat))]) :: tS_2_541
def tS_2_539 : List Cond := (Jvm.Cond.static ({ cls := "RunweaverLaw", name := "key", desc := "(LRunweaver;IILRunweaverLaw$Out;)I" } : Jvm.MethodName)) :: tS_2_540
def tS_2_538 : List Cond := (Jvm.Cond.methodLink "RunweaverLaw" (217 : Nat) ({ cls := "RunweaverLaw", name := "key", desc := "(LRunweaver;IILRunweaverLaw$Out;)I" } : Jvm.MethodName)) :: tS_2_539
def tS_2_537 : List Cond := (Jvm.Cond.methodLink "RunweaverLaw" (65 : Nat) ({ cls := "Runweaver", name := "many", desc := "(I)I" } : Jvm.MethodName)) :: tS_2_538
def tS_2_536 : List Cond := (Jvm.Cond.codeWith ({ cls := "RunweaverLaw", name := "many", desc := "(LRunweaver;ILRunweaverLaw$Out;)I" } : Jvm.MethodName) method_16_code (4 : Nat) (Option.some Jvm.ClassFile.FieldType.int) [((0 : Nat), (10 : Nat), (13 : Nat), (19 : Nat))]) :: tS_2_537
def tS_2_535 : List Cond := (Jvm.Cond.static ({ cls := "RunweaverLaw", name := "many", desc := "(LRunweaver;ILRunweaverLaw$Out;)I" } : Jvm.MethodName)) :: tS_2_536
def tS_2_534 : List Cond := (Jvm.Cond.methodLink "RunweaverLaw" (214 : Nat) ({ cls := "RunweaverLaw", name := "many", desc := "(LRunweaver;ILRunweaverLaw$Out;)I" } : Jvm.MethodName)) :: tS_2_535
def tS_2_533 : List Cond := (Jvm.Cond.code ({ cls := "Runweaver", name := "merge", desc := "(II)I" } : Jvm.MethodName) prog_1_method_15_code (5 : Nat) (Option.some Jvm.ClassFile.FieldType.int)) :: tS_2_534
def tS_2_532 : List Cond := (Jvm.Cond.selects "Runweaver" ({ cls := "Runweaver", name := "merge", desc := "(II)I" } : Jvm.MethodName) ({ cls := "Runweaver", name := "merge", desc := "(II)I" } : Jvm.MethodName)) :: tS_2_533
def tS_2_531 : List Cond := (Jvm.Cond.instanceMethod ({ cls := "Runweaver", name := "merge", desc := "(II)I" } : Jvm.MethodName)) :: tS_2_532
def tS_2_530 : List Cond := (Jvm.Cond.methodLink "RunweaverLaw" (62 : Nat) ({ cls := "Runweaver", name := "merge", desc := "(II)I" } : Jvm.MethodName)) :: tS_2_531
def tS_2_529 : List Cond := (Jvm.Cond.codeWith ({ cls := "RunweaverLaw", name := "merge", desc := "(LRunweaver;IILRunweaverLaw$Out;)I" } : Jvm.MethodName) method_15_code (5 : Nat) (Option.some Jvm.ClassFile.FieldType.int) [((0 : Nat), (11 : Nat), (14 : Nat), (19 : Nat))]) :: tS_2_530
def tS_2_528 : List Cond := (Jvm.Cond.static ({ cls := "RunweaverLaw", name := "merge", desc := "(LRunweaver;IILRunweaverLaw$Out;)I" } : Jvm.MethodName)) :: tS_2_529
def tS_2_527 : List Cond := (Jvm.Cond.methodLink "RunweaverLaw" (211 : Nat) ({ cls := "RunweaverLaw", name := "merge", desc := "(LRunweaver;IILRunweaverLaw$Out;)I" } : Jvm.MethodName)) :: tS_2_528
def tS_2_526 : List Cond := (Jvm.Cond.code ({ cls := "Runweaver", name := "join", desc := "(II)I" } : Jvm.MethodName) prog_1_method_14_code (5 : Nat) (Option.some Jvm.ClassFile.FieldType.int)) :: tS_2_527
def tS_2_525 : List Cond := (Jvm.Cond.selects "Runweaver" ({ cls := "Runweaver", name := "join", desc := "(II)I" } : Jvm.MethodName) ({ cls := "Runweaver", name := "join", desc := "(II)I" } : Jvm.MethodName)) :: tS_2_526
def tS_2_524 : List Cond := (Jvm.Cond.instanceMethod ({ cls := "Runweaver", name := "join", desc := "(II)I" } : Jvm.MethodName)) :: tS_2_525
def tS_2_523 : List Cond := (Jvm.Cond.methodLink "RunweaverLaw" (59 : Nat) ({ cls := "Runweaver", name := "join", desc := "(II)I" } : Jvm.MethodName)) :: tS_2_524
def tS_2_522 : List Cond := (Jvm.Cond.codeWith ({ cls := "RunweaverLaw", name := "join", desc := "(LRunweaver;IILRunweaverLaw$Out;)I" } : Jvm.MethodName) method_14_code (5 : Nat) (Option.some Jvm.ClassFile.FieldType.int) [((0 : Nat), (11 : Nat), (14 : Nat), (19 : Nat))]) :: tS_2_523
def tS_2_521 : List Cond := (Jvm.Cond.static ({ cls := "RunweaverLaw", name := "join", desc := "(LRunweaver;IILRunweaverLaw$Out;)I" } : Jvm.MethodName)) :: tS_2_522
def tS_2_520 : List Cond := (Jvm.Cond.methodLink "RunweaverLaw" (208 : Nat) ({ cls := "RunweaverLaw", name := "join", desc := "(LRunweaver;IILRunweaverLaw$Out;)I" } : Jvm.MethodName)) :: tS_2_521
def tS_2_519 : List Cond := (Jvm.Cond.code ({ cls := "Runweaver", name := "stampOfComer", desc := "(LRunweaver$Row;IZ)I" } : Jvm.MethodName) prog_1_method_62_code (4 : Nat) (Option.some Jvm.ClassFile.FieldType.int)) :: tS_2_520
def tS_2_518 : List Cond := (Jvm.Cond.instanceMethod ({ cls := "Runweaver", name := "stampOfComer", desc := "(LRunweaver$Row;IZ)I" } : Jvm.MethodName)) :: tS_2_519
def tS_2_517 : List Cond := (Jvm.Cond.privateMethod ({ cls := "Runweaver", name := "stampOfComer", desc := "(LRunweaver$Row;IZ)I" } : Jvm.MethodName)) :: tS_2_518
def tS_2_516 : List Cond := (Jvm.Cond.methodLink "Runweaver" (304 : Nat) ({ cls := "Runweaver", name := "stampOfComer", desc := "(LRunweaver$Row;IZ)I" } : Jvm.MethodName)) :: tS_2_517
def tS_2_515 : List Cond := (Jvm.Cond.code ({ cls := "Runweaver", name := "bring", desc := "(LRunweaver$Row;LRunweaver$Row;Z)V" } : Jvm.MethodName) prog_1_method_61_code (6 : Nat) (Option.none : Option Jvm.ClassFile.FieldType)) :: tS_2_516
def tS_2_514 : List Cond := (Jvm.Cond.instanceMethod ({ cls := "Runweaver", name := "bring", desc := "(LRunweaver$Row;LRunweaver$Row;Z)V" } : Jvm.MethodName)) :: tS_2_515
def tS_2_513 : List Cond := (Jvm.Cond.privateMethod ({ cls := "Runweaver", name := "bring", desc := "(LRunweaver$Row;LRunweaver$Row;Z)V" } : Jvm.MethodName)) :: tS_2_514
def tS_2_512 : List Cond := (Jvm.Cond.methodLink "Runweaver" (127 : Nat) ({ cls := "Runweaver", name := "bring", desc := "(LRunweaver$Row;LRunweaver$Row;Z)V" } : Jvm.MethodName)) :: tS_2_513
def tS_2_511 : List Cond := (Jvm.Cond.code ({ cls := "Runweaver", name := "copy", desc := "(II)I" } : Jvm.MethodName) prog_1_method_13_code (5 : Nat) (Option.some Jvm.ClassFile.FieldType.int)) :: tS_2_512
def tS_2_510 : List Cond := (Jvm.Cond.selects "Runweaver" ({ cls := "Runweaver", name := "copy", desc := "(II)I" } : Jvm.MethodName) ({ cls := "Runweaver", name := "copy", desc := "(II)I" } : Jvm.MethodName)) :: tS_2_511
def tS_2_509 : List Cond := (Jvm.Cond.instanceMethod ({ cls := "Runweaver", name := "copy", desc := "(II)I" } : Jvm.MethodName)) :: tS_2_510
def tS_2_508 : List Cond := (Jvm.Cond.methodLink "RunweaverLaw" (56 : Nat) ({ cls := "Runweaver", name := "copy", desc := "(II)I" } : Jvm.MethodName)) :: tS_2_509
def tS_2_507 : List Cond := (Jvm.Cond.codeWith ({ cls := "RunweaverLaw", name := "copy", desc := "(LRunweaver;IILRunweaverLaw$Out;)I" } : Jvm.MethodName) method_13_code (5 : Nat) (Option.some Jvm.ClassFile.FieldType.int) [((0 : Nat), (11 : Nat), (14 : Nat), (19 : Nat))]) :: tS_2_508
def tS_2_506 : List Cond := (Jvm.Cond.static ({ cls := "RunweaverLaw", name := "copy", desc := "(LRunweaver;IILRunweaverLaw$Out;)I" } : Jvm.MethodName)) :: tS_2_507
def tS_2_505 : List Cond := (Jvm.Cond.methodLink "RunweaverLaw" (205 : Nat) ({ cls := "RunweaverLaw", name := "copy", desc := "(LRunweaver;IILRunweaverLaw$Out;)I" } : Jvm.MethodName)) :: tS_2_506
def tS_2_504 : List Cond := (Jvm.Cond.code ({ cls := "Runweaver", name := "sort", desc := "(I)I" } : Jvm.MethodName) prog_1_method_12_code (4 : Nat) (Option.some Jvm.ClassFile.FieldType.int)) :: tS_2_505
def tS_2_503 : List Cond := (Jvm.Cond.selects "Runweaver" ({ cls := "Runweaver", name := "sort", desc := "(I)I" } : Jvm.MethodName) ({ cls := "Runweaver", name := "sort", desc := "(I)I" } : Jvm.MethodName)) :: tS_2_504
def tS_2_502 : List Cond := (Jvm.Cond.instanceMethod ({ cls := "Runweaver", name := "sort", desc := "(I)I" } : Jvm.MethodName)) :: tS_2_503
def tS_2_501 : List Cond := (Jvm.Cond.methodLink "RunweaverLaw" (53 : Nat) ({ cls := "Runweaver", name := "sort", desc := "(I)I" } : Jvm.MethodName)) :: tS_2_502
def tS_2_500 : List Cond := (Jvm.Cond.codeWith ({ cls := "RunweaverLaw", name := "sort", desc := "(LRunweaver;ILRunweaverLaw$Out;)I" } : Jvm.MethodName) method_12_code (4 : Nat) (Option.some Jvm.ClassFile.FieldType.int) [((0 : Nat), (10 : Nat), (13 : Nat), (19 : Nat))]) :: tS_2_501
def tS_2_499 : List Cond := (Jvm.Cond.static ({ cls := "RunweaverLaw", name := "sort", desc := "(LRunweaver;ILRunweaverLaw$Out;)I" } : Jvm.MethodName)) :: tS_2_500
def tS_2_498 : List Cond := (Jvm.Cond.methodLink "RunweaverLaw" (202 : Nat) ({ cls := "RunweaverLaw", name := "sort", desc := "(LRunweaver;ILRunweaverLaw$Out;)I" } : Jvm.MethodName)) :: tS_2_499
def tS_2_497 : List Cond := (Jvm.Cond.code ({ cls := "Runweaver", name := "keep", desc := "(III)I" } : Jvm.MethodName) prog_1_method_11_code (6 : Nat) (Option.some Jvm.ClassFile.FieldType.int)) :: tS_2_498
def tS_2_496 : List Cond := (Jvm.Cond.selects "Runweaver" ({ cls := "Runweaver", name := "keep", desc := "(III)I" } : Jvm.MethodName) ({ cls := "Runweaver", name := "keep", desc := "(III)I" } : Jvm.MethodName)) :: tS_2_497
def tS_2_495 : List Cond := (Jvm.Cond.instanceMethod ({ cls := "Runweaver", name := "keep", desc := "(III)I" } : Jvm.MethodName)) :: tS_2_496
def tS_2_494 : List Cond := (Jvm.Cond.methodLink "RunweaverLaw" (50 : Nat) ({ cls := "Runweaver", name := "keep", desc := "(III)I" } : Jvm.MethodName)) :: tS_2_495
def tS_2_493 : List Cond := (Jvm.Cond.codeWith ({ cls := "RunweaverLaw", name := "keep", desc := "(LRunweaver;IIILRunweaverLaw$Out;)I" } : Jvm.MethodName) method_11_code (6 : Nat) (Option.some Jvm.ClassFile.FieldType.int) [((0 : Nat), (13 : Nat), (16 : Nat), (19 : Nat))]) :: tS_2_494
def tS_2_492 : List Cond := (Jvm.Cond.static ({ cls := "RunweaverLaw", name := "keep", desc := "(LRunweaver;IIILRunweaverLaw$Out;)I" } : Jvm.MethodName)) :: tS_2_493
def tS_2_491 : List Cond := (Jvm.Cond.methodLink "RunweaverLaw" (199 : Nat) ({ cls := "RunweaverLaw", name := "keep", desc := "(LRunweaver;IIILRunweaverLaw$Out;)I" } : Jvm.MethodName)) :: tS_2_492
def tS_2_490 : List Cond := (Jvm.Cond.code ({ cls := "Runweaver", name := "roll", desc := "(II)I" } : Jvm.MethodName) prog_1_method_10_code (6 : Nat) (Option.some Jvm.ClassFile.FieldType.int)) :: tS_2_491
def tS_2_489 : List Cond := (Jvm.Cond.selects "Runweaver" ({ cls := "Runweaver", name := "roll", desc := "(II)I" } : Jvm.MethodName) ({ cls := "Runweaver", name := "roll", desc := "(II)I" } : Jvm.MethodName)) :: tS_2_490
def tS_2_488 : List Cond := (Jvm.Cond.instanceMethod ({ cls := "Runweaver", name := "roll", desc := "(II)I" } : Jvm.MethodName)) :: tS_2_489
def tS_2_487 : List Cond := (Jvm.Cond.methodLink "RunweaverLaw" (47 : Nat) ({ cls := "Runweaver", name := "roll", desc := "(II)I" } : Jvm.MethodName)) :: tS_2_488
def tS_2_486 : List Cond := (Jvm.Cond.codeWith ({ cls := "RunweaverLaw", name := "roll", desc := "(LRunweaver;IILRunweaverLaw$Out;)I" } : Jvm.MethodName) method_10_code (5 : Nat) (Option.some Jvm.ClassFile.FieldType.int) [((0 : Nat), (11 : Nat), (14 : Nat), (19 : Nat)), ((0 : Nat), (11 : Nat), (18 : Nat), (21 : Nat))]) :: tS_2_487
def tS_2_485 : List Cond := (Jvm.Cond.static ({ cls := "RunweaverLaw", name := "roll", desc := "(LRunweaver;IILRunweaverLaw$Out;)I" } : Jvm.MethodName)) :: tS_2_486
def tS_2_484 : List Cond := (Jvm.Cond.methodLink "RunweaverLaw" (196 : Nat) ({ cls := "RunweaverLaw", name := "roll", desc := "(LRunweaver;IILRunweaverLaw$Out;)I" } : Jvm.MethodName)) :: tS_2_485
def tS_2_483 : List Cond := (Jvm.Cond.code ({ cls := "Runweaver$Row", name := "otherKeys", desc := "(LRunweaver$Row;)I" } : Jvm.MethodName) prog_3_method_10_code (5 : Nat) (Option.some Jvm.ClassFile.FieldType.int)) :: tS_2_484
def tS_2_482 : List Cond := (Jvm.Cond.selects "Runweaver$Row" ({ cls := "Runweaver$Row", name := "otherKeys", desc := "(LRunweaver$Row;)I" } : Jvm.MethodName) ({ cls := "Runweaver$Row", name := "otherKeys", desc := "(LRunweaver$Row;)I" } : Jvm.MethodName)) :: tS_2_483
def tS_2_481 : List Cond := (Jvm.Cond.instanceMethod ({ cls := "Runweaver$Row", name := "otherKeys", desc := "(LRunweaver$Row;)I" } : Jvm.MethodName)) :: tS_2_482
def tS_2_480 : List Cond := (Jvm.Cond.methodLink "Runweaver" (107 : Nat) ({ cls := "Runweaver$Row", name := "otherKeys", desc := "(LRunweaver$Row;)I" } : Jvm.MethodName)) :: tS_2_481
set_option maxRecDepth 100000 in
theorem tU_2 : tables_1_3 = tS_2_480 := rfl
theorem tV_2_480 {w : Cond} (h0 : w ∈ tS_2_480) : w ∈ lw_tbl := List.mem_append_left _ (List.mem_append_right _ (have h : w ∈ tables_1_3 := tU_2 ▸ h0; (List.mem_append_right _ (List.mem_append_right _ (List.mem_append_left _ h)) : w ∈ tables_1)))
theorem tV_2_481 {w : Cond} (h : w ∈ tS_2_481) : w ∈ lw_tbl := tV_2_480 (List.mem_cons_of_mem _ h)
theorem tV_2_482 {w : Cond} (h : w ∈ tS_2_482) : w ∈ lw_tbl := tV_2_481 (List.mem_cons_of_mem _ h)
theorem tV_2_483 {w : Cond} (h : w ∈ tS_2_483) : w ∈ lw_tbl := tV_2_482 (List.mem_cons_of_mem _ h)
theorem tV_2_484 {w : Cond} (h : w ∈ tS_2_484) : w ∈ lw_tbl := tV_2_483 (List.mem_cons_of_mem _ h)
theorem tV_2_485 {w : Cond} (h : w ∈ tS_2_485) : w ∈ lw_tbl := tV_2_484 (List.mem_cons_of_mem _ h)
theorem tV_2_486 {w : Cond} (h : w ∈ tS_2_486) : w ∈ lw_tbl := tV_2_485 (List.mem_cons_of_mem _ h)
theorem tV_2_487 {w : Cond} (h : w ∈ tS_2_487) : w ∈ lw_tbl := tV_2_486 (List.mem_cons_of_mem _ h)
theorem tV_2_488 {w : Cond} (h : w ∈ tS_2_488) : w ∈ lw_tbl := tV_2_487 (List.mem_cons_of_mem _ h)
theorem tV_2_489 {w : Cond} (h : w ∈ tS_2_489) : w ∈ lw_tbl := tV_2_488 (List.mem_cons_of_mem _ h)
theorem tV_2_490 {w : Cond} (h : w ∈ tS_2_490) : w ∈ lw_tbl := tV_2_489 (List.mem_cons_of_mem _ h)
theorem tV_2_491 {w : Cond} (h : w ∈ tS_2_491) : w ∈ lw_tbl := tV_2_490 (List.mem_cons_of_mem _ h)
theorem tV_2_492 {w : Cond} (h : w ∈ tS_2_492) : w ∈ lw_tbl := tV_2_491 (List.mem_cons_of_mem _ h)
theorem tV_2_493 {w : Cond} (h : w ∈ tS_2_493) : w ∈ lw_tbl := tV_2_492 (List.mem_cons_of_mem _ h)
theorem tV_2_494 {w : Cond} (h : w ∈ tS_2_494) : w ∈ lw_tbl := tV_2_493 (List.mem_cons_of_mem _ h)
theorem tV_2_495 {w : Cond} (h : w ∈ tS_2_495) : w ∈ lw_tbl := tV_2_494 (List.mem_cons_of_mem _ h)
theorem tV_2_496 {w : Cond} (h : w ∈ tS_2_496) : w ∈ lw_tbl := tV_2_495 (List.mem_cons_of_mem _ h)
theorem tV_2_497 {w : Cond} (h : w ∈ tS_2_497) : w ∈ lw_tbl := tV_2_496 (List.mem_cons_of_mem _ h)
theorem tV_2_498 {w : Cond} (h : w ∈ tS_2_498) : w ∈ lw_tbl := tV_2_497 (List.mem_cons_of_mem _ h)
theorem tV_2_499 {w : Cond} (h : w ∈ tS_2_499) : w ∈ lw_tbl := tV_2_498 (List.mem_cons_of_mem _ h)
theorem tV_2_500 {w : Cond} (h : w ∈ tS_2_500) : w ∈ lw_tbl := tV_2_499 (List.mem_cons_of_mem _ h)
theorem tV_2_501 {w : Cond} (h : w ∈ tS_2_501) : w ∈ lw_tbl := tV_2_500 (List.mem_cons_of_mem _ h)
theorem tV_2_502 {w : Cond} (h : w ∈ tS_2_502) : w ∈ lw_tbl := tV_2_501 (List.mem_cons_of_mem _ h)
theorem tV_2_503 {w : Cond} (h : w ∈ tS_2_503) : w ∈ lw_tbl := tV_2_502 (List.mem_cons_of_mem _ h)
theorem tV_2_504 {w : Cond} (h : w ∈ tS_2_504) : w ∈ lw_tbl := tV_2_503 (List.mem_cons_of_mem _ h)
theorem tV_2_505 {w : Cond} (h : w ∈ tS_2_505) : w ∈ lw_tbl := tV_2_504 (List.mem_cons_of_mem _ h)
theorem tV_2_506 {w : Cond} (h : w ∈ tS_2_506) : w ∈ lw_tbl := tV_2_505 (List.mem_cons_of_mem _ h)
theorem tV_2_507 {w : Cond} (h : w ∈ tS_2_507) : w ∈ lw_tbl := tV_2_506 (List.mem_cons_of_mem _ h)
theorem tV_2_508 {w : Cond} (h : w ∈ tS_2_508) : w ∈ lw_tbl := tV_2_507 (List.mem_cons_of_mem _ h)
theorem tV_2_509 {w : Cond} (h : w ∈ tS_2_509) : w ∈ lw_tbl := tV_2_508 (List.mem_cons_of_mem _ h)
theorem tV_2_510 {w : Cond} (h : w ∈ tS_2_510) : w ∈ lw_tbl := tV_2_509 (List.mem_cons_of_mem _ h)
theorem tV_2_511 {w : Cond} (h : w ∈ tS_2_511) : w ∈ lw_tbl := tV_2_510 (List.mem_cons_of_mem _ h)
theorem tV_2_512 {w : Cond} (h : w ∈ tS_2_512) : w ∈ lw_tbl := tV_2_511 (List.mem_cons_of_mem _ h)
theorem tV_2_513 {w : Cond} (h : w ∈ tS_2_513) : w ∈ lw_tbl := tV_2_512 (List.mem_cons_of_mem _ h)
theorem tV_2_514 {w : Cond} (h : w ∈ tS_2_514) : w ∈ lw_tbl := tV_2_513 (List.mem_cons_of_mem _ h)
theorem tV_2_515 {w : Cond} (h : w ∈ tS_2_515) : w ∈ lw_tbl := tV_2_514 (List.mem_cons_of_mem _ h)
theorem tV_2_516 {w : Cond} (h : w ∈ tS_2_516) : w ∈ lw_tbl := tV_2_515 (List.mem_cons_of_mem _ h)
theorem tV_2_517 {w : Cond} (h : w ∈ tS_2_517) : w ∈ lw_tbl := tV_2_516 (List.mem_cons_of_mem _ h)
theorem tV_2_518 {w : Cond} (h : w ∈ tS_2_518) : w ∈ lw_tbl := tV_2_517 (List.mem_cons_of_mem _ h)
theorem tV_2_519 {w : Cond} (h : w ∈ tS_2_519) : w ∈ lw_tbl := tV_2_518 (List.mem_cons_of_mem _ h)
theorem tV_2_520 {w : Cond} (h : w ∈ tS_2_520) : w ∈ lw_tbl := tV_2_519 (List.mem_cons_of_mem _ h)
theorem tV_2_521 {w : Cond} (h : w ∈ tS_2_521) : w ∈ lw_tbl := tV_2_520 (List.mem_cons_of_mem _ h)
theorem tV_2_522 {w : Cond} (h : w ∈ tS_2_522) : w ∈ lw_tbl := tV_2_521 (List.mem_cons_of_mem _ h)
theorem tV_2_523 {w : Cond} (h : w ∈ tS_2_523) : w ∈ lw_tbl := tV_2_522 (List.mem_cons_of_mem _ h)
theorem tV_2_524 {w : Cond} (h : w ∈ tS_2_524) : w ∈ lw_tbl := tV_2_523 (List.mem_cons_of_mem _ h)
theorem tV_2_525 {w : Cond} (h : w ∈ tS_2_525) : w ∈ lw_tbl := tV_2_524 (List.mem_cons_of_mem _ h)
theorem tV_2_526 {w : Cond} (h : w ∈ tS_2_526) : w ∈ lw_tbl := tV_2_525 (List.mem_cons_of_mem _ h)
theorem tV_2_527 {w : Cond} (h : w ∈ tS_2_527) : w ∈ lw_tbl := tV_2_526 (List.mem_cons_of_mem _ h)
theorem tV_2_528 {w : Cond} (h : w ∈ tS_2_528) : w ∈ lw_tbl := tV_2_527 (List.mem_cons_of_mem _ h)
theorem tV_2_529 {w : Cond} (h : w ∈ tS_2_529) : w ∈ lw_tbl := tV_2_528 (List.mem_cons_of_mem _ h)
theorem tV_2_530 {w : Cond} (h : w ∈ tS_2_530) : w ∈ lw_tbl := tV_2_529 (List.mem_cons_of_mem _ h)
theorem tV_2_531 {w : Cond} (h : w ∈ tS_2_531) : w ∈ lw_tbl := tV_2_530 (List.mem_cons_of_mem _ h)
theorem tV_2_532 {w : Cond} (h : w ∈ tS_2_532) : w ∈ lw_tbl := tV_2_531 (List.mem_cons_of_mem _ h)
theorem tV_2_533 {w : Cond} (h : w ∈ tS_2_533) : w ∈ lw_tbl := tV_2_532 (List.mem_cons_of_mem _ h)
theorem tV_2_534 {w : Cond} (h : w ∈ tS_2_534) : w ∈ lw_tbl := tV_2_533 (List.mem_cons_of_mem _ h)
theorem tV_2_535 {w : Cond} (h : w ∈ tS_2_535) : w ∈ lw_tbl := tV_2_534 (List.mem_cons_of_mem _ h)
theorem tV_2_536 {w : Cond} (h : w ∈ tS_2_536) : w ∈ lw_tbl := tV_2_535 (List.mem_cons_of_mem _ h)
theorem tV_2_537 {w : Cond} (h : w ∈ tS_2_537) : w ∈ lw_tbl := tV_2_536 (List.mem_cons_of_mem _ h)
theorem tV_2_538 {w : Cond} (h : w ∈ tS_2_538) : w ∈ lw_tbl := tV_2_537 (List.mem_cons_of_mem _ h)
theorem tV_2_539 {w : Cond} (h : w ∈ tS_2_539) : w ∈ lw_tbl := tV_2_538 (List.mem_cons_of_mem _ h)
theorem tV_2_540 {w : Cond} (h : w ∈ tS_2_540) : w ∈ lw_tbl := tV_2_539 (List.mem_cons_of_mem _ h)
theorem tV_2_541 {w : Cond} (h : w ∈ tS_2_541) : w ∈ lw_tbl := tV_2_540 (List.mem_cons_of_mem _ h)
theorem tV_2_542 {w : Cond} (h : w ∈ tS_2_542) : w ∈ lw_tbl := tV_2_541 (List.mem_cons_of_mem _ h)
theorem tV_2_543 {w : Cond} (h : w ∈ tS_2_543) : w ∈ lw_tbl := tV_2_542 (List.mem_cons_of_mem _ h)
theorem tV_2_544 {w : Cond} (h : w ∈ tS_2_544) : w ∈ lw_tbl := tV_2_543 (List.mem_cons_of_mem _ h)
theorem tV_2_545 {w : Cond} (h : w ∈ tS_2_545) : w ∈ lw_tbl := tV_2_544 (List.mem_cons_of_mem _ h)
theorem tV_2_546 {w : Cond} (h : w ∈ tS_2_546) : w ∈ lw_tbl := tV_2_545 (List.mem_cons_of_mem _ h)
theorem tV_2_547 {w : Cond} (h : w ∈ tS_2_547) : w ∈ lw_tbl := tV_2_546 (List.mem_cons_of_mem _ h)
theorem tV_2_548 {w : Cond} (h : w ∈ tS_2_548) : w ∈ lw_tbl := tV_2_547 (List.mem_cons_of_mem _ h)
theorem tV_2_549 {w : Cond} (h : w ∈ tS_2_549) : w ∈ lw_tbl := tV_2_548 (List.mem_cons_of_mem _ h)
theorem tV_2_550 {w : Cond} (h : w ∈ tS_2_550) : w ∈ lw_tbl := tV_2_549 (List.mem_cons_of_mem _ h)
theorem tV_2_551 {w : Cond} (h : w ∈ tS_2_551) : w ∈ lw_tbl := tV_2_550 (List.mem_cons_of_mem _ h)
theorem tV_2_552 {w : Cond} (h : w ∈ tS_2_552) : w ∈ lw_tbl := tV_2_551 (List.mem_cons_of_mem _ h)
theorem tV_2_553 {w : Cond} (h : w ∈ tS_2_553) : w ∈ lw_tbl := tV_2_552 (List.mem_cons_of_mem _ h)
theorem tV_2_554 {w : Cond} (h : w ∈ tS_2_554) : w ∈ lw_tbl := tV_2_553 (List.mem_cons_of_mem _ h)
theorem tV_2_555 {w : Cond} (h : w ∈ tS_2_555) : w ∈ lw_tbl := tV_2_554 (List.mem_cons_of_mem _ h)
theorem tV_2_556 {w : Cond} (h : w ∈ tS_2_556) : w ∈ lw_tbl := tV_2_555 (List.mem_cons_of_mem _ h)
theorem tV_2_557 {w : Cond} (h : w ∈ tS_2_557) : w ∈ lw_tbl := tV_2_556 (List.mem_cons_of_mem _ h)
theorem tV_2_558 {w : Cond} (h : w ∈ tS_2_558) : w ∈ lw_tbl := tV_2_557 (List.mem_cons_of_mem _ h)
theorem tV_2_559 {w : Cond} (h : w ∈ tS_2_559) : w ∈ lw_tbl := tV_2_558 (List.mem_cons_of_mem _ h)
theorem tV_2_560 {w : Cond} (h : w ∈ tS_2_560) : w ∈ lw_tbl := tV_2_559 (List.mem_cons_of_mem _ h)
theorem tV_2_561 {w : Cond} (h : w ∈ tS_2_561) : w ∈ lw_tbl := tV_2_560 (List.mem_cons_of_mem _ h)
theorem tV_2_562 {w : Cond} (h : w ∈ tS_2_562) : w ∈ lw_tbl := tV_2_561 (List.mem_cons_of_mem _ h)
theorem tV_2_563 {w : Cond} (h : w ∈ tS_2_563) : w ∈ lw_tbl := tV_2_562 (List.mem_cons_of_mem _ h)
theorem tV_2_564 {w : Cond} (h : w ∈ tS_2_564) : w ∈ lw_tbl := tV_2_563 (List.mem_cons_of_mem _ h)
theorem tV_2_565 {w : Cond} (h : w ∈ tS_2_565) : w ∈ lw_tbl := tV_2_564 (List.mem_cons_of_mem _ h)
theorem tV_2_566 {w : Cond} (h : w ∈ tS_2_566) : w ∈ lw_tbl := tV_2_565 (List.mem_cons_of_mem _ h)
theorem tV_2_567 {w : Cond} (h : w ∈ tS_2_567) : w ∈ lw_tbl := tV_2_566 (List.mem_cons_of_mem _ h)
theorem tV_2_568 {w : Cond} (h : w ∈ tS_2_568) : w ∈ lw_tbl := tV_2_567 (List.mem_cons_of_mem _ h)
theorem tV_2_569 {w : Cond} (h : w ∈ tS_2_569) : w ∈ lw_tbl := tV_2_568 (List.mem_cons_of_mem _ h)
theorem tV_2_570 {w : Cond} (h : w ∈ tS_2_570) : w ∈ lw_tbl := tV_2_569 (List.mem_cons_of_mem _ h)
theorem tV_2_571 {w : Cond} (h : w ∈ tS_2_571) : w ∈ lw_tbl := tV_2_570 (List.mem_cons_of_mem _ h)
theorem tV_2_572 {w : Cond} (h : w ∈ tS_2_572) : w ∈ lw_tbl := tV_2_571 (List.mem_cons_of_mem _ h)
theorem tV_2_573 {w : Cond} (h : w ∈ tS_2_573) : w ∈ lw_tbl := tV_2_572 (List.mem_cons_of_mem _ h)
theorem tV_2_574 {w : Cond} (h : w ∈ tS_2_574) : w ∈ lw_tbl := tV_2_573 (List.mem_cons_of_mem _ h)
theorem tV_2_575 {w : Cond} (h : w ∈ tS_2_575) : w ∈ lw_tbl := tV_2_574 (List.mem_cons_of_mem _ h)
theorem tV_2_576 {w : Cond} (h : w ∈ tS_2_576) : w ∈ lw_tbl := tV_2_575 (List.mem_cons_of_mem _ h)
theorem tV_2_577 {w : Cond} (h : w ∈ tS_2_577) : w ∈ lw_tbl := tV_2_576 (List.mem_cons_of_mem _ h)
theorem tV_2_578 {w : Cond} (h : w ∈ tS_2_578) : w ∈ lw_tbl := tV_2_577 (List.mem_cons_of_mem _ h)
theorem tV_2_579 {w : Cond} (h : w ∈ tS_2_579) : w ∈ lw_tbl := tV_2_578 (List.mem_cons_of_mem _ h)
theorem tV_2_580 {w : Cond} (h : w ∈ tS_2_580) : w ∈ lw_tbl := tV_2_579 (List.mem_cons_of_mem _ h)
theorem tV_2_581 {w : Cond} (h : w ∈ tS_2_581) : w ∈ lw_tbl := tV_2_580 (List.mem_cons_of_mem _ h)
theorem tV_2_582 {w : Cond} (h : w ∈ tS_2_582) : w ∈ lw_tbl := tV_2_581 (List.mem_cons_of_mem _ h)
theorem tV_2_583 {w : Cond} (h : w ∈ tS_2_583) : w ∈ lw_tbl := tV_2_582 (List.mem_cons_of_mem _ h)
theorem tV_2_584 {w : Cond} (h : w ∈ tS_2_584) : w ∈ lw_tbl := tV_2_583 (List.mem_cons_of_mem _ h)
theorem tV_2_585 {w : Cond} (h : w ∈ tS_2_585) : w ∈ lw_tbl := tV_2_584 (List.mem_cons_of_mem _ h)
theorem tV_2_586 {w : Cond} (h : w ∈ tS_2_586) : w ∈ lw_tbl := tV_2_585 (List.mem_cons_of_mem _ h)
theorem tV_2_587 {w : Cond} (h : w ∈ tS_2_587) : w ∈ lw_tbl := tV_2_586 (List.mem_cons_of_mem _ h)
theorem tV_2_588 {w : Cond} (h : w ∈ tS_2_588) : w ∈ lw_tbl := tV_2_587 (List.mem_cons_of_mem _ h)
theorem tV_2_589 {w : Cond} (h : w ∈ tS_2_589) : w ∈ lw_tbl := tV_2_588 (List.mem_cons_of_mem _ h)
theorem tV_2_590 {w : Cond} (h : w ∈ tS_2_590) : w ∈ lw_tbl := tV_2_589 (List.mem_cons_of_mem _ h)
theorem tV_2_591 {w : Cond} (h : w ∈ tS_2_591) : w ∈ lw_tbl := tV_2_590 (List.mem_cons_of_mem _ h)
theorem tV_2_592 {w : Cond} (h : w ∈ tS_2_592) : w ∈ lw_tbl := tV_2_591 (List.mem_cons_of_mem _ h)
theorem tV_2_593 {w : Cond} (h : w ∈ tS_2_593) : w ∈ lw_tbl := tV_2_592 (List.mem_cons_of_mem _ h)
theorem tV_2_594 {w : Cond} (h : w ∈ tS_2_594) : w ∈ lw_tbl := tV_2_593 (List.mem_cons_of_mem _ h)
theorem tV_2_595 {w : Cond} (h : w ∈ tS_2_595) : w ∈ lw_tbl := tV_2_594 (List.mem_cons_of_mem _ h)
theorem tV_2_596 {w : Cond} (h : w ∈ tS_2_596) : w ∈ lw_tbl := tV_2_595 (List.mem_cons_of_mem _ h)
theorem tV_2_597 {w : Cond} (h : w ∈ tS_2_597) : w ∈ lw_tbl := tV_2_596 (List.mem_cons_of_mem _ h)
theorem tV_2_598 {w : Cond} (h : w ∈ tS_2_598) : w ∈ lw_tbl := tV_2_597 (List.mem_cons_of_mem _ h)
theorem tV_2_599 {w : Cond} (h : w ∈ tS_2_599) : w ∈ lw_tbl := tV_2_598 (List.mem_cons_of_mem _ h)
theorem tV_2_600 {w : Cond} (h : w ∈ tS_2_600) : w ∈ lw_tbl := tV_2_599 (List.mem_cons_of_mem _ h)
theorem tV_2_601 {w : Cond} (h : w ∈ tS_2_601) : w ∈ lw_tbl := tV_2_600 (List.mem_cons_of_mem _ h)
theorem tV_2_602 {w : Cond} (h : w ∈ tS_2_602) : w ∈ lw_tbl := tV_2_601 (List.mem_cons_of_mem _ h)
theorem tV_2_603 {w : Cond} (h : w ∈ tS_2_603) : w ∈ lw_tbl := tV_2_602 (List.mem_cons_of_mem _ h)
theorem tV_2_604 {w : Cond} (h : w ∈ tS_2_604) : w ∈ lw_tbl := tV_2_603 (List.mem_cons_of_mem _ h)
theorem tV_2_605 {w : Cond} (h : w ∈ tS_2_605) : w ∈ lw_tbl := tV_2_604 (List.mem_cons_of_mem _ h)
theorem tV_2_606 {w : Cond} (h : w ∈ tS_2_606) : w ∈ lw_tbl := tV_2_605 (List.mem_cons_of_mem _ h)
theorem tV_2_607 {w : Cond} (h : w ∈ tS_2_607) : w ∈ lw_tbl := tV_2_606 (List.mem_cons_of_mem _ h)
theorem tV_2_608 {w : Cond} (h : w ∈ tS_2_608) : w ∈ lw_tbl := tV_2_607 (List.mem_cons_of_mem _ h)
theorem tV_2_609 {w : Cond} (h : w ∈ tS_2_609) : w ∈ lw_tbl := tV_2_608 (List.mem_cons_of_mem _ h)
theorem tV_2_610 {w : Cond} (h : w ∈ tS_2_610) : w ∈ lw_tbl := tV_2_609 (List.mem_cons_of_mem _ h)
theorem tV_2_611 {w : Cond} (h : w ∈ tS_2_611) : w ∈ lw_tbl := tV_2_610 (List.mem_cons_of_mem _ h)
theorem tV_2_612 {w : Cond} (h : w ∈ tS_2_612) : w ∈ lw_tbl := tV_2_611 (List.mem_cons_of_mem _ h)
theorem tV_2_613 {w : Cond} (h : w ∈ tS_2_613) : w ∈ lw_tbl := tV_2_612 (List.mem_cons_of_mem _ h)
theorem tV_2_614 {w : Cond} (h : w ∈ tS_2_614) : w ∈ lw_tbl := tV_2_613 (List.mem_cons_of_mem _ h)
theorem tV_2_615 {w : Cond} (h : w ∈ tS_2_615) : w ∈ lw_tbl := tV_2_614 (List.mem_cons_of_mem _ h)
theorem tV_2_616 {w : Cond} (h : w ∈ tS_2_616) : w ∈ lw_tbl := tV_2_615 (List.mem_cons_of_mem _ h)
theorem tV_2_617 {w : Cond} (h : w ∈ tS_2_617) : w ∈ lw_tbl := tV_2_616 (List.mem_cons_of_mem _ h)
theorem tV_2_618 {w : Cond} (h : w ∈ tS_2_618) : w ∈ lw_tbl := tV_2_617 (List.mem_cons_of_mem _ h)
theorem tV_2_619 {w : Cond} (h : w ∈ tS_2_619) : w ∈ lw_tbl := tV_2_618 (List.mem_cons_of_mem _ h)
theorem tV_2_620 {w : Cond} (h : w ∈ tS_2_620) : w ∈ lw_tbl := tV_2_619 (List.mem_cons_of_mem _ h)
theorem tV_2_621 {w : Cond} (h : w ∈ tS_2_621) : w ∈ lw_tbl := tV_2_620 (List.mem_cons_of_mem _ h)
theorem tV_2_622 {w : Cond} (h : w ∈ tS_2_622) : w ∈ lw_tbl := tV_2_621 (List.mem_cons_of_mem _ h)
theorem tV_2_623 {w : Cond} (h : w ∈ tS_2_623) : w ∈ lw_tbl := tV_2_622 (List.mem_cons_of_mem _ h)
theorem tV_2_624 {w : Cond} (h : w ∈ tS_2_624) : w ∈ lw_tbl := tV_2_623 (List.mem_cons_of_mem _ h)
theorem tV_2_625 {w : Cond} (h : w ∈ tS_2_625) : w ∈ lw_tbl := tV_2_624 (List.mem_cons_of_mem _ h)
theorem tV_2_626 {w : Cond} (h : w ∈ tS_2_626) : w ∈ lw_tbl := tV_2_625 (List.mem_cons_of_mem _ h)
theorem tV_2_627 {w : Cond} (h : w ∈ tS_2_627) : w ∈ lw_tbl := tV_2_626 (List.mem_cons_of_mem _ h)
theorem tV_2_628 {w : Cond} (h : w ∈ tS_2_628) : w ∈ lw_tbl := tV_2_627 (List.mem_cons_of_mem _ h)
theorem tV_2_629 {w : Cond} (h : w ∈ tS_2_629) : w ∈ lw_tbl := tV_2_628 (List.mem_cons_of_mem _ h)
theorem tV_2_630 {w : Cond} (h : w ∈ tS_2_630) : w ∈ lw_tbl := tV_2_629 (List.mem_cons_of_mem _ h)
theorem tV_2_631 {w : Cond} (h : w ∈ tS_2_631) : w ∈ lw_tbl := tV_2_630 (List.mem_cons_of_mem _ h)
theorem tV_2_632 {w : Cond} (h : w ∈ tS_2_632) : w ∈ lw_tbl := tV_2_631 (List.mem_cons_of_mem _ h)
theorem tV_2_633 {w : Cond} (h : w ∈ tS_2_633) : w ∈ lw_tbl := tV_2_632 (List.mem_cons_of_mem _ h)
theorem tV_2_634 {w : Cond} (h : w ∈ tS_2_634) : w ∈ lw_tbl := tV_2_633 (List.mem_cons_of_mem _ h)
theorem tV_2_635 {w : Cond} (h : w ∈ tS_2_635) : w ∈ lw_tbl := tV_2_634 (List.mem_cons_of_mem _ h)
theorem tV_2_636 {w : Cond} (h : w ∈ tS_2_636) : w ∈ lw_tbl := tV_2_635 (List.mem_cons_of_mem _ h)
theorem tV_2_637 {w : Cond} (h : w ∈ tS_2_637) : w ∈ lw_tbl := tV_2_636 (List.mem_cons_of_mem _ h)
theorem tV_2_638 {w : Cond} (h : w ∈ tS_2_638) : w ∈ lw_tbl := tV_2_637 (List.mem_cons_of_mem _ h)
theorem tV_2_639 {w : Cond} (h : w ∈ tS_2_639) : w ∈ lw_tbl := tV_2_638 (List.mem_cons_of_mem _ h)
theorem tV_2_640 {w : Cond} (h : w ∈ tS_2_640) : w ∈ lw_tbl := tV_2_639 (List.mem_cons_of_mem _ h)
theorem tV_2_641 {w : Cond} (h : w ∈ tS_2_641) : w ∈ lw_tbl := tV_2_640 (List.mem_cons_of_mem _ h)
theorem tV_2_642 {w : Cond} (h : w ∈ tS_2_642) : w ∈ lw_tbl := tV_2_641 (List.mem_cons_of_mem _ h)
theorem tV_2_643 {w : Cond} (h : w ∈ tS_2_643) : w ∈ lw_tbl := tV_2_642 (List.mem_cons_of_mem _ h)
theorem tV_2_644 {w : Cond} (h : w ∈ tS_2_644) : w ∈ lw_tbl := tV_2_643 (List.mem_cons_of_mem _ h)
theorem tV_2_645 {w : Cond} (h : w ∈ tS_2_645) : w ∈ lw_tbl := tV_2_644 (List.mem_cons_of_mem _ h)
theorem tV_2_646 {w : Cond} (h : w ∈ tS_2_646) : w ∈ lw_tbl := tV_2_645 (List.mem_cons_of_mem _ h)
theorem tV_2_647 {w : Cond} (h : w ∈ tS_2_647) : w ∈ lw_tbl := tV_2_646 (List.mem_cons_of_mem _ h)
theorem tV_2_648 {w : Cond} (h : w ∈ tS_2_648) : w ∈ lw_tbl := tV_2_647 (List.mem_cons_of_mem _ h)
theorem tV_2_649 {w : Cond} (h : w ∈ tS_2_649) : w ∈ lw_tbl := tV_2_648 (List.mem_cons_of_mem _ h)
theorem tV_2_650 {w : Cond} (h : w ∈ tS_2_650) : w ∈ lw_tbl := tV_2_649 (List.mem_cons_of_mem _ h)
theorem tV_2_651 {w : Cond} (h : w ∈ tS_2_651) : w ∈ lw_tbl := tV_2_650 (List.mem_cons_of_mem _ h)
theorem tV_2_652 {w : Cond} (h : w ∈ tS_2_652) : w ∈ lw_tbl := tV_2_651 (List.mem_cons_of_mem _ h)
theorem tV_2_653 {w : Cond} (h : w ∈ tS_2_653) : w ∈ lw_tbl := tV_2_652 (List.mem_cons_of_mem _ h)
theorem tV_2_654 {w : Cond} (h : w ∈ tS_2_654) : w ∈ lw_tbl := tV_2_653 (List.mem_cons_of_mem _ h)
theorem tV_2_655 {w : Cond} (h : w ∈ tS_2_655) : w ∈ lw_tbl := tV_2_654 (List.mem_cons_of_mem _ h)
theorem tV_2_656 {w : Cond} (h : w ∈ tS_2_656) : w ∈ lw_tbl := tV_2_655 (List.mem_cons_of_mem _ h)
theorem tV_2_657 {w : Cond} (h : w ∈ tS_2_657) : w ∈ lw_tbl := tV_2_656 (List.mem_cons_of_mem _ h)
theorem tV_2_658 {w : Cond} (h : w ∈ tS_2_658) : w ∈ lw_tbl := tV_2_657 (List.mem_cons_of_mem _ h)
theorem tV_2_659 {w : Cond} (h : w ∈ tS_2_659) : w ∈ lw_tbl := tV_2_658 (List.mem_cons_of_mem _ h)
theorem tV_2_660 {w : Cond} (h : w ∈ tS_2_660) : w ∈ lw_tbl := tV_2_659 (List.mem_cons_of_mem _ h)
theorem tV_2_661 {w : Cond} (h : w ∈ tS_2_661) : w ∈ lw_tbl := tV_2_660 (List.mem_cons_of_mem _ h)
theorem tV_2_662 {w : Cond} (h : w ∈ tS_2_662) : w ∈ lw_tbl := tV_2_661 (List.mem_cons_of_mem _ h)
theorem tV_2_663 {w : Cond} (h : w ∈ tS_2_663) : w ∈ lw_tbl := tV_2_662 (List.mem_cons_of_mem _ h)
theorem tV_2_664 {w : Cond} (h : w ∈ tS_2_664) : w ∈ lw_tbl := tV_2_663 (List.mem_cons_of_mem _ h)
theorem tV_2_665 {w : Cond} (h : w ∈ tS_2_665) : w ∈ lw_tbl := tV_2_664 (List.mem_cons_of_mem _ h)
theorem tV_2_666 {w : Cond} (h : w ∈ tS_2_666) : w ∈ lw_tbl := tV_2_665 (List.mem_cons_of_mem _ h)
theorem tV_2_667 {w : Cond} (h : w ∈ tS_2_667) : w ∈ lw_tbl := tV_2_666 (List.mem_cons_of_mem _ h)
theorem tV_2_668 {w : Cond} (h : w ∈ tS_2_668) : w ∈ lw_tbl := tV_2_667 (List.mem_cons_of_mem _ h)
theorem tV_2_669 {w : Cond} (h : w ∈ tS_2_669) : w ∈ lw_tbl := tV_2_668 (List.mem_cons_of_mem _ h)
theorem tV_2_670 {w : Cond} (h : w ∈ tS_2_670) : w ∈ lw_tbl := tV_2_669 (List.mem_cons_of_mem _ h)
theorem tV_2_671 {w : Cond} (h : w ∈ tS_2_671) : w ∈ lw_tbl := tV_2_670 (List.mem_cons_of_mem _ h)
theorem tV_2_672 {w : Cond} (h : w ∈ tS_2_672) : w ∈ lw_tbl := tV_2_671 (List.mem_cons_of_mem _ h)
theorem tV_2_673 {w : Cond} (h : w ∈ tS_2_673) : w ∈ lw_tbl := tV_2_672 (List.mem_cons_of_mem _ h)
theorem tV_2_674 {w : Cond} (h : w ∈ tS_2_674) : w ∈ lw_tbl := tV_2_673 (List.mem_cons_of_mem _ h)
theorem tV_2_675 {w : Cond} (h : w ∈ tS_2_675) : w ∈ lw_tbl := tV_2_674 (List.mem_cons_of_mem _ h)
theorem tV_2_676 {w : Cond} (h : w ∈ tS_2_676) : w ∈ lw_tbl := tV_2_675 (List.mem_cons_of_mem _ h)
theorem tV_2_677 {w : Cond} (h : w ∈ tS_2_677) : w ∈ lw_tbl := tV_2_676 (List.mem_cons_of_mem _ h)
theorem tV_2_678 {w : Cond} (h : w ∈ tS_2_678) : w ∈ lw_tbl := tV_2_677 (List.mem_cons_of_mem _ h)
theorem tV_2_679 {w : Cond} (h : w ∈ tS_2_679) : w ∈ lw_tbl := tV_2_678 (List.mem_cons_of_mem _ h)
theorem tV_2_680 {w : Cond} (h : w ∈ tS_2_680) : w ∈ lw_tbl := tV_2_679 (List.mem_cons_of_mem _ h)
theorem tV_2_681 {w : Cond} (h : w ∈ tS_2_681) : w ∈ lw_tbl := tV_2_680 (List.mem_cons_of_mem _ h)
theorem tV_2_682 {w : Cond} (h : w ∈ tS_2_682) : w ∈ lw_tbl := tV_2_681 (List.mem_cons_of_mem _ h)
theorem tV_2_683 {w : Cond} (h : w ∈ tS_2_683) : w ∈ lw_tbl := tV_2_682 (List.mem_cons_of_mem _ h)
theorem tV_2_684 {w : Cond} (h : w ∈ tS_2_684) : w ∈ lw_tbl := tV_2_683 (List.mem_cons_of_mem _ h)
theorem tV_2_685 {w : Cond} (h : w ∈ tS_2_685) : w ∈ lw_tbl := tV_2_684 (List.mem_cons_of_mem _ h)
theorem tV_2_686 {w : Cond} (h : w ∈ tS_2_686) : w ∈ lw_tbl := tV_2_685 (List.mem_cons_of_mem _ h)
theorem tV_2_687 {w : Cond} (h : w ∈ tS_2_687) : w ∈ lw_tbl := tV_2_686 (List.mem_cons_of_mem _ h)
theorem tV_2_688 {w : Cond} (h : w ∈ tS_2_688) : w ∈ lw_tbl := tV_2_687 (List.mem_cons_of_mem _ h)
theorem tV_2_689 {w : Cond} (h : w ∈ tS_2_689) : w ∈ lw_tbl := tV_2_688 (List.mem_cons_of_mem _ h)
theorem tV_2_690 {w : Cond} (h : w ∈ tS_2_690) : w ∈ lw_tbl := tV_2_689 (List.mem_cons_of_mem _ h)
theorem tV_2_691 {w : Cond} (h : w ∈ tS_2_691) : w ∈ lw_tbl := tV_2_690 (List.mem_cons_of_mem _ h)
theorem tV_2_692 {w : Cond} (h : w ∈ tS_2_692) : w ∈ lw_tbl := tV_2_691 (List.mem_cons_of_mem _ h)
theorem tV_2_693 {w : Cond} (h : w ∈ tS_2_693) : w ∈ lw_tbl := tV_2_692 (List.mem_cons_of_mem _ h)
theorem tV_2_694 {w : Cond} (h : w ∈ tS_2_694) : w ∈ lw_tbl := tV_2_693 (List.mem_cons_of_mem _ h)
theorem tV_2_695 {w : Cond} (h : w ∈ tS_2_695) : w ∈ lw_tbl := tV_2_694 (List.mem_cons_of_mem _ h)
theorem tV_2_696 {w : Cond} (h : w ∈ tS_2_696) : w ∈ lw_tbl := tV_2_695 (List.mem_cons_of_mem _ h)
theorem tV_2_697 {w : Cond} (h : w ∈ tS_2_697) : w ∈ lw_tbl := tV_2_696 (List.mem_cons_of_mem _ h)
theorem tV_2_698 {w : Cond} (h : w ∈ tS_2_698) : w ∈ lw_tbl := tV_2_697 (List.mem_cons_of_mem _ h)
theorem tV_2_699 {w : Cond} (h : w ∈ tS_2_699) : w ∈ lw_tbl := tV_2_698 (List.mem_cons_of_mem _ h)
theorem tV_2_700 {w : Cond} (h : w ∈ tS_2_700) : w ∈ lw_tbl := tV_2_699 (List.mem_cons_of_mem _ h)
theorem tV_2_701 {w : Cond} (h : w ∈ tS_2_701) : w ∈ lw_tbl := tV_2_700 (List.mem_cons_of_mem _ h)
theorem tV_2_702 {w : Cond} (h : w ∈ tS_2_702) : w ∈ lw_tbl := tV_2_701 (List.mem_cons_of_mem _ h)
theorem tV_2_703 {w : Cond} (h : w ∈ tS_2_703) : w ∈ lw_tbl := tV_2_702 (List.mem_cons_of_mem _ h)
theorem tV_2_704 {w : Cond} (h : w ∈ tS_2_704) : w ∈ lw_tbl := tV_2_703 (List.mem_cons_of_mem _ h)
theorem tV_2_705 {w : Cond} (h : w ∈ tS_2_705) : w ∈ lw_tbl := tV_2_704 (List.mem_cons_of_mem _ h)
theorem tV_2_706 {w : Cond} (h : w ∈ tS_2_706) : w ∈ lw_tbl := tV_2_705 (List.mem_cons_of_mem _ h)
theorem tV_2_707 {w : Cond} (h : w ∈ tS_2_707) : w ∈ lw_tbl := tV_2_706 (List.mem_cons_of_mem _ h)
theorem tV_2_708 {w : Cond} (h : w ∈ tS_2_708) : w ∈ lw_tbl := tV_2_707 (List.mem_cons_of_mem _ h)
theorem tV_2_709 {w : Cond} (h : w ∈ tS_2_709) : w ∈ lw_tbl := tV_2_708 (List.mem_cons_of_mem _ h)
theorem tV_2_710 {w : Cond} (h : w ∈ tS_2_710) : w ∈ lw_tbl := tV_2_709 (List.mem_cons_of_mem _ h)
theorem tV_2_711 {w : Cond} (h : w ∈ tS_2_711) : w ∈ lw_tbl := tV_2_710 (List.mem_cons_of_mem _ h)
theorem tV_2_712 {w : Cond} (h : w ∈ tS_2_712) : w ∈ lw_tbl := tV_2_711 (List.mem_cons_of_mem _ h)
theorem tV_2_713 {w : Cond} (h : w ∈ tS_2_713) : w ∈ lw_tbl := tV_2_712 (List.mem_cons_of_mem _ h)
theorem tV_2_714 {w : Cond} (h : w ∈ tS_2_714) : w ∈ lw_tbl := tV_2_713 (List.mem_cons_of_mem _ h)
theorem tV_2_715 {w : Cond} (h : w ∈ tS_2_715) : w ∈ lw_tbl := tV_2_714 (List.mem_cons_of_mem _ h)
theorem tV_2_716 {w : Cond} (h : w ∈ tS_2_716) : w ∈ lw_tbl := tV_2_715 (List.mem_cons_of_mem _ h)
theorem tV_2_717 {w : Cond} (h : w ∈ tS_2_717) : w ∈ lw_tbl := tV_2_716 (List.mem_cons_of_mem _ h)
theorem tV_2_718 {w : Cond} (h : w ∈ tS_2_718) : w ∈ lw_tbl := tV_2_717 (List.mem_cons_of_mem _ h)
theorem tV_2_719 {w : Cond} (h : w ∈ tS_2_719) : w ∈ lw_tbl := tV_2_718 (List.mem_cons_of_mem _ h)
def tS_3_960 : List Cond := []
def tS_3_959 : List Cond := (Jvm.Cond.static ({ cls := "RunweaverLaw", name := "end", desc := "(LRunweaver;IZLRunweaverLaw$Out;)I" } : Jvm.MethodName)) :: tS_3_960
def tS_3_958 : List Cond := (Jvm.Cond.methodLink "RunweaverLaw" (278 : Nat) ({ cls := "RunweaverLaw", name := "end", desc := "(LRunweaver;IZLRunweaverLaw$Out;)I" } : Jvm.MethodName)) :: tS_3_959
def tS_3_957 : List Cond := (Jvm.Cond.code ({ cls := "Runweaver$Row", name := "firstPlaceOf", desc := "(I)I" } : Jvm.MethodName) prog_3_method_25_code (3 : Nat) (Option.some Jvm.ClassFile.FieldType.int)) :: tS_3_958
def tS_3_956 : List Cond := (Jvm.Cond.selects "Runweaver$Row" ({ cls := "Runweaver$Row", name := "firstPlaceOf", desc := "(I)I" } : Jvm.MethodName) ({ cls := "Runweaver$Row", name := "firstPlaceOf", desc := "(I)I" } : Jvm.MethodName)) :: tS_3_957
def tS_3_955 : List Cond := (Jvm.Cond.instanceMethod ({ cls := "Runweaver$Row", name := "firstPlaceOf", desc := "(I)I" } : Jvm.MethodName)) :: tS_3_956
def tS_3_954 : List Cond := (Jvm.Cond.methodLink "Runweaver" (199 : Nat) ({ cls := "Runweaver$Row", name := "firstPlaceOf", desc := "(I)I" } : Jvm.MethodName)) :: tS_3_955
def tS_3_953 : List Cond := (Jvm.Cond.code ({ cls := "Runweaver$Row", name := "lastPlaceOf", desc := "(I)I" } : Jvm.MethodName) prog_3_method_26_code (3 : Nat) (Option.some Jvm.ClassFile.FieldType.int)) :: tS_3_954
def tS_3_952 : List Cond := (Jvm.Cond.selects "Runweaver$Row" ({ cls := "Runweaver$Row", name := "lastPlaceOf", desc := "(I)I" } : Jvm.MethodName) ({ cls := "Runweaver$Row", name := "lastPlaceOf", desc := "(I)I" } : Jvm.MethodName)) :: tS_3_953
def tS_3_951 : List Cond := (Jvm.Cond.instanceMethod ({ cls := "Runweaver$Row", name := "lastPlaceOf", desc := "(I)I" } : Jvm.MethodName)) :: tS_3_952
def tS_3_950 : List Cond := (Jvm.Cond.methodLink "Runweaver" (196 : Nat) ({ cls := "Runweaver$Row", name := "lastPlaceOf", desc := "(I)I" } : Jvm.MethodName)) :: tS_3_951
def tS_3_949 : List Cond := (Jvm.Cond.code ({ cls := "Runweaver", name := "first", desc := "(IIZ)I" } : Jvm.MethodName) prog_1_method_36_code (5 : Nat) (Option.some Jvm.ClassFile.FieldType.int)) :: tS_3_950
def tS_3_948 : List Cond := (Jvm.Cond.selects "Runweaver" ({ cls := "Runweaver", name := "first", desc := "(IIZ)I" } : Jvm.MethodName) ({ cls := "Runweaver", name := "first", desc := "(IIZ)I" } : Jvm.MethodName)) :: tS_3_949
def tS_3_947 : List Cond := (Jvm.Cond.instanceMethod ({ cls := "Runweaver", name := "first", desc := "(IIZ)I" } : Jvm.MethodName)) :: tS_3_948
def tS_3_946 : List Cond := (Jvm.Cond.methodLink "RunweaverLaw" (131 : Nat) ({ cls := "Runweaver", name := "first", desc := "(IIZ)I" } : Jvm.MethodName)) :: tS_3_947
def tS_3_945 : List Cond := (Jvm.Cond.codeWith ({ cls := "RunweaverLaw", name := "first", desc := "(LRunweaver;IIZLRunweaverLaw$Out;)I" } : Jvm.MethodName) method_36_code (6 : Nat) (Option.some Jvm.ClassFile.FieldType.int) [((0 : Nat), (13 : Nat), (16 : Nat), (19 : Nat)), ((0 : Nat), (13 : Nat), (20 : Nat), (21 : Nat))]) :: tS_3_946
def tS_3_944 : List Cond := (Jvm.Cond.static ({ cls := "RunweaverLaw", name := "first", desc := "(LRunweaver;IIZLRunweaverLaw$Out;)I" } : Jvm.MethodName)) :: tS_3_945
def tS_3_943 : List Cond := (Jvm.Cond.methodLink "RunweaverLaw" (274 : Nat) ({ cls := "RunweaverLaw", name := "first", desc := "(LRunweaver;IIZLRunweaverLaw$Out;)I" } : Jvm.MethodName)) :: tS_3_944
def tS_3_942 : List Cond := (Jvm.Cond.code ({ cls := "Runweaver$Row", name := "itemsBelow", desc := "(I)I" } : Jvm.MethodName) prog_3_method_24_code (4 : Nat) (Option.some Jvm.ClassFile.FieldType.int)) :: tS_3_943
def tS_3_941 : List Cond := (Jvm.Cond.selects "Runweaver$Row" ({ cls := "Runweaver$Row", name := "itemsBelow", desc := "(I)I" } : Jvm.MethodName) ({ cls := "Runweaver$Row", name := "itemsBelow", desc := "(I)I" } : Jvm.MethodName)) :: tS_3_942
def tS_3_940 : List Cond := (Jvm.Cond.instanceMethod ({ cls := "Runweaver$Row", name := "itemsBelow", desc := "(I)I" } : Jvm.MethodName)) :: tS_3_941
def tS_3_939 : List Cond := (Jvm.Cond.methodLink "Runweaver" (193 : Nat) ({ cls := "Runweaver$Row", name := "itemsBelow", desc := "(I)I" } : Jvm.MethodName)) :: tS_3_940
def tS_3_938 : List Cond := (Jvm.Cond.code ({ cls := "Runweaver", name := "below", desc := "(II)I" } : Jvm.MethodName) prog_1_method_35_code (4 : Nat) (Option.some Jvm.ClassFile.FieldType.int)) :: tS_3_939
def tS_3_937 : List Cond := (Jvm.Cond.selects "Runweaver" ({ cls := "Runweaver", name := "below", desc := "(II)I" } : Jvm.MethodName) ({ cls := "Runweaver", name := "below", desc := "(II)I" } : Jvm.MethodName)) :: tS_3_938
def tS_3_936 : List Cond := (Jvm.Cond.instanceMethod ({ cls := "Runweaver", name := "below", desc := "(II)I" } : Jvm.MethodName)) :: tS_3_937
def tS_3_935 : List Cond := (Jvm.Cond.methodLink "RunweaverLaw" (128 : Nat) ({ cls := "Runweaver", name := "below", desc := "(II)I" } : Jvm.MethodName)) :: tS_3_936
def tS_3_934 : List Cond := (Jvm.Cond.codeWith ({ cls := "RunweaverLaw", name := "below", desc := "(LRunweaver;IILRunweaverLaw$Out;)I" } : Jvm.MethodName) method_35_code (5 : Nat) (Option.some Jvm.ClassFile.FieldType.int) [((0 : Nat), (11 : Nat), (14 : Nat), (19 : Nat)), ((0 : Nat), (11 : Nat), (18 : Nat), (21 : Nat))]) :: tS_3_935
def tS_3_933 : List Cond := (Jvm.Cond.static ({ cls := "RunweaverLaw", name := "below", desc := "(LRunweaver;IILRunweaverLaw$Out;)I" } : Jvm.MethodName)) :: tS_3_934
def tS_3_932 : List Cond := (Jvm.Cond.methodLink "RunweaverLaw" (271 : Nat) ({ cls := "RunweaverLaw", name := "below", desc := "(LRunweaver;IILRunweaverLaw$Out;)I" } : Jvm.MethodName)) :: tS_3_933
def tS_3_931 : List Cond := (Jvm.Cond.code ({ cls := "Runweaver$Row", name := "itemsWith", desc := "(I)I" } : Jvm.MethodName) prog_3_method_23_code (4 : Nat) (Option.some Jvm.ClassFile.FieldType.int)) :: tS_3_932
def tS_3_930 : List Cond := (Jvm.Cond.selects "Runweaver$Row" ({ cls := "Runweaver$Row", name := "itemsWith", desc := "(I)I" } : Jvm.MethodName) ({ cls := "Runweaver$Row", name := "itemsWith", desc := "(I)I" } : Jvm.MethodName)) :: tS_3_931
def tS_3_929 : List Cond := (Jvm.Cond.instanceMethod ({ cls := "Runweaver$Row", name := "itemsWith", desc := "(I)I" } : Jvm.MethodName)) :: tS_3_930
def tS_3_928 : List Cond := (Jvm.Cond.methodLink "Runweaver" (190 : Nat) ({ cls := "Runweaver$Row", name := "itemsWith", desc := "(I)I" } : Jvm.MethodName)) :: tS_3_929
def tS_3_927 : List Cond := (Jvm.Cond.code ({ cls := "Runweaver", name := "count", desc := "(II)I" } : Jvm.MethodName) prog_1_method_34_code (4 : Nat) (Option.some Jvm.ClassFile.FieldType.int)) :: tS_3_928
def tS_3_926 : List Cond := (Jvm.Cond.selects "Runweaver" ({ cls := "Runweaver", name := "count", desc := "(II)I" } : Jvm.MethodName) ({ cls := "Runweaver", name := "count", desc := "(II)I" } : Jvm.MethodName)) :: tS_3_927
def tS_3_925 : List Cond := (Jvm.Cond.instanceMethod ({ cls := "Runweaver", name := "count", desc := "(II)I" } : Jvm.MethodName)) :: tS_3_926
def tS_3_924 : List Cond := (Jvm.Cond.methodLink "RunweaverLaw" (125 : Nat) ({ cls := "Runweaver", name := "count", desc := "(II)I" } : Jvm.MethodName)) :: tS_3_925
def tS_3_923 : List Cond := (Jvm.Cond.codeWith ({ cls := "RunweaverLaw", name := "count", desc := "(LRunweaver;IILRunweaverLaw$Out;)I" } : Jvm.MethodName) method_34_code (5 : Nat) (Option.some Jvm.ClassFile.FieldType.int) [((0 : Nat), (11 : Nat), (14 : Nat), (19 : Nat)), ((0 : Nat), (11 : Nat), (18 : Nat), (21 : Nat))]) :: tS_3_924
def tS_3_922 : List Cond := (Jvm.Cond.static ({ cls := "RunweaverLaw", name := "count", desc := "(LRunweaver;IILRunweaverLaw$Out;)I" } : Jvm.MethodName)) :: tS_3_923
def tS_3_921 : List Cond := (Jvm.Cond.methodLink "RunweaverLaw" (268 : Nat) ({ cls := "RunweaverLaw", name := "count", desc := "(LRunweaver;IILRunweaverLaw$Out;)I" } : Jvm.MethodName)) :: tS_3_922
def tS_3_920 : List Cond := (Jvm.Cond.methodLink "RunweaverLaw" (122 : Nat) ({ cls := "Runweaver", name := "longest", desc := "(I)I" } : Jvm.MethodName)) :: tS_3_921
def tS_3_919 : List Cond := (Jvm.Cond.codeWith ({ cls := "RunweaverLaw", name := "longest", desc := "(LRunweaver;ILRunweaverLaw$Out;)I" } : Jvm.MethodName) method_33_code (4 : Nat) (Option.some Jvm.ClassFile.FieldType.int) [((0 : Nat), (10 : Nat), (13 : Nat), (19 : Nat))]) :: tS_3_920
def tS_3_918 : List Cond := (Jvm.Cond.static ({ cls := "RunweaverLaw", name := "longest", desc := "(LRunweaver;ILRunweaverLaw$Out;)I" } : Jvm.MethodName)) :: tS_3_919
def tS_3_917 : List Cond := (Jvm.Cond.methodLink "RunweaverLaw" (265 : Nat) ({ cls := "RunweaverLaw", name := "longest", desc := "(LRunweaver;ILRunweaverLaw$Out;)I" } : Jvm.MethodName)) :: tS_3_918
def tS_3_916 : List Cond := (Jvm.Cond.methodLink "RunweaverLaw" (119 : Nat) ({ cls := "Runweaver", name := "runs", desc := "(I)I" } : Jvm.MethodName)) :: tS_3_917
def tS_3_915 : List Cond := (Jvm.Cond.codeWith ({ cls := "RunweaverLaw", name := "runs", desc := "(LRunweaver;ILRunweaverLaw$Out;)I" } : Jvm.MethodName) method_32_code (4 : Nat) (Option.some Jvm.ClassFile.FieldType.int) [((0 : Nat), (10 : Nat), (13 : Nat), (19 : Nat))]) :: tS_3_916
def tS_3_914 : List Cond := (Jvm.Cond.static ({ cls := "RunweaverLaw", name := "runs", desc := "(LRunweaver;ILRunweaverLaw$Out;)I" } : Jvm.MethodName)) :: tS_3_915
def tS_3_913 : List Cond := (Jvm.Cond.methodLink "RunweaverLaw" (262 : Nat) ({ cls := "RunweaverLaw", name := "runs", desc := "(LRunweaver;ILRunweaverLaw$Out;)I" } : Jvm.MethodName)) :: tS_3_914
def tS_3_912 : List Cond := (Jvm.Cond.methodLink "RunweaverLaw" (116 : Nat) ({ cls := "Runweaver", name := "ties", desc := "(I)I" } : Jvm.MethodName)) :: tS_3_913
def tS_3_911 : List Cond := (Jvm.Cond.codeWith ({ cls := "RunweaverLaw", name := "ties", desc := "(LRunweaver;ILRunweaverLaw$Out;)I" } : Jvm.MethodName) method_31_code (4 : Nat) (Option.some Jvm.ClassFile.FieldType.int) [((0 : Nat), (10 : Nat), (13 : Nat), (19 : Nat))]) :: tS_3_912
def tS_3_910 : List Cond := (Jvm.Cond.static ({ cls := "RunweaverLaw", name := "ties", desc := "(LRunweaver;ILRunweaverLaw$Out;)I" } : Jvm.MethodName)) :: tS_3_911
def tS_3_909 : List Cond := (Jvm.Cond.methodLink "RunweaverLaw" (259 : Nat) ({ cls := "RunweaverLaw", name := "ties", desc := "(LRunweaver;ILRunweaverLaw$Out;)I" } : Jvm.MethodName)) :: tS_3_910
def tS_3_908 : List Cond := (Jvm.Cond.code ({ cls := "Runweaver", name := "right", desc := "(I)I" } : Jvm.MethodName) prog_1_method_30_code (2 : Nat) (Option.some Jvm.ClassFile.FieldType.int)) :: tS_3_909
def tS_3_907 : List Cond := (Jvm.Cond.selects "Runweaver" ({ cls := "Runweaver", name := "right", desc := "(I)I" } : Jvm.MethodName) ({ cls := "Runweaver", name := "right", desc := "(I)I" } : Jvm.MethodName)) :: tS_3_908
def tS_3_906 : List Cond := (Jvm.Cond.instanceMethod ({ cls := "Runweaver", name := "right", desc := "(I)I" } : Jvm.MethodName)) :: tS_3_907
def tS_3_905 : List Cond := (Jvm.Cond.methodLink "RunweaverLaw" (113 : Nat) ({ cls := "Runweaver", name := "right", desc := "(I)I" } : Jvm.MethodName)) :: tS_3_906
def tS_3_904 : List Cond := (Jvm.Cond.codeWith ({ cls := "RunweaverLaw", name := "right", desc := "(LRunweaver;ILRunweaverLaw$Out;)I" } : Jvm.MethodName) method_30_code (4 : Nat) (Option.some Jvm.ClassFile.FieldType.int) [((0 : Nat), (10 : Nat), (13 : Nat), (19 : Nat))]) :: tS_3_905
def tS_3_903 : List Cond := (Jvm.Cond.static ({ cls := "RunweaverLaw", name := "right", desc := "(LRunweaver;ILRunweaverLaw$Out;)I" } : Jvm.MethodName)) :: tS_3_904
def tS_3_902 : List Cond := (Jvm.Cond.methodLink "RunweaverLaw" (256 : Nat) ({ cls := "RunweaverLaw", name := "right", desc := "(LRunweaver;ILRunweaverLaw$Out;)I" } : Jvm.MethodName)) :: tS_3_903
def tS_3_901 : List Cond := (Jvm.Cond.methodLink "RunweaverLaw" (110 : Nat) ({ cls := "Runweaver", name := "wrong", desc := "(II)I" } : Jvm.MethodName)) :: tS_3_902
def tS_3_900 : List Cond := (Jvm.Cond.codeWith ({ cls := "RunweaverLaw", name := "wrong", desc := "(LRunweaver;IILRunweaverLaw$Out;)I" } : Jvm.MethodName) method_29_code (5 : Nat) (Option.some Jvm.ClassFile.FieldType.int) [((0 : Nat), (11 : Nat), (14 : Nat), (19 : Nat)), ((0 : Nat), (11 : Nat), (18 : Nat), (21 : Nat))]) :: tS_3_901
def tS_3_899 : List Cond := (Jvm.Cond.static ({ cls := "RunweaverLaw", name := "wrong", desc := "(LRunweaver;IILRunweaverLaw$Out;)I" } : Jvm.MethodName)) :: tS_3_900
def tS_3_898 : List Cond := (Jvm.Cond.methodLink "RunweaverLaw" (253 : Nat) ({ cls := "RunweaverLaw", name := "wrong", desc := "(LRunweaver;IILRunweaverLaw$Out;)I" } : Jvm.MethodName)) :: tS_3_899
def tS_3_897 : List Cond := (Jvm.Cond.code ({ cls := "Runweaver$Row", name := "keepsStamps", desc := "()Z" } : Jvm.MethodName) prog_3_method_14_code (2 : Nat) (Option.some Jvm.ClassFile.FieldType.boolean)) :: tS_3_898
def tS_3_896 : List Cond := (Jvm.Cond.selects "Runweaver$Row" ({ cls := "Runweaver$Row", name := "keepsStamps", desc := "()Z" } : Jvm.MethodName) ({ cls := "Runweaver$Row", name := "keepsStamps", desc := "()Z" } : Jvm.MethodName)) :: tS_3_897
def tS_3_895 : List Cond := (Jvm.Cond.instanceMethod ({ cls := "Runweaver$Row", name := "keepsStamps", desc := "()Z" } : Jvm.MethodName)) :: tS_3_896
def tS_3_894 : List Cond := (Jvm.Cond.methodLink "Runweaver" (172 : Nat) ({ cls := "Runweaver$Row", name := "keepsStamps", desc := "()Z" } : Jvm.MethodName)) :: tS_3_895
def tS_3_893 : List Cond := (Jvm.Cond.code ({ cls := "Runweaver", name := "isKept", desc := "(I)Z" } : Jvm.MethodName) prog_1_method_28_code (2 : Nat) (Option.some Jvm.ClassFile.FieldType.boolean)) :: tS_3_894
def tS_3_892 : List Cond := (Jvm.Cond.selects "Runweaver" ({ cls := "Runweaver", name := "isKept", desc := "(I)Z" } : Jvm.MethodName) ({ cls := "Runweaver", name := "isKept", desc := "(I)Z" } : Jvm.MethodName)) :: tS_3_893
def tS_3_891 : List Cond := (Jvm.Cond.instanceMethod ({ cls := "Runweaver", name := "isKept", desc := "(I)Z" } : Jvm.MethodName)) :: tS_3_892
def tS_3_890 : List Cond := (Jvm.Cond.methodLink "RunweaverLaw" (107 : Nat) ({ cls := "Runweaver", name := "isKept", desc := "(I)Z" } : Jvm.MethodName)) :: tS_3_891
def tS_3_889 : List Cond := (Jvm.Cond.codeWith ({ cls := "RunweaverLaw", name := "isKept", desc := "(LRunweaver;ILRunweaverLaw$Out;)I" } : Jvm.MethodName) method_28_code (4 : Nat) (Option.some Jvm.ClassFile.FieldType.int) [((0 : Nat), (17 : Nat), (20 : Nat), (19 : Nat))]) :: tS_3_890
def tS_3_888 : List Cond := (Jvm.Cond.static ({ cls := "RunweaverLaw", name := "isKept", desc := "(LRunweaver;ILRunweaverLaw$Out;)I" } : Jvm.MethodName)) :: tS_3_889
def tS_3_887 : List Cond := (Jvm.Cond.methodLink "RunweaverLaw" (250 : Nat) ({ cls := "RunweaverLaw", name := "isKept", desc := "(LRunweaver;ILRunweaverLaw$Out;)I" } : Jvm.MethodName)) :: tS_3_888
def tS_3_886 : List Cond := (Jvm.Cond.code ({ cls := "Runweaver$Row", name := "fallsThroughout", desc := "()Z" } : Jvm.MethodName) prog_3_method_13_code (2 : Nat) (Option.some Jvm.ClassFile.FieldType.boolean)) :: tS_3_887
def tS_3_885 : List Cond := (Jvm.Cond.selects "Runweaver$Row" ({ cls := "Runweaver$Row", name := "fallsThroughout", desc := "()Z" } : Jvm.MethodName) ({ cls := "Runweaver$Row", name := "fallsThroughout", desc := "()Z" } : Jvm.MethodName)) :: tS_3_886
def tS_3_884 : List Cond := (Jvm.Cond.instanceMethod ({ cls := "Runweaver$Row", name := "fallsThroughout", desc := "()Z" } : Jvm.MethodName)) :: tS_3_885
def tS_3_883 : List Cond := (Jvm.Cond.methodLink "Runweaver" (169 : Nat) ({ cls := "Runweaver$Row", name := "fallsThroughout", desc := "()Z" } : Jvm.MethodName)) :: tS_3_884
def tS_3_882 : List Cond := (Jvm.Cond.code ({ cls := "Runweaver", name := "isFalling", desc := "(I)Z" } : Jvm.MethodName) prog_1_method_27_code (2 : Nat) (Option.some Jvm.ClassFile.FieldType.boolean)) :: tS_3_883
def tS_3_881 : List Cond := (Jvm.Cond.selects "Runweaver" ({ cls := "Runweaver", name := "isFalling", desc := "(I)Z" } : Jvm.MethodName) ({ cls := "Runweaver", name := "isFalling", desc := "(I)Z" } : Jvm.MethodName)) :: tS_3_882
def tS_3_880 : List Cond := (Jvm.Cond.instanceMethod ({ cls := "Runweaver", name := "isFalling", desc := "(I)Z" } : Jvm.MethodName)) :: tS_3_881
def tS_3_879 : List Cond := (Jvm.Cond.methodLink "RunweaverLaw" (104 : Nat) ({ cls := "Runweaver", name := "isFalling", desc := "(I)Z" } : Jvm.MethodName)) :: tS_3_880
def tS_3_878 : List Cond := (Jvm.Cond.codeWith ({ cls := "RunweaverLaw", name := "isFalling", desc := "(LRunweaver;ILRunweaverLaw$Out;)I" } : Jvm.MethodName) method_27_code (4 : Nat) (Option.some Jvm.ClassFile.FieldType.int) [((0 : Nat), (17 : Nat), (20 : Nat), (19 : Nat))]) :: tS_3_879
def tS_3_877 : List Cond := (Jvm.Cond.static ({ cls := "RunweaverLaw", name := "isFalling", desc := "(LRunweaver;ILRunweaverLaw$Out;)I" } : Jvm.MethodName)) :: tS_3_878
def tS_3_876 : List Cond := (Jvm.Cond.methodLink "RunweaverLaw" (247 : Nat) ({ cls := "RunweaverLaw", name := "isFalling", desc := "(LRunweaver;ILRunweaverLaw$Out;)I" } : Jvm.MethodName)) :: tS_3_877
def tS_3_875 : List Cond := (Jvm.Cond.code ({ cls := "Runweaver", name := "isSorted", desc := "(I)Z" } : Jvm.MethodName) prog_1_method_26_code (2 : Nat) (Option.some Jvm.ClassFile.FieldType.boolean)) :: tS_3_876
def tS_3_874 : List Cond := (Jvm.Cond.selects "Runweaver" ({ cls := "Runweaver", name := "isSorted", desc := "(I)Z" } : Jvm.MethodName) ({ cls := "Runweaver", name := "isSorted", desc := "(I)Z" } : Jvm.MethodName)) :: tS_3_875
def tS_3_873 : List Cond := (Jvm.Cond.instanceMethod ({ cls := "Runweaver", name := "isSorted", desc := "(I)Z" } : Jvm.MethodName)) :: tS_3_874
def tS_3_872 : List Cond := (Jvm.Cond.methodLink "RunweaverLaw" (100 : Nat) ({ cls := "Runweaver", name := "isSorted", desc := "(I)Z" } : Jvm.MethodName)) :: tS_3_873
def tS_3_871 : List Cond := (Jvm.Cond.codeWith ({ cls := "RunweaverLaw", name := "isSorted", desc := "(LRunweaver;ILRunweaverLaw$Out;)I" } : Jvm.MethodName) method_26_code (4 : Nat) (Option.some Jvm.ClassFile.FieldType.int) [((0 : Nat), (17 : Nat), (20 : Nat), (19 : Nat))]) :: tS_3_872
def tS_3_870 : List Cond := (Jvm.Cond.static ({ cls := "RunweaverLaw", name := "isSorted", desc := "(LRunweaver;ILRunweaverLaw$Out;)I" } : Jvm.MethodName)) :: tS_3_871
def tS_3_869 : List Cond := (Jvm.Cond.methodLink "RunweaverLaw" (244 : Nat) ({ cls := "RunweaverLaw", name := "isSorted", desc := "(LRunweaver;ILRunweaverLaw$Out;)I" } : Jvm.MethodName)) :: tS_3_870
def tS_3_868 : List Cond := (Jvm.Cond.superclass "java/lang/String" "java/lang/Object") :: tS_3_869
def tS_3_867 : List Cond := (Jvm.Cond.soleField "java/lang/String" "hashIsZero") :: tS_3_868
def tS_3_866 : List Cond := (Jvm.Cond.lays "java/lang/String" "java/lang/String" "hashIsZero" "Z") :: tS_3_867
def tS_3_865 : List Cond := (Jvm.Cond.soleField "java/lang/String" "hash") :: tS_3_866
def tS_3_864 : List Cond := (Jvm.Cond.lays "java/lang/String" "java/lang/String" "hash" "I") :: tS_3_865
def tS_3_863 : List Cond := (Jvm.Cond.soleField "java/lang/String" "coder") :: tS_3_864
def tS_3_862 : List Cond := (Jvm.Cond.laysFinal "java/lang/String" "java/lang/String" "coder" "B") :: tS_3_863
def tS_3_861 : List Cond := (Jvm.Cond.soleField "java/lang/String" "value") :: tS_3_862
def tS_3_860 : List Cond := (Jvm.Cond.laysFinal "java/lang/String" "java/lang/String" "value" "[B") :: tS_3_861
def tS_3_859 : List Cond := (Jvm.Cond.fieldLink "java/lang/String" (15 : Nat) "java/lang/String" "coder" "B") :: tS_3_860
def tS_3_858 : List Cond := (Jvm.Cond.fieldLink "java/lang/String" (9 : Nat) "java/lang/String" "value" "[B") :: tS_3_859
def tS_3_857 : List Cond := (Jvm.Cond.code ({ cls := "java/lang/StringUTF16", name := "coderFromArrayLen", desc := "([BI)B" } : Jvm.MethodName) prog_18_method_15_code (2 : Nat) (Option.some Jvm.ClassFile.FieldType.byte)) :: tS_3_858
def tS_3_856 : List Cond := (Jvm.Cond.static ({ cls := "java/lang/StringUTF16", name := "coderFromArrayLen", desc := "([BI)B" } : Jvm.MethodName)) :: tS_3_857
def tS_3_855 : List Cond := (Jvm.Cond.methodLink "java/lang/String" (47 : Nat) ({ cls := "java/lang/StringUTF16", name := "coderFromArrayLen", desc := "([BI)B" } : Jvm.MethodName)) :: tS_3_856
def tS_3_854 : List Cond := (Jvm.Cond.methodLink "java/lang/StringUTF16" (126 : Nat) ({ cls := "java/util/Arrays", name := "copyOfRange", desc := "([BII)[B" } : Jvm.MethodName)) :: tS_3_855
def tS_3_853 : List Cond := (Jvm.Cond.code ({ cls := "java/lang/StringUTF16", name := "getChar", desc := "([BI)C" } : Jvm.MethodName) prog_18_method_5_code (2 : Nat) (Option.some Jvm.ClassFile.FieldType.char)) :: tS_3_854
def tS_3_852 : List Cond := (Jvm.Cond.static ({ cls := "java/lang/StringUTF16", name := "getChar", desc := "([BI)C" } : Jvm.MethodName)) :: tS_3_853
def tS_3_851 : List Cond := (Jvm.Cond.methodLink "java/lang/StringUTF16" (71 : Nat) ({ cls := "java/lang/StringUTF16", name := "getChar", desc := "([BI)C" } : Jvm.MethodName)) :: tS_3_852
def tS_3_850 : List Cond := (Jvm.Cond.code ({ cls := "java/lang/StringUTF16", name := "compress", desc := "([BI[BII)I" } : Jvm.MethodName) prog_18_method_22_code (7 : Nat) (Option.some Jvm.ClassFile.FieldType.int)) :: tS_3_851
def tS_3_849 : List Cond := (Jvm.Cond.static ({ cls := "java/lang/StringUTF16", name := "compress", desc := "([BI[BII)I" } : Jvm.MethodName)) :: tS_3_850
def tS_3_848 : List Cond := (Jvm.Cond.methodLink "java/lang/StringUTF16" (123 : Nat) ({ cls := "java/lang/StringUTF16", name := "compress", desc := "([BI[BII)I" } : Jvm.MethodName)) :: tS_3_849
def tS_3_847 : List Cond := (Jvm.Cond.code ({ cls := "java/lang/StringUTF16", name := "compress", desc := "([BII)[B" } : Jvm.MethodName) prog_18_method_17_code (6 : Nat) (Option.some (Jvm.ClassFile.FieldType.array Jvm.ClassFile.FieldType.byte))) :: tS_3_848
def tS_3_846 : List Cond := (Jvm.Cond.static ({ cls := "java/lang/StringUTF16", name := "compress", desc := "([BII)[B" } : Jvm.MethodName)) :: tS_3_847
def tS_3_845 : List Cond := (Jvm.Cond.methodLink "java/lang/String" (1051 : Nat) ({ cls := "java/lang/StringUTF16", name := "compress", desc := "([BII)[B" } : Jvm.MethodName)) :: tS_3_846
def tS_3_844 : List Cond := (Jvm.Cond.methodLink "java/util/Arrays" (65 : Nat) ({ cls := "java/lang/IllegalArgumentException", name := "<init>", desc := "(Ljava/lang/String;)V" } : Jvm.MethodName)) :: tS_3_845
def tS_3_843 : List Cond := (Jvm.Cond.methodLink "java/util/Arrays" (61 : Nat) ({ cls := "java/lang/StringBuilder", name := "toString", desc := "()Ljava/lang/String;" } : Jvm.MethodName)) :: tS_3_844
def tS_3_842 : List Cond := (Jvm.Cond.methodLink "java/lang/String" (106 : Nat) ({ cls := "java/lang/StringLatin1", name := "inflate", desc := "([BI[BII)V" } : Jvm.MethodName)) :: tS_3_843
def tS_3_841 : List Cond := (Jvm.Cond.methodLink "java/lang/String" (212 : Nat) ({ cls := "java/lang/System", name := "arraycopy", desc := "(Ljava/lang/Object;ILjava/lang/Object;II)V" } : Jvm.MethodName)) :: tS_3_842
def tS_3_840 : List Cond := (Jvm.Cond.code ({ cls := "java/lang/String", name := "getBytes", desc := "([BIB)V" } : Jvm.MethodName) prog_15_method_147_code (4 : Nat) (Option.none : Option Jvm.ClassFile.FieldType)) :: tS_3_841
def tS_3_839 : List Cond := (Jvm.Cond.selects "java/lang/String" ({ cls := "java/lang/String", name := "getBytes", desc := "([BIB)V" } : Jvm.MethodName) ({ cls := "java/lang/String", name := "getBytes", desc := "([BIB)V" } : Jvm.MethodName)) :: tS_3_840
def tS_3_838 : List Cond := (Jvm.Cond.instanceMethod ({ cls := "java/lang/String", name := "getBytes", desc := "([BIB)V" } : Jvm.MethodName)) :: tS_3_839
def tS_3_837 : List Cond := (Jvm.Cond.methodLink "java/lang/AbstractStringBuilder" (399 : Nat) ({ cls := "java/lang/String", name := "getBytes", desc := "([BIB)V" } : Jvm.MethodName)) :: tS_3_838
def tS_3_836 : List Cond := (Jvm.Cond.methodLink "java/lang/AbstractStringBuilder" (40 : Nat) ({ cls := "java/lang/String", name := "coder", desc := "()B" } : Jvm.MethodName)) :: tS_3_837
def tS_3_835 : List Cond := (Jvm.Cond.code ({ cls := "java/lang/AbstractStringBuilder", name := "inflateIfNeededFor", desc := "(Ljava/lang/String;)V" } : Jvm.MethodName) prog_7_method_71_code (2 : Nat) (Option.none : Option Jvm.ClassFile.FieldType)) :: tS_3_836
def tS_3_834 : List Cond := (Jvm.Cond.instanceMethod ({ cls := "java/lang/AbstractStringBuilder", name := "inflateIfNeededFor", desc := "(Ljava/lang/String;)V" } : Jvm.MethodName)) :: tS_3_835
def tS_3_833 : List Cond := (Jvm.Cond.privateMethod ({ cls := "java/lang/AbstractStringBuilder", name := "inflateIfNeededFor", desc := "(Ljava/lang/String;)V" } : Jvm.MethodName)) :: tS_3_834
def tS_3_832 : List Cond := (Jvm.Cond.methodLink "java/lang/AbstractStringBuilder" (397 : Nat) ({ cls := "java/lang/AbstractStringBuilder", name := "inflateIfNeededFor", desc := "(Ljava/lang/String;)V" } : Jvm.MethodName)) :: tS_3_833
def tS_3_831 : List Cond := (Jvm.Cond.code ({ cls := "java/lang/AbstractStringBuilder", name := "putStringAt", desc := "(ILjava/lang/String;)V" } : Jvm.MethodName) prog_7_method_73_code (3 : Nat) (Option.none : Option Jvm.ClassFile.FieldType)) :: tS_3_832
def tS_3_830 : List Cond := (Jvm.Cond.instanceMethod ({ cls := "java/lang/AbstractStringBuilder", name := "putStringAt", desc := "(ILjava/lang/String;)V" } : Jvm.MethodName)) :: tS_3_831
def tS_3_829 : List Cond := (Jvm.Cond.privateMethod ({ cls := "java/lang/AbstractStringBuilder", name := "putStringAt", desc := "(ILjava/lang/String;)V" } : Jvm.MethodName)) :: tS_3_830
def tS_3_828 : List Cond := (Jvm.Cond.methodLink "java/lang/AbstractStringBuilder" (208 : Nat) ({ cls := "java/lang/AbstractStringBuilder", name := "putStringAt", desc := "(ILjava/lang/String;)V" } : Jvm.MethodName)) :: tS_3_829
def tS_3_827 : List Cond := (Jvm.Cond.fieldLink "java/lang/String" (38 : Nat) "java/lang/String" "COMPACT_STRINGS" "Z") :: tS_3_828
def tS_3_826 : List Cond := (Jvm.Cond.code ({ cls := "java/lang/String", name := "coder", desc := "()B" } : Jvm.MethodName) prog_15_method_152_code (1 : Nat) (Option.some Jvm.ClassFile.FieldType.byte)) :: tS_3_827
def tS_3_825 : List Cond := (Jvm.Cond.selects "java/lang/String" ({ cls := "java/lang/String", name := "coder", desc := "()B" } : Jvm.MethodName) ({ cls := "java/lang/String", name := "coder", desc := "()B" } : Jvm.MethodName)) :: tS_3_826
def tS_3_824 : List Cond := (Jvm.Cond.instanceMethod ({ cls := "java/lang/String", name := "coder", desc := "()B" } : Jvm.MethodName)) :: tS_3_825
def tS_3_823 : List Cond := (Jvm.Cond.methodLink "java/lang/String" (335 : Nat) ({ cls := "java/lang/String", name := "coder", desc := "()B" } : Jvm.MethodName)) :: tS_3_824
def tS_3_822 : List Cond := (Jvm.Cond.code ({ cls := "java/lang/String", name := "length", desc := "()I" } : Jvm.MethodName) prog_15_method_54_code (1 : Nat) (Option.some Jvm.ClassFile.FieldType.int)) :: tS_3_823
def tS_3_821 : List Cond := (Jvm.Cond.selects "java/lang/String" ({ cls := "java/lang/String", name := "length", desc := "()I" } : Jvm.MethodName) ({ cls := "java/lang/String", name := "length", desc := "()I" } : Jvm.MethodName)) :: tS_3_822
def tS_3_820 : List Cond := (Jvm.Cond.instanceMethod ({ cls := "java/lang/String", name := "length", desc := "()I" } : Jvm.MethodName)) :: tS_3_821
def tS_3_819 : List Cond := (Jvm.Cond.methodLink "java/lang/AbstractStringBuilder" (32 : Nat) ({ cls := "java/lang/String", name := "length", desc := "()I" } : Jvm.MethodName)) :: tS_3_820
def tS_3_818 : List Cond := (Jvm.Cond.code ({ cls := "java/lang/StringUTF16", name := "putCharsAt", desc := "([BICCCC)I" } : Jvm.MethodName) prog_18_method_81_code (7 : Nat) (Option.some Jvm.ClassFile.FieldType.int)) :: tS_3_819
def tS_3_817 : List Cond := (Jvm.Cond.static ({ cls := "java/lang/StringUTF16", name := "putCharsAt", desc := "([BICCCC)I" } : Jvm.MethodName)) :: tS_3_818
def tS_3_816 : List Cond := (Jvm.Cond.methodLink "java/lang/AbstractStringBuilder" (226 : Nat) ({ cls := "java/lang/StringUTF16", name := "putCharsAt", desc := "([BICCCC)I" } : Jvm.MethodName)) :: tS_3_817
def tS_3_815 : List Cond := (Jvm.Cond.code ({ cls := "java/lang/AbstractStringBuilder", name := "appendNull", desc := "()Ljava/lang/AbstractStringBuilder;" } : Jvm.MethodName) prog_7_method_26_code (3 : Nat) (Option.some (Jvm.ClassFile.FieldType.object "java/lang/AbstractStringBuilder"))) :: tS_3_816
def tS_3_814 : List Cond := (Jvm.Cond.instanceMethod ({ cls := "java/lang/AbstractStringBuilder", name := "appendNull", desc := "()Ljava/lang/AbstractStringBuilder;" } : Jvm.MethodName)) :: tS_3_815
def tS_3_813 : List Cond := (Jvm.Cond.privateMethod ({ cls := "java/lang/AbstractStringBuilder", name := "appendNull", desc := "()Ljava/lang/AbstractStringBuilder;" } : Jvm.MethodName)) :: tS_3_814
def tS_3_812 : List Cond := (Jvm.Cond.methodLink "java/lang/AbstractStringBuilder" (204 : Nat) ({ cls := "java/lang/AbstractStringBuilder", name := "appendNull", desc := "()Ljava/lang/AbstractStringBuilder;" } : Jvm.MethodName)) :: tS_3_813
def tS_3_811 : List Cond := (Jvm.Cond.code ({ cls := "java/lang/AbstractStringBuilder", name := "append", desc := "(Ljava/lang/String;)Ljava/lang/AbstractStringBuilder;" } : Jvm.MethodName) prog_7_method_22_code (3 : Nat) (Option.some (Jvm.ClassFile.FieldType.object "java/lang/AbstractStringBuilder"))) :: tS_3_812
def tS_3_810 : List Cond := (Jvm.Cond.instanceMethod ({ cls := "java/lang/AbstractStringBuilder", name := "append", desc := "(Ljava/lang/String;)Ljava/lang/AbstractStringBuilder;" } : Jvm.MethodName)) :: tS_3_811
def tS_3_809 : List Cond := (Jvm.Cond.methodLink "java/lang/StringBuilder" (29 : Nat) ({ cls := "java/lang/AbstractStringBuilder", name := "append", desc := "(Ljava/lang/String;)Ljava/lang/AbstractStringBuilder;" } : Jvm.MethodName)) :: tS_3_810
def tS_3_808 : List Cond := (Jvm.Cond.code ({ cls := "java/lang/StringBuilder", name := "append", desc := "(Ljava/lang/String;)Ljava/lang/StringBuilder;" } : Jvm.MethodName) prog_16_method_7_code (2 : Nat) (Option.some (Jvm.ClassFile.FieldType.object "java/lang/StringBuilder"))) :: tS_3_809
def tS_3_807 : List Cond := (Jvm.Cond.selects "java/lang/StringBuilder" ({ cls := "java/lang/StringBuilder", name := "append", desc := "(Ljava/lang/String;)Ljava/lang/StringBuilder;" } : Jvm.MethodName) ({ cls := "java/lang/StringBuilder", name := "append", desc := "(Ljava/lang/String;)Ljava/lang/StringBuilder;" } : Jvm.MethodName)) :: tS_3_808
def tS_3_806 : List Cond := (Jvm.Cond.instanceMethod ({ cls := "java/lang/StringBuilder", name := "append", desc := "(Ljava/lang/String;)Ljava/lang/StringBuilder;" } : Jvm.MethodName)) :: tS_3_807
def tS_3_805 : List Cond := (Jvm.Cond.methodLink "java/util/Arrays" (50 : Nat) ({ cls := "java/lang/StringBuilder", name := "append", desc := "(Ljava/lang/String;)Ljava/lang/StringBuilder;" } : Jvm.MethodName)) :: tS_3_806
def tS_3_804 : List Cond := (Jvm.Cond.stringRef "java/util/Arrays" (337 : Nat) " > ") :: tS_3_805
def tS_3_803 : List Cond := (Jvm.Cond.methodLink "java/util/Arrays" (54 : Nat) ({ cls := "java/lang/StringBuilder", name := "append", desc := "(I)Ljava/lang/StringBuilder;" } : Jvm.MethodName)) :: tS_3_804
def tS_3_802 : List Cond := (Jvm.Cond.methodLink "java/util/Arrays" (47 : Nat) ({ cls := "java/lang/StringBuilder", name := "<init>", desc := "()V" } : Jvm.MethodName)) :: tS_3_803
def tS_3_801 : List Cond := (Jvm.Cond.classLink "java/util/Arrays" (45 : Nat) "java/lang/StringBuilder") :: tS_3_802
def tS_3_800 : List Cond := (Jvm.Cond.classLink "java/util/Arrays" (43 : Nat) "java/lang/IllegalArgumentException") :: tS_3_801
def tS_3_799 : List Cond := (Jvm.Cond.code ({ cls := "java/util/Arrays", name := "checkLength", desc := "(II)V" } : Jvm.MethodName) prog_21_method_131_code (2 : Nat) (Option.none : Option Jvm.ClassFile.FieldType)) :: tS_3_800
def tS_3_798 : List Cond := (Jvm.Cond.static ({ cls := "java/util/Arrays", name := "checkLength", desc := "(II)V" } : Jvm.MethodName)) :: tS_3_799
def tS_3_797 : List Cond := (Jvm.Cond.methodLink "java/util/Arrays" (343 : Nat) ({ cls := "java/util/Arrays", name := "checkLength", desc := "(II)V" } : Jvm.MethodName)) :: tS_3_798
def tS_3_796 : List Cond := (Jvm.Cond.code ({ cls := "java/util/Arrays", name := "copyOfRangeByte", desc := "([BII)[B" } : Jvm.MethodName) prog_21_method_133_code (5 : Nat) (Option.some (Jvm.ClassFile.FieldType.array Jvm.ClassFile.FieldType.byte))) :: tS_3_797
def tS_3_795 : List Cond := (Jvm.Cond.static ({ cls := "java/util/Arrays", name := "copyOfRangeByte", desc := "([BII)[B" } : Jvm.MethodName)) :: tS_3_796
def tS_3_794 : List Cond := (Jvm.Cond.methodLink "java/util/Arrays" (339 : Nat) ({ cls := "java/util/Arrays", name := "copyOfRangeByte", desc := "([BII)[B" } : Jvm.MethodName)) :: tS_3_795
def tS_3_793 : List Cond := (Jvm.Cond.code ({ cls := "java/util/Arrays", name := "copyOfRange", desc := "([BII)[B" } : Jvm.MethodName) prog_21_method_132_code (3 : Nat) (Option.some (Jvm.ClassFile.FieldType.array Jvm.ClassFile.FieldType.byte))) :: tS_3_794
def tS_3_792 : List Cond := (Jvm.Cond.static ({ cls := "java/util/Arrays", name := "copyOfRange", desc := "([BII)[B" } : Jvm.MethodName)) :: tS_3_793
def tS_3_791 : List Cond := (Jvm.Cond.methodLink "java/lang/String" (54 : Nat) ({ cls := "java/util/Arrays", name := "copyOfRange", desc := "([BII)[B" } : Jvm.MethodName)) :: tS_3_792
def tS_3_790 : List Cond := (Jvm.Cond.methodLink "java/lang/String" (1047 : Nat) ({ cls := "java/lang/AbstractStringBuilder", name := "isLatin1", desc := "()Z" } : Jvm.MethodName)) :: tS_3_791
def tS_3_789 : List Cond := (Jvm.Cond.code ({ cls := "java/lang/AbstractStringBuilder", name := "length", desc := "()I" } : Jvm.MethodName) prog_7_method_6_code (1 : Nat) (Option.some Jvm.ClassFile.FieldType.int)) :: tS_3_790
def tS_3_788 : List Cond := (Jvm.Cond.methodLink "java/lang/StringBuilder" (343 : Nat) ({ cls := "java/lang/AbstractStringBuilder", name := "length", desc := "()I" } : Jvm.MethodName)) :: tS_3_789
def tS_3_787 : List Cond := (Jvm.Cond.code ({ cls := "java/lang/StringBuilder", name := "length", desc := "()I" } : Jvm.MethodName) prog_16_method_93_code (1 : Nat) (Option.some Jvm.ClassFile.FieldType.int)) :: tS_3_788
def tS_3_786 : List Cond := (Jvm.Cond.instanceMethod ({ cls := "java/lang/StringBuilder", name := "length", desc := "()I" } : Jvm.MethodName)) :: tS_3_787
def tS_3_785 : List Cond := (Jvm.Cond.selects "java/lang/StringBuilder" ({ cls := "java/lang/AbstractStringBuilder", name := "length", desc := "()I" } : Jvm.MethodName) ({ cls := "java/lang/StringBuilder", name := "length", desc := "()I" } : Jvm.MethodName)) :: tS_3_786
def tS_3_784 : List Cond := (Jvm.Cond.sameMethod "java/lang/AbstractStringBuilder" "java/lang/AbstractStringBuilder" "length" "()I") :: tS_3_785
def tS_3_783 : List Cond := (Jvm.Cond.instanceMethod ({ cls := "java/lang/AbstractStringBuilder", name := "length", desc := "()I" } : Jvm.MethodName)) :: tS_3_784
def tS_3_782 : List Cond := (Jvm.Cond.methodLink "java/lang/String" (549 : Nat) ({ cls := "java/lang/AbstractStringBuilder", name := "length", desc := "()I" } : Jvm.MethodName)) :: tS_3_783
def tS_3_781 : List Cond := (Jvm.Cond.code ({ cls := "java/lang/AbstractStringBuilder", name := "getValue", desc := "()[B" } : Jvm.MethodName) prog_7_method_64_code (1 : Nat) (Option.some (Jvm.ClassFile.FieldType.array Jvm.ClassFile.FieldType.byte))) :: tS_3_782
def tS_3_780 : List Cond := (Jvm.Cond.selects "java/lang/StringBuilder" ({ cls := "java/lang/AbstractStringBuilder", name := "getValue", desc := "()[B" } : Jvm.MethodName) ({ cls := "java/lang/AbstractStringBuilder", name := "getValue", desc := "()[B" } : Jvm.MethodName)) :: tS_3_781
def tS_3_779 : List Cond := (Jvm.Cond.sameMethod "java/lang/AbstractStringBuilder" "java/lang/AbstractStringBuilder" "getValue" "()[B") :: tS_3_780
def tS_3_778 : List Cond := (Jvm.Cond.instanceMethod ({ cls := "java/lang/AbstractStringBuilder", name := "getValue", desc := "()[B" } : Jvm.MethodName)) :: tS_3_779
def tS_3_777 : List Cond := (Jvm.Cond.methodLink "java/lang/String" (552 : Nat) ({ cls := "java/lang/AbstractStringBuilder", name := "getValue", desc := "()[B" } : Jvm.MethodName)) :: tS_3_778
def tS_3_776 : List Cond := (Jvm.Cond.methodLink "java/lang/String" (1 : Nat) ({ cls := "java/lang/Object", name := "<init>", desc := "()V" } : Jvm.MethodName)) :: tS_3_777
def tS_3_775 : List Cond := (Jvm.Cond.code ({ cls := "java/lang/String", name := "<init>", desc := "(Ljava/lang/AbstractStringBuilder;Ljava/lang/Void;)V" } : Jvm.MethodName) prog_15_method_150_code (5 : Nat) (Option.none : Option Jvm.ClassFile.FieldType)) :: tS_3_776
def tS_3_774 : List Cond := (Jvm.Cond.instanceMethod ({ cls := "java/lang/String", name := "<init>", desc := "(Ljava/lang/AbstractStringBuilder;Ljava/lang/Void;)V" } : Jvm.MethodName)) :: tS_3_775
def tS_3_773 : List Cond := (Jvm.Cond.methodLink "java/lang/String" (489 : Nat) ({ cls := "java/lang/String", name := "<init>", desc := "(Ljava/lang/AbstractStringBuilder;Ljava/lang/Void;)V" } : Jvm.MethodName)) :: tS_3_774
def tS_3_772 : List Cond := (Jvm.Cond.code ({ cls := "java/lang/String", name := "<init>", desc := "(Ljava/lang/StringBuilder;)V" } : Jvm.MethodName) prog_15_method_53_code (2 : Nat) (Option.none : Option Jvm.ClassFile.FieldType)) :: tS_3_773
def tS_3_771 : List Cond := (Jvm.Cond.instanceMethod ({ cls := "java/lang/String", name := "<init>", desc := "(Ljava/lang/StringBuilder;)V" } : Jvm.MethodName)) :: tS_3_772
def tS_3_770 : List Cond := (Jvm.Cond.methodLink "java/lang/StringBuilder" (137 : Nat) ({ cls := "java/lang/String", name := "<init>", desc := "(Ljava/lang/StringBuilder;)V" } : Jvm.MethodName)) :: tS_3_771
def tS_3_769 : List Cond := (Jvm.Cond.instantiable "java/lang/String" (4 : Nat)) :: tS_3_770
def tS_3_768 : List Cond := (Jvm.Cond.classLink "java/lang/StringBuilder" (18 : Nat) "java/lang/String") :: tS_3_769
def tS_3_767 : List Cond := (Jvm.Cond.code ({ cls := "java/lang/StringBuilder", name := "toString", desc := "()Ljava/lang/String;" } : Jvm.MethodName) prog_16_method_42_code (1 : Nat) (Option.some (Jvm.ClassFile.FieldType.object "java/lang/String"))) :: tS_3_768
def tS_3_766 : List Cond := (Jvm.Cond.selects "java/lang/StringBuilder" ({ cls := "java/lang/StringBuilder", name := "toString", desc := "()Ljava/lang/String;" } : Jvm.MethodName) ({ cls := "java/lang/StringBuilder", name := "toString", desc := "()Ljava/lang/String;" } : Jvm.MethodName)) :: tS_3_767
def tS_3_765 : List Cond := (Jvm.Cond.instanceMethod ({ cls := "java/lang/StringBuilder", name := "toString", desc := "()Ljava/lang/String;" } : Jvm.MethodName)) :: tS_3_766
def tS_3_764 : List Cond := (Jvm.Cond.methodLink "Runweaver" (165 : Nat) ({ cls := "java/lang/StringBuilder", name := "toString", desc := "()Ljava/lang/String;" } : Jvm.MethodName)) :: tS_3_765
def tS_3_763 : List Cond := (Jvm.Cond.fieldLink "java/lang/StringUTF16" (407 : Nat) "java/lang/Integer" "DigitTens" "[B") :: tS_3_764
def tS_3_762 : List Cond := (Jvm.Cond.fieldLink "java/lang/StringUTF16" (403 : Nat) "java/lang/Integer" "DigitOnes" "[B") :: tS_3_763
def tS_3_761 : List Cond := (Jvm.Cond.code ({ cls := "java/lang/StringUTF16", name := "getChars", desc := "(II[B)I" } : Jvm.MethodName) prog_18_method_89_code (7 : Nat) (Option.some Jvm.ClassFile.FieldType.int)) :: tS_3_762
def tS_3_760 : List Cond := (Jvm.Cond.static ({ cls := "java/lang/StringUTF16", name := "getChars", desc := "(II[B)I" } : Jvm.MethodName)) :: tS_3_761
def tS_3_759 : List Cond := (Jvm.Cond.methodLink "java/lang/StringUTF16" (393 : Nat) ({ cls := "java/lang/StringUTF16", name := "getChars", desc := "(II[B)I" } : Jvm.MethodName)) :: tS_3_760
def tS_3_758 : List Cond := (Jvm.Cond.code ({ cls := "jdk/internal/util/Preconditions", name := "checkFromToIndex", desc := "(IIILjava/util/function/BiFunction;)I" } : Jvm.MethodName) prog_23_method_12_code (4 : Nat) (Option.some Jvm.ClassFile.FieldType.int)) :: tS_3_759
def tS_3_757 : List Cond := (Jvm.Cond.static ({ cls := "jdk/internal/util/Preconditions", name := "checkFromToIndex", desc := "(IIILjava/util/function/BiFunction;)I" } : Jvm.MethodName)) :: tS_3_758
def tS_3_756 : List Cond := (Jvm.Cond.methodLink "java/lang/String" (1062 : Nat) ({ cls := "jdk/internal/util/Preconditions", name := "checkFromToIndex", desc := "(IIILjava/util/function/BiFunction;)I" } : Jvm.MethodName)) :: tS_3_757
def tS_3_755 : List Cond := (Jvm.Cond.code ({ cls := "java/lang/String", name := "checkBoundsBeginEnd", desc := "(III)V" } : Jvm.MethodName) prog_15_method_158_code (3 : Nat) (Option.none : Option Jvm.ClassFile.FieldType)) :: tS_3_756
def tS_3_754 : List Cond := (Jvm.Cond.static ({ cls := "java/lang/String", name := "checkBoundsBeginEnd", desc := "(III)V" } : Jvm.MethodName)) :: tS_3_755
def tS_3_753 : List Cond := (Jvm.Cond.methodLink "java/lang/StringUTF16" (241 : Nat) ({ cls := "java/lang/String", name := "checkBoundsBeginEnd", desc := "(III)V" } : Jvm.MethodName)) :: tS_3_754
def tS_3_752 : List Cond := (Jvm.Cond.code ({ cls := "java/lang/StringUTF16", name := "checkBoundsBeginEnd", desc := "(II[B)V" } : Jvm.MethodName) prog_18_method_93_code (3 : Nat) (Option.none : Option Jvm.ClassFile.FieldType)) :: tS_3_753
def tS_3_751 : List Cond := (Jvm.Cond.static ({ cls := "java/lang/StringUTF16", name := "checkBoundsBeginEnd", desc := "(II[B)V" } : Jvm.MethodName)) :: tS_3_752
def tS_3_750 : List Cond := (Jvm.Cond.methodLink "java/lang/StringUTF16" (96 : Nat) ({ cls := "java/lang/StringUTF16", name := "checkBoundsBeginEnd", desc := "(II[B)V" } : Jvm.MethodName)) :: tS_3_751
def tS_3_749 : List Cond := (Jvm.Cond.code ({ cls := "java/lang/StringUTF16", name := "getChars", desc := "(III[B)I" } : Jvm.MethodName) prog_18_method_77_code (5 : Nat) (Option.some Jvm.ClassFile.FieldType.int)) :: tS_3_750
def tS_3_748 : List Cond := (Jvm.Cond.static ({ cls := "java/lang/StringUTF16", name := "getChars", desc := "(III[B)I" } : Jvm.MethodName)) :: tS_3_749
def tS_3_747 : List Cond := (Jvm.Cond.methodLink "java/lang/AbstractStringBuilder" (251 : Nat) ({ cls := "java/lang/StringUTF16", name := "getChars", desc := "(III[B)I" } : Jvm.MethodName)) :: tS_3_748
def tS_3_746 : List Cond := (Jvm.Cond.laysStatic "java/lang/Integer" "DigitTens" "[B") :: tS_3_747
def tS_3_745 : List Cond := (Jvm.Cond.fieldLink "java/lang/Integer" (87 : Nat) "java/lang/Integer" "DigitTens" "[B") :: tS_3_746
def tS_3_744 : List Cond := (Jvm.Cond.laysStatic "java/lang/Integer" "DigitOnes" "[B") :: tS_3_745
def tS_3_743 : List Cond := (Jvm.Cond.fieldLink "java/lang/Integer" (83 : Nat) "java/lang/Integer" "DigitOnes" "[B") :: tS_3_744
def tS_3_742 : List Cond := (Jvm.Cond.code ({ cls := "java/lang/Integer", name := "getChars", desc := "(II[B)I" } : Jvm.MethodName) prog_12_method_12_code (7 : Nat) (Option.some Jvm.ClassFile.FieldType.int)) :: tS_3_743
def tS_3_741 : List Cond := (Jvm.Cond.static ({ cls := "java/lang/Integer", name := "getChars", desc := "(II[B)I" } : Jvm.MethodName)) :: tS_3_742
def tS_3_740 : List Cond := (Jvm.Cond.methodLink "java/lang/AbstractStringBuilder" (248 : Nat) ({ cls := "java/lang/Integer", name := "getChars", desc := "(II[B)I" } : Jvm.MethodName)) :: tS_3_741
def tS_3_739 : List Cond := (Jvm.Cond.code ({ cls := "java/lang/Integer", name := "stringSize", desc := "(I)I" } : Jvm.MethodName) prog_12_method_13_code (4 : Nat) (Option.some Jvm.ClassFile.FieldType.int)) :: tS_3_740
def tS_3_738 : List Cond := (Jvm.Cond.static ({ cls := "java/lang/Integer", name := "stringSize", desc := "(I)I" } : Jvm.MethodName)) :: tS_3_739
def tS_3_737 : List Cond := (Jvm.Cond.methodLink "java/lang/AbstractStringBuilder" (245 : Nat) ({ cls := "java/lang/Integer", name := "stringSize", desc := "(I)I" } : Jvm.MethodName)) :: tS_3_738
def tS_3_736 : List Cond := (Jvm.Cond.code ({ cls := "java/lang/AbstractStringBuilder", name := "append", desc := "(I)Ljava/lang/AbstractStringBuilder;" } : Jvm.MethodName) prog_7_method_32_code (4 : Nat) (Option.some (Jvm.ClassFile.FieldType.object "java/lang/AbstractStringBuilder"))) :: tS_3_737
def tS_3_735 : List Cond := (Jvm.Cond.instanceMethod ({ cls := "java/lang/AbstractStringBuilder", name := "append", desc := "(I)Ljava/lang/AbstractStringBuilder;" } : Jvm.MethodName)) :: tS_3_736
def tS_3_734 : List Cond := (Jvm.Cond.methodLink "java/lang/StringBuilder" (53 : Nat) ({ cls := "java/lang/AbstractStringBuilder", name := "append", desc := "(I)Ljava/lang/AbstractStringBuilder;" } : Jvm.MethodName)) :: tS_3_735
def tS_3_733 : List Cond := (Jvm.Cond.code ({ cls := "java/lang/StringBuilder", name := "append", desc := "(I)Ljava/lang/StringBuilder;" } : Jvm.MethodName) prog_16_method_15_code (2 : Nat) (Option.some (Jvm.ClassFile.FieldType.object "java/lang/StringBuilder"))) :: tS_3_734
def tS_3_732 : List Cond := (Jvm.Cond.selects "java/lang/StringBuilder" ({ cls := "java/lang/StringBuilder", name := "append", desc := "(I)Ljava/lang/StringBuilder;" } : Jvm.MethodName) ({ cls := "java/lang/StringBuilder", name := "append", desc := "(I)Ljava/lang/StringBuilder;" } : Jvm.MethodName)) :: tS_3_733
def tS_3_731 : List Cond := (Jvm.Cond.instanceMethod ({ cls := "java/lang/StringBuilder", name := "append", desc := "(I)Ljava/lang/StringBuilder;" } : Jvm.MethodName)) :: tS_3_732
def tS_3_730 : List Cond := (Jvm.Cond.methodLink "Runweaver" (162 : Nat) ({ cls := "java/lang/StringBuilder", name := "append", desc := "(I)Ljava/lang/StringBuilder;" } : Jvm.MethodName)) :: tS_3_731
def tS_3_729 : List Cond := (Jvm.Cond.code ({ cls := "jdk/internal/util/Preconditions", name := "checkIndex", desc := "(IILjava/util/function/BiFunction;)I" } : Jvm.MethodName) prog_23_method_11_code (3 : Nat) (Option.some Jvm.ClassFile.FieldType.int)) :: tS_3_730
def tS_3_728 : List Cond := (Jvm.Cond.static ({ cls := "jdk/internal/util/Preconditions", name := "checkIndex", desc := "(IILjava/util/function/BiFunction;)I" } : Jvm.MethodName)) :: tS_3_729
def tS_3_727 : List Cond := (Jvm.Cond.methodLink "java/lang/String" (1059 : Nat) ({ cls := "jdk/internal/util/Preconditions", name := "checkIndex", desc := "(IILjava/util/function/BiFunction;)I" } : Jvm.MethodName)) :: tS_3_728
def tS_3_726 : List Cond := (Jvm.Cond.code ({ cls := "java/lang/String", name := "checkIndex", desc := "(II)V" } : Jvm.MethodName) prog_15_method_155_code (2 : Nat) (Option.none : Option Jvm.ClassFile.FieldType)) :: tS_3_727
def tS_3_725 : List Cond := (Jvm.Cond.static ({ cls := "java/lang/String", name := "checkIndex", desc := "(II)V" } : Jvm.MethodName)) :: tS_3_726
def tS_3_724 : List Cond := (Jvm.Cond.methodLink "java/lang/StringUTF16" (414 : Nat) ({ cls := "java/lang/String", name := "checkIndex", desc := "(II)V" } : Jvm.MethodName)) :: tS_3_725
def tS_3_723 : List Cond := (Jvm.Cond.code ({ cls := "java/lang/StringUTF16", name := "checkIndex", desc := "(I[B)V" } : Jvm.MethodName) prog_18_method_91_code (2 : Nat) (Option.none : Option Jvm.ClassFile.FieldType)) :: tS_3_724
def tS_3_722 : List Cond := (Jvm.Cond.static ({ cls := "java/lang/StringUTF16", name := "checkIndex", desc := "(I[B)V" } : Jvm.MethodName)) :: tS_3_723
def tS_3_721 : List Cond := (Jvm.Cond.methodLink "java/lang/StringUTF16" (67 : Nat) ({ cls := "java/lang/StringUTF16", name := "checkIndex", desc := "(I[B)V" } : Jvm.MethodName)) :: tS_3_722
def tS_3_720 : List Cond := (Jvm.Cond.code ({ cls := "java/lang/StringUTF16", name := "putCharSB", desc := "([BII)V" } : Jvm.MethodName) prog_18_method_71_code (3 : Nat) (Option.none : Option Jvm.ClassFile.FieldType)) :: tS_3_721
set_option maxRecDepth 100000 in
theorem tU_3 : tables_1_4 = tS_3_720 := rfl
theorem tV_3_720 {w : Cond} (h0 : w ∈ tS_3_720) : w ∈ lw_tbl := List.mem_append_left _ (List.mem_append_right _ (have h : w ∈ tables_1_4 := tU_3 ▸ h0; (List.mem_append_right _ (List.mem_append_right _ (List.mem_append_right _ (List.mem_append_left _ h))) : w ∈ tables_1)))
theorem tV_3_721 {w : Cond} (h : w ∈ tS_3_721) : w ∈ lw_tbl := tV_3_720 (List.mem_cons_of_mem _ h)
theorem tV_3_722 {w : Cond} (h : w ∈ tS_3_722) : w ∈ lw_tbl := tV_3_721 (List.mem_cons_of_mem _ h)
theorem tV_3_723 {w : Cond} (h : w ∈ tS_3_723) : w ∈ lw_tbl := tV_3_722 (List.mem_cons_of_mem _ h)
theorem tV_3_724 {w : Cond} (h : w ∈ tS_3_724) : w ∈ lw_tbl := tV_3_723 (List.mem_cons_of_mem _ h)
theorem tV_3_725 {w : Cond} (h : w ∈ tS_3_725) : w ∈ lw_tbl := tV_3_724 (List.mem_cons_of_mem _ h)
theorem tV_3_726 {w : Cond} (h : w ∈ tS_3_726) : w ∈ lw_tbl := tV_3_725 (List.mem_cons_of_mem _ h)
theorem tV_3_727 {w : Cond} (h : w ∈ tS_3_727) : w ∈ lw_tbl := tV_3_726 (List.mem_cons_of_mem _ h)
theorem tV_3_728 {w : Cond} (h : w ∈ tS_3_728) : w ∈ lw_tbl := tV_3_727 (List.mem_cons_of_mem _ h)
theorem tV_3_729 {w : Cond} (h : w ∈ tS_3_729) : w ∈ lw_tbl := tV_3_728 (List.mem_cons_of_mem _ h)
theorem tV_3_730 {w : Cond} (h : w ∈ tS_3_730) : w ∈ lw_tbl := tV_3_729 (List.mem_cons_of_mem _ h)
theorem tV_3_731 {w : Cond} (h : w ∈ tS_3_731) : w ∈ lw_tbl := tV_3_730 (List.mem_cons_of_mem _ h)
theorem tV_3_732 {w : Cond} (h : w ∈ tS_3_732) : w ∈ lw_tbl := tV_3_731 (List.mem_cons_of_mem _ h)
theorem tV_3_733 {w : Cond} (h : w ∈ tS_3_733) : w ∈ lw_tbl := tV_3_732 (List.mem_cons_of_mem _ h)
theorem tV_3_734 {w : Cond} (h : w ∈ tS_3_734) : w ∈ lw_tbl := tV_3_733 (List.mem_cons_of_mem _ h)
theorem tV_3_735 {w : Cond} (h : w ∈ tS_3_735) : w ∈ lw_tbl := tV_3_734 (List.mem_cons_of_mem _ h)
theorem tV_3_736 {w : Cond} (h : w ∈ tS_3_736) : w ∈ lw_tbl := tV_3_735 (List.mem_cons_of_mem _ h)
theorem tV_3_737 {w : Cond} (h : w ∈ tS_3_737) : w ∈ lw_tbl := tV_3_736 (List.mem_cons_of_mem _ h)
theorem tV_3_738 {w : Cond} (h : w ∈ tS_3_738) : w ∈ lw_tbl := tV_3_737 (List.mem_cons_of_mem _ h)
theorem tV_3_739 {w : Cond} (h : w ∈ tS_3_739) : w ∈ lw_tbl := tV_3_738 (List.mem_cons_of_mem _ h)
theorem tV_3_740 {w : Cond} (h : w ∈ tS_3_740) : w ∈ lw_tbl := tV_3_739 (List.mem_cons_of_mem _ h)
theorem tV_3_741 {w : Cond} (h : w ∈ tS_3_741) : w ∈ lw_tbl := tV_3_740 (List.mem_cons_of_mem _ h)
theorem tV_3_742 {w : Cond} (h : w ∈ tS_3_742) : w ∈ lw_tbl := tV_3_741 (List.mem_cons_of_mem _ h)
theorem tV_3_743 {w : Cond} (h : w ∈ tS_3_743) : w ∈ lw_tbl := tV_3_742 (List.mem_cons_of_mem _ h)
theorem tV_3_744 {w : Cond} (h : w ∈ tS_3_744) : w ∈ lw_tbl := tV_3_743 (List.mem_cons_of_mem _ h)
theorem tV_3_745 {w : Cond} (h : w ∈ tS_3_745) : w ∈ lw_tbl := tV_3_744 (List.mem_cons_of_mem _ h)
theorem tV_3_746 {w : Cond} (h : w ∈ tS_3_746) : w ∈ lw_tbl := tV_3_745 (List.mem_cons_of_mem _ h)
theorem tV_3_747 {w : Cond} (h : w ∈ tS_3_747) : w ∈ lw_tbl := tV_3_746 (List.mem_cons_of_mem _ h)
theorem tV_3_748 {w : Cond} (h : w ∈ tS_3_748) : w ∈ lw_tbl := tV_3_747 (List.mem_cons_of_mem _ h)
theorem tV_3_749 {w : Cond} (h : w ∈ tS_3_749) : w ∈ lw_tbl := tV_3_748 (List.mem_cons_of_mem _ h)
theorem tV_3_750 {w : Cond} (h : w ∈ tS_3_750) : w ∈ lw_tbl := tV_3_749 (List.mem_cons_of_mem _ h)
theorem tV_3_751 {w : Cond} (h : w ∈ tS_3_751) : w ∈ lw_tbl := tV_3_750 (List.mem_cons_of_mem _ h)
theorem tV_3_752 {w : Cond} (h : w ∈ tS_3_752) : w ∈ lw_tbl := tV_3_751 (List.mem_cons_of_mem _ h)
theorem tV_3_753 {w : Cond} (h : w ∈ tS_3_753) : w ∈ lw_tbl := tV_3_752 (List.mem_cons_of_mem _ h)
theorem tV_3_754 {w : Cond} (h : w ∈ tS_3_754) : w ∈ lw_tbl := tV_3_753 (List.mem_cons_of_mem _ h)
theorem tV_3_755 {w : Cond} (h : w ∈ tS_3_755) : w ∈ lw_tbl := tV_3_754 (List.mem_cons_of_mem _ h)
theorem tV_3_756 {w : Cond} (h : w ∈ tS_3_756) : w ∈ lw_tbl := tV_3_755 (List.mem_cons_of_mem _ h)
theorem tV_3_757 {w : Cond} (h : w ∈ tS_3_757) : w ∈ lw_tbl := tV_3_756 (List.mem_cons_of_mem _ h)
theorem tV_3_758 {w : Cond} (h : w ∈ tS_3_758) : w ∈ lw_tbl := tV_3_757 (List.mem_cons_of_mem _ h)
theorem tV_3_759 {w : Cond} (h : w ∈ tS_3_759) : w ∈ lw_tbl := tV_3_758 (List.mem_cons_of_mem _ h)
theorem tV_3_760 {w : Cond} (h : w ∈ tS_3_760) : w ∈ lw_tbl := tV_3_759 (List.mem_cons_of_mem _ h)
theorem tV_3_761 {w : Cond} (h : w ∈ tS_3_761) : w ∈ lw_tbl := tV_3_760 (List.mem_cons_of_mem _ h)
theorem tV_3_762 {w : Cond} (h : w ∈ tS_3_762) : w ∈ lw_tbl := tV_3_761 (List.mem_cons_of_mem _ h)
theorem tV_3_763 {w : Cond} (h : w ∈ tS_3_763) : w ∈ lw_tbl := tV_3_762 (List.mem_cons_of_mem _ h)
theorem tV_3_764 {w : Cond} (h : w ∈ tS_3_764) : w ∈ lw_tbl := tV_3_763 (List.mem_cons_of_mem _ h)
theorem tV_3_765 {w : Cond} (h : w ∈ tS_3_765) : w ∈ lw_tbl := tV_3_764 (List.mem_cons_of_mem _ h)
theorem tV_3_766 {w : Cond} (h : w ∈ tS_3_766) : w ∈ lw_tbl := tV_3_765 (List.mem_cons_of_mem _ h)
theorem tV_3_767 {w : Cond} (h : w ∈ tS_3_767) : w ∈ lw_tbl := tV_3_766 (List.mem_cons_of_mem _ h)
theorem tV_3_768 {w : Cond} (h : w ∈ tS_3_768) : w ∈ lw_tbl := tV_3_767 (List.mem_cons_of_mem _ h)
theorem tV_3_769 {w : Cond} (h : w ∈ tS_3_769) : w ∈ lw_tbl := tV_3_768 (List.mem_cons_of_mem _ h)
theorem tV_3_770 {w : Cond} (h : w ∈ tS_3_770) : w ∈ lw_tbl := tV_3_769 (List.mem_cons_of_mem _ h)
theorem tV_3_771 {w : Cond} (h : w ∈ tS_3_771) : w ∈ lw_tbl := tV_3_770 (List.mem_cons_of_mem _ h)
theorem tV_3_772 {w : Cond} (h : w ∈ tS_3_772) : w ∈ lw_tbl := tV_3_771 (List.mem_cons_of_mem _ h)
theorem tV_3_773 {w : Cond} (h : w ∈ tS_3_773) : w ∈ lw_tbl := tV_3_772 (List.mem_cons_of_mem _ h)
theorem tV_3_774 {w : Cond} (h : w ∈ tS_3_774) : w ∈ lw_tbl := tV_3_773 (List.mem_cons_of_mem _ h)
theorem tV_3_775 {w : Cond} (h : w ∈ tS_3_775) : w ∈ lw_tbl := tV_3_774 (List.mem_cons_of_mem _ h)
theorem tV_3_776 {w : Cond} (h : w ∈ tS_3_776) : w ∈ lw_tbl := tV_3_775 (List.mem_cons_of_mem _ h)
theorem tV_3_777 {w : Cond} (h : w ∈ tS_3_777) : w ∈ lw_tbl := tV_3_776 (List.mem_cons_of_mem _ h)
theorem tV_3_778 {w : Cond} (h : w ∈ tS_3_778) : w ∈ lw_tbl := tV_3_777 (List.mem_cons_of_mem _ h)
theorem tV_3_779 {w : Cond} (h : w ∈ tS_3_779) : w ∈ lw_tbl := tV_3_778 (List.mem_cons_of_mem _ h)
theorem tV_3_780 {w : Cond} (h : w ∈ tS_3_780) : w ∈ lw_tbl := tV_3_779 (List.mem_cons_of_mem _ h)
theorem tV_3_781 {w : Cond} (h : w ∈ tS_3_781) : w ∈ lw_tbl := tV_3_780 (List.mem_cons_of_mem _ h)
theorem tV_3_782 {w : Cond} (h : w ∈ tS_3_782) : w ∈ lw_tbl := tV_3_781 (List.mem_cons_of_mem _ h)
theorem tV_3_783 {w : Cond} (h : w ∈ tS_3_783) : w ∈ lw_tbl := tV_3_782 (List.mem_cons_of_mem _ h)
theorem tV_3_784 {w : Cond} (h : w ∈ tS_3_784) : w ∈ lw_tbl := tV_3_783 (List.mem_cons_of_mem _ h)
theorem tV_3_785 {w : Cond} (h : w ∈ tS_3_785) : w ∈ lw_tbl := tV_3_784 (List.mem_cons_of_mem _ h)
theorem tV_3_786 {w : Cond} (h : w ∈ tS_3_786) : w ∈ lw_tbl := tV_3_785 (List.mem_cons_of_mem _ h)
theorem tV_3_787 {w : Cond} (h : w ∈ tS_3_787) : w ∈ lw_tbl := tV_3_786 (List.mem_cons_of_mem _ h)
theorem tV_3_788 {w : Cond} (h : w ∈ tS_3_788) : w ∈ lw_tbl := tV_3_787 (List.mem_cons_of_mem _ h)
theorem tV_3_789 {w : Cond} (h : w ∈ tS_3_789) : w ∈ lw_tbl := tV_3_788 (List.mem_cons_of_mem _ h)
theorem tV_3_790 {w : Cond} (h : w ∈ tS_3_790) : w ∈ lw_tbl := tV_3_789 (List.mem_cons_of_mem _ h)
theorem tV_3_791 {w : Cond} (h : w ∈ tS_3_791) : w ∈ lw_tbl := tV_3_790 (List.mem_cons_of_mem _ h)
theorem tV_3_792 {w : Cond} (h : w ∈ tS_3_792) : w ∈ lw_tbl := tV_3_791 (List.mem_cons_of_mem _ h)
theorem tV_3_793 {w : Cond} (h : w ∈ tS_3_793) : w ∈ lw_tbl := tV_3_792 (List.mem_cons_of_mem _ h)
theorem tV_3_794 {w : Cond} (h : w ∈ tS_3_794) : w ∈ lw_tbl := tV_3_793 (List.mem_cons_of_mem _ h)
theorem tV_3_795 {w : Cond} (h : w ∈ tS_3_795) : w ∈ lw_tbl := tV_3_794 (List.mem_cons_of_mem _ h)
theorem tV_3_796 {w : Cond} (h : w ∈ tS_3_796) : w ∈ lw_tbl := tV_3_795 (List.mem_cons_of_mem _ h)
theorem tV_3_797 {w : Cond} (h : w ∈ tS_3_797) : w ∈ lw_tbl := tV_3_796 (List.mem_cons_of_mem _ h)
theorem tV_3_798 {w : Cond} (h : w ∈ tS_3_798) : w ∈ lw_tbl := tV_3_797 (List.mem_cons_of_mem _ h)
theorem tV_3_799 {w : Cond} (h : w ∈ tS_3_799) : w ∈ lw_tbl := tV_3_798 (List.mem_cons_of_mem _ h)
theorem tV_3_800 {w : Cond} (h : w ∈ tS_3_800) : w ∈ lw_tbl := tV_3_799 (List.mem_cons_of_mem _ h)
theorem tV_3_801 {w : Cond} (h : w ∈ tS_3_801) : w ∈ lw_tbl := tV_3_800 (List.mem_cons_of_mem _ h)
theorem tV_3_802 {w : Cond} (h : w ∈ tS_3_802) : w ∈ lw_tbl := tV_3_801 (List.mem_cons_of_mem _ h)
theorem tV_3_803 {w : Cond} (h : w ∈ tS_3_803) : w ∈ lw_tbl := tV_3_802 (List.mem_cons_of_mem _ h)
theorem tV_3_804 {w : Cond} (h : w ∈ tS_3_804) : w ∈ lw_tbl := tV_3_803 (List.mem_cons_of_mem _ h)
theorem tV_3_805 {w : Cond} (h : w ∈ tS_3_805) : w ∈ lw_tbl := tV_3_804 (List.mem_cons_of_mem _ h)
theorem tV_3_806 {w : Cond} (h : w ∈ tS_3_806) : w ∈ lw_tbl := tV_3_805 (List.mem_cons_of_mem _ h)
theorem tV_3_807 {w : Cond} (h : w ∈ tS_3_807) : w ∈ lw_tbl := tV_3_806 (List.mem_cons_of_mem _ h)
theorem tV_3_808 {w : Cond} (h : w ∈ tS_3_808) : w ∈ lw_tbl := tV_3_807 (List.mem_cons_of_mem _ h)
theorem tV_3_809 {w : Cond} (h : w ∈ tS_3_809) : w ∈ lw_tbl := tV_3_808 (List.mem_cons_of_mem _ h)
theorem tV_3_810 {w : Cond} (h : w ∈ tS_3_810) : w ∈ lw_tbl := tV_3_809 (List.mem_cons_of_mem _ h)
theorem tV_3_811 {w : Cond} (h : w ∈ tS_3_811) : w ∈ lw_tbl := tV_3_810 (List.mem_cons_of_mem _ h)
theorem tV_3_812 {w : Cond} (h : w ∈ tS_3_812) : w ∈ lw_tbl := tV_3_811 (List.mem_cons_of_mem _ h)
theorem tV_3_813 {w : Cond} (h : w ∈ tS_3_813) : w ∈ lw_tbl := tV_3_812 (List.mem_cons_of_mem _ h)
theorem tV_3_814 {w : Cond} (h : w ∈ tS_3_814) : w ∈ lw_tbl := tV_3_813 (List.mem_cons_of_mem _ h)
theorem tV_3_815 {w : Cond} (h : w ∈ tS_3_815) : w ∈ lw_tbl := tV_3_814 (List.mem_cons_of_mem _ h)
theorem tV_3_816 {w : Cond} (h : w ∈ tS_3_816) : w ∈ lw_tbl := tV_3_815 (List.mem_cons_of_mem _ h)
theorem tV_3_817 {w : Cond} (h : w ∈ tS_3_817) : w ∈ lw_tbl := tV_3_816 (List.mem_cons_of_mem _ h)
theorem tV_3_818 {w : Cond} (h : w ∈ tS_3_818) : w ∈ lw_tbl := tV_3_817 (List.mem_cons_of_mem _ h)
theorem tV_3_819 {w : Cond} (h : w ∈ tS_3_819) : w ∈ lw_tbl := tV_3_818 (List.mem_cons_of_mem _ h)
theorem tV_3_820 {w : Cond} (h : w ∈ tS_3_820) : w ∈ lw_tbl := tV_3_819 (List.mem_cons_of_mem _ h)
theorem tV_3_821 {w : Cond} (h : w ∈ tS_3_821) : w ∈ lw_tbl := tV_3_820 (List.mem_cons_of_mem _ h)
theorem tV_3_822 {w : Cond} (h : w ∈ tS_3_822) : w ∈ lw_tbl := tV_3_821 (List.mem_cons_of_mem _ h)
theorem tV_3_823 {w : Cond} (h : w ∈ tS_3_823) : w ∈ lw_tbl := tV_3_822 (List.mem_cons_of_mem _ h)
theorem tV_3_824 {w : Cond} (h : w ∈ tS_3_824) : w ∈ lw_tbl := tV_3_823 (List.mem_cons_of_mem _ h)
theorem tV_3_825 {w : Cond} (h : w ∈ tS_3_825) : w ∈ lw_tbl := tV_3_824 (List.mem_cons_of_mem _ h)
theorem tV_3_826 {w : Cond} (h : w ∈ tS_3_826) : w ∈ lw_tbl := tV_3_825 (List.mem_cons_of_mem _ h)
theorem tV_3_827 {w : Cond} (h : w ∈ tS_3_827) : w ∈ lw_tbl := tV_3_826 (List.mem_cons_of_mem _ h)
theorem tV_3_828 {w : Cond} (h : w ∈ tS_3_828) : w ∈ lw_tbl := tV_3_827 (List.mem_cons_of_mem _ h)
theorem tV_3_829 {w : Cond} (h : w ∈ tS_3_829) : w ∈ lw_tbl := tV_3_828 (List.mem_cons_of_mem _ h)
theorem tV_3_830 {w : Cond} (h : w ∈ tS_3_830) : w ∈ lw_tbl := tV_3_829 (List.mem_cons_of_mem _ h)
theorem tV_3_831 {w : Cond} (h : w ∈ tS_3_831) : w ∈ lw_tbl := tV_3_830 (List.mem_cons_of_mem _ h)
theorem tV_3_832 {w : Cond} (h : w ∈ tS_3_832) : w ∈ lw_tbl := tV_3_831 (List.mem_cons_of_mem _ h)
theorem tV_3_833 {w : Cond} (h : w ∈ tS_3_833) : w ∈ lw_tbl := tV_3_832 (List.mem_cons_of_mem _ h)
theorem tV_3_834 {w : Cond} (h : w ∈ tS_3_834) : w ∈ lw_tbl := tV_3_833 (List.mem_cons_of_mem _ h)
theorem tV_3_835 {w : Cond} (h : w ∈ tS_3_835) : w ∈ lw_tbl := tV_3_834 (List.mem_cons_of_mem _ h)
theorem tV_3_836 {w : Cond} (h : w ∈ tS_3_836) : w ∈ lw_tbl := tV_3_835 (List.mem_cons_of_mem _ h)
theorem tV_3_837 {w : Cond} (h : w ∈ tS_3_837) : w ∈ lw_tbl := tV_3_836 (List.mem_cons_of_mem _ h)
theorem tV_3_838 {w : Cond} (h : w ∈ tS_3_838) : w ∈ lw_tbl := tV_3_837 (List.mem_cons_of_mem _ h)
theorem tV_3_839 {w : Cond} (h : w ∈ tS_3_839) : w ∈ lw_tbl := tV_3_838 (List.mem_cons_of_mem _ h)
theorem tV_3_840 {w : Cond} (h : w ∈ tS_3_840) : w ∈ lw_tbl := tV_3_839 (List.mem_cons_of_mem _ h)
theorem tV_3_841 {w : Cond} (h : w ∈ tS_3_841) : w ∈ lw_tbl := tV_3_840 (List.mem_cons_of_mem _ h)
theorem tV_3_842 {w : Cond} (h : w ∈ tS_3_842) : w ∈ lw_tbl := tV_3_841 (List.mem_cons_of_mem _ h)
theorem tV_3_843 {w : Cond} (h : w ∈ tS_3_843) : w ∈ lw_tbl := tV_3_842 (List.mem_cons_of_mem _ h)
theorem tV_3_844 {w : Cond} (h : w ∈ tS_3_844) : w ∈ lw_tbl := tV_3_843 (List.mem_cons_of_mem _ h)
theorem tV_3_845 {w : Cond} (h : w ∈ tS_3_845) : w ∈ lw_tbl := tV_3_844 (List.mem_cons_of_mem _ h)
theorem tV_3_846 {w : Cond} (h : w ∈ tS_3_846) : w ∈ lw_tbl := tV_3_845 (List.mem_cons_of_mem _ h)
theorem tV_3_847 {w : Cond} (h : w ∈ tS_3_847) : w ∈ lw_tbl := tV_3_846 (List.mem_cons_of_mem _ h)
theorem tV_3_848 {w : Cond} (h : w ∈ tS_3_848) : w ∈ lw_tbl := tV_3_847 (List.mem_cons_of_mem _ h)
theorem tV_3_849 {w : Cond} (h : w ∈ tS_3_849) : w ∈ lw_tbl := tV_3_848 (List.mem_cons_of_mem _ h)
theorem tV_3_850 {w : Cond} (h : w ∈ tS_3_850) : w ∈ lw_tbl := tV_3_849 (List.mem_cons_of_mem _ h)
theorem tV_3_851 {w : Cond} (h : w ∈ tS_3_851) : w ∈ lw_tbl := tV_3_850 (List.mem_cons_of_mem _ h)
theorem tV_3_852 {w : Cond} (h : w ∈ tS_3_852) : w ∈ lw_tbl := tV_3_851 (List.mem_cons_of_mem _ h)
theorem tV_3_853 {w : Cond} (h : w ∈ tS_3_853) : w ∈ lw_tbl := tV_3_852 (List.mem_cons_of_mem _ h)
theorem tV_3_854 {w : Cond} (h : w ∈ tS_3_854) : w ∈ lw_tbl := tV_3_853 (List.mem_cons_of_mem _ h)
theorem tV_3_855 {w : Cond} (h : w ∈ tS_3_855) : w ∈ lw_tbl := tV_3_854 (List.mem_cons_of_mem _ h)
theorem tV_3_856 {w : Cond} (h : w ∈ tS_3_856) : w ∈ lw_tbl := tV_3_855 (List.mem_cons_of_mem _ h)
theorem tV_3_857 {w : Cond} (h : w ∈ tS_3_857) : w ∈ lw_tbl := tV_3_856 (List.mem_cons_of_mem _ h)
theorem tV_3_858 {w : Cond} (h : w ∈ tS_3_858) : w ∈ lw_tbl := tV_3_857 (List.mem_cons_of_mem _ h)
theorem tV_3_859 {w : Cond} (h : w ∈ tS_3_859) : w ∈ lw_tbl := tV_3_858 (List.mem_cons_of_mem _ h)
theorem tV_3_860 {w : Cond} (h : w ∈ tS_3_860) : w ∈ lw_tbl := tV_3_859 (List.mem_cons_of_mem _ h)
theorem tV_3_861 {w : Cond} (h : w ∈ tS_3_861) : w ∈ lw_tbl := tV_3_860 (List.mem_cons_of_mem _ h)
theorem tV_3_862 {w : Cond} (h : w ∈ tS_3_862) : w ∈ lw_tbl := tV_3_861 (List.mem_cons_of_mem _ h)
theorem tV_3_863 {w : Cond} (h : w ∈ tS_3_863) : w ∈ lw_tbl := tV_3_862 (List.mem_cons_of_mem _ h)
theorem tV_3_864 {w : Cond} (h : w ∈ tS_3_864) : w ∈ lw_tbl := tV_3_863 (List.mem_cons_of_mem _ h)
theorem tV_3_865 {w : Cond} (h : w ∈ tS_3_865) : w ∈ lw_tbl := tV_3_864 (List.mem_cons_of_mem _ h)
theorem tV_3_866 {w : Cond} (h : w ∈ tS_3_866) : w ∈ lw_tbl := tV_3_865 (List.mem_cons_of_mem _ h)
theorem tV_3_867 {w : Cond} (h : w ∈ tS_3_867) : w ∈ lw_tbl := tV_3_866 (List.mem_cons_of_mem _ h)
theorem tV_3_868 {w : Cond} (h : w ∈ tS_3_868) : w ∈ lw_tbl := tV_3_867 (List.mem_cons_of_mem _ h)
theorem tV_3_869 {w : Cond} (h : w ∈ tS_3_869) : w ∈ lw_tbl := tV_3_868 (List.mem_cons_of_mem _ h)
theorem tV_3_870 {w : Cond} (h : w ∈ tS_3_870) : w ∈ lw_tbl := tV_3_869 (List.mem_cons_of_mem _ h)
theorem tV_3_871 {w : Cond} (h : w ∈ tS_3_871) : w ∈ lw_tbl := tV_3_870 (List.mem_cons_of_mem _ h)
theorem tV_3_872 {w : Cond} (h : w ∈ tS_3_872) : w ∈ lw_tbl := tV_3_871 (List.mem_cons_of_mem _ h)
theorem tV_3_873 {w : Cond} (h : w ∈ tS_3_873) : w ∈ lw_tbl := tV_3_872 (List.mem_cons_of_mem _ h)
theorem tV_3_874 {w : Cond} (h : w ∈ tS_3_874) : w ∈ lw_tbl := tV_3_873 (List.mem_cons_of_mem _ h)
theorem tV_3_875 {w : Cond} (h : w ∈ tS_3_875) : w ∈ lw_tbl := tV_3_874 (List.mem_cons_of_mem _ h)
theorem tV_3_876 {w : Cond} (h : w ∈ tS_3_876) : w ∈ lw_tbl := tV_3_875 (List.mem_cons_of_mem _ h)
theorem tV_3_877 {w : Cond} (h : w ∈ tS_3_877) : w ∈ lw_tbl := tV_3_876 (List.mem_cons_of_mem _ h)
theorem tV_3_878 {w : Cond} (h : w ∈ tS_3_878) : w ∈ lw_tbl := tV_3_877 (List.mem_cons_of_mem _ h)
theorem tV_3_879 {w : Cond} (h : w ∈ tS_3_879) : w ∈ lw_tbl := tV_3_878 (List.mem_cons_of_mem _ h)
theorem tV_3_880 {w : Cond} (h : w ∈ tS_3_880) : w ∈ lw_tbl := tV_3_879 (List.mem_cons_of_mem _ h)
theorem tV_3_881 {w : Cond} (h : w ∈ tS_3_881) : w ∈ lw_tbl := tV_3_880 (List.mem_cons_of_mem _ h)
theorem tV_3_882 {w : Cond} (h : w ∈ tS_3_882) : w ∈ lw_tbl := tV_3_881 (List.mem_cons_of_mem _ h)
theorem tV_3_883 {w : Cond} (h : w ∈ tS_3_883) : w ∈ lw_tbl := tV_3_882 (List.mem_cons_of_mem _ h)
theorem tV_3_884 {w : Cond} (h : w ∈ tS_3_884) : w ∈ lw_tbl := tV_3_883 (List.mem_cons_of_mem _ h)
theorem tV_3_885 {w : Cond} (h : w ∈ tS_3_885) : w ∈ lw_tbl := tV_3_884 (List.mem_cons_of_mem _ h)
theorem tV_3_886 {w : Cond} (h : w ∈ tS_3_886) : w ∈ lw_tbl := tV_3_885 (List.mem_cons_of_mem _ h)
theorem tV_3_887 {w : Cond} (h : w ∈ tS_3_887) : w ∈ lw_tbl := tV_3_886 (List.mem_cons_of_mem _ h)
theorem tV_3_888 {w : Cond} (h : w ∈ tS_3_888) : w ∈ lw_tbl := tV_3_887 (List.mem_cons_of_mem _ h)
theorem tV_3_889 {w : Cond} (h : w ∈ tS_3_889) : w ∈ lw_tbl := tV_3_888 (List.mem_cons_of_mem _ h)
theorem tV_3_890 {w : Cond} (h : w ∈ tS_3_890) : w ∈ lw_tbl := tV_3_889 (List.mem_cons_of_mem _ h)
theorem tV_3_891 {w : Cond} (h : w ∈ tS_3_891) : w ∈ lw_tbl := tV_3_890 (List.mem_cons_of_mem _ h)
theorem tV_3_892 {w : Cond} (h : w ∈ tS_3_892) : w ∈ lw_tbl := tV_3_891 (List.mem_cons_of_mem _ h)
theorem tV_3_893 {w : Cond} (h : w ∈ tS_3_893) : w ∈ lw_tbl := tV_3_892 (List.mem_cons_of_mem _ h)
theorem tV_3_894 {w : Cond} (h : w ∈ tS_3_894) : w ∈ lw_tbl := tV_3_893 (List.mem_cons_of_mem _ h)
theorem tV_3_895 {w : Cond} (h : w ∈ tS_3_895) : w ∈ lw_tbl := tV_3_894 (List.mem_cons_of_mem _ h)
theorem tV_3_896 {w : Cond} (h : w ∈ tS_3_896) : w ∈ lw_tbl := tV_3_895 (List.mem_cons_of_mem _ h)
theorem tV_3_897 {w : Cond} (h : w ∈ tS_3_897) : w ∈ lw_tbl := tV_3_896 (List.mem_cons_of_mem _ h)
theorem tV_3_898 {w : Cond} (h : w ∈ tS_3_898) : w ∈ lw_tbl := tV_3_897 (List.mem_cons_of_mem _ h)
theorem tV_3_899 {w : Cond} (h : w ∈ tS_3_899) : w ∈ lw_tbl := tV_3_898 (List.mem_cons_of_mem _ h)
theorem tV_3_900 {w : Cond} (h : w ∈ tS_3_900) : w ∈ lw_tbl := tV_3_899 (List.mem_cons_of_mem _ h)
theorem tV_3_901 {w : Cond} (h : w ∈ tS_3_901) : w ∈ lw_tbl := tV_3_900 (List.mem_cons_of_mem _ h)
theorem tV_3_902 {w : Cond} (h : w ∈ tS_3_902) : w ∈ lw_tbl := tV_3_901 (List.mem_cons_of_mem _ h)
theorem tV_3_903 {w : Cond} (h : w ∈ tS_3_903) : w ∈ lw_tbl := tV_3_902 (List.mem_cons_of_mem _ h)
theorem tV_3_904 {w : Cond} (h : w ∈ tS_3_904) : w ∈ lw_tbl := tV_3_903 (List.mem_cons_of_mem _ h)
theorem tV_3_905 {w : Cond} (h : w ∈ tS_3_905) : w ∈ lw_tbl := tV_3_904 (List.mem_cons_of_mem _ h)
theorem tV_3_906 {w : Cond} (h : w ∈ tS_3_906) : w ∈ lw_tbl := tV_3_905 (List.mem_cons_of_mem _ h)
theorem tV_3_907 {w : Cond} (h : w ∈ tS_3_907) : w ∈ lw_tbl := tV_3_906 (List.mem_cons_of_mem _ h)
theorem tV_3_908 {w : Cond} (h : w ∈ tS_3_908) : w ∈ lw_tbl := tV_3_907 (List.mem_cons_of_mem _ h)
theorem tV_3_909 {w : Cond} (h : w ∈ tS_3_909) : w ∈ lw_tbl := tV_3_908 (List.mem_cons_of_mem _ h)
theorem tV_3_910 {w : Cond} (h : w ∈ tS_3_910) : w ∈ lw_tbl := tV_3_909 (List.mem_cons_of_mem _ h)
theorem tV_3_911 {w : Cond} (h : w ∈ tS_3_911) : w ∈ lw_tbl := tV_3_910 (List.mem_cons_of_mem _ h)
theorem tV_3_912 {w : Cond} (h : w ∈ tS_3_912) : w ∈ lw_tbl := tV_3_911 (List.mem_cons_of_mem _ h)
theorem tV_3_913 {w : Cond} (h : w ∈ tS_3_913) : w ∈ lw_tbl := tV_3_912 (List.mem_cons_of_mem _ h)
theorem tV_3_914 {w : Cond} (h : w ∈ tS_3_914) : w ∈ lw_tbl := tV_3_913 (List.mem_cons_of_mem _ h)
theorem tV_3_915 {w : Cond} (h : w ∈ tS_3_915) : w ∈ lw_tbl := tV_3_914 (List.mem_cons_of_mem _ h)
theorem tV_3_916 {w : Cond} (h : w ∈ tS_3_916) : w ∈ lw_tbl := tV_3_915 (List.mem_cons_of_mem _ h)
theorem tV_3_917 {w : Cond} (h : w ∈ tS_3_917) : w ∈ lw_tbl := tV_3_916 (List.mem_cons_of_mem _ h)
theorem tV_3_918 {w : Cond} (h : w ∈ tS_3_918) : w ∈ lw_tbl := tV_3_917 (List.mem_cons_of_mem _ h)
theorem tV_3_919 {w : Cond} (h : w ∈ tS_3_919) : w ∈ lw_tbl := tV_3_918 (List.mem_cons_of_mem _ h)
theorem tV_3_920 {w : Cond} (h : w ∈ tS_3_920) : w ∈ lw_tbl := tV_3_919 (List.mem_cons_of_mem _ h)
theorem tV_3_921 {w : Cond} (h : w ∈ tS_3_921) : w ∈ lw_tbl := tV_3_920 (List.mem_cons_of_mem _ h)
theorem tV_3_922 {w : Cond} (h : w ∈ tS_3_922) : w ∈ lw_tbl := tV_3_921 (List.mem_cons_of_mem _ h)
theorem tV_3_923 {w : Cond} (h : w ∈ tS_3_923) : w ∈ lw_tbl := tV_3_922 (List.mem_cons_of_mem _ h)
theorem tV_3_924 {w : Cond} (h : w ∈ tS_3_924) : w ∈ lw_tbl := tV_3_923 (List.mem_cons_of_mem _ h)
theorem tV_3_925 {w : Cond} (h : w ∈ tS_3_925) : w ∈ lw_tbl := tV_3_924 (List.mem_cons_of_mem _ h)
theorem tV_3_926 {w : Cond} (h : w ∈ tS_3_926) : w ∈ lw_tbl := tV_3_925 (List.mem_cons_of_mem _ h)
theorem tV_3_927 {w : Cond} (h : w ∈ tS_3_927) : w ∈ lw_tbl := tV_3_926 (List.mem_cons_of_mem _ h)
theorem tV_3_928 {w : Cond} (h : w ∈ tS_3_928) : w ∈ lw_tbl := tV_3_927 (List.mem_cons_of_mem _ h)
theorem tV_3_929 {w : Cond} (h : w ∈ tS_3_929) : w ∈ lw_tbl := tV_3_928 (List.mem_cons_of_mem _ h)
theorem tV_3_930 {w : Cond} (h : w ∈ tS_3_930) : w ∈ lw_tbl := tV_3_929 (List.mem_cons_of_mem _ h)
theorem tV_3_931 {w : Cond} (h : w ∈ tS_3_931) : w ∈ lw_tbl := tV_3_930 (List.mem_cons_of_mem _ h)
theorem tV_3_932 {w : Cond} (h : w ∈ tS_3_932) : w ∈ lw_tbl := tV_3_931 (List.mem_cons_of_mem _ h)
theorem tV_3_933 {w : Cond} (h : w ∈ tS_3_933) : w ∈ lw_tbl := tV_3_932 (List.mem_cons_of_mem _ h)
theorem tV_3_934 {w : Cond} (h : w ∈ tS_3_934) : w ∈ lw_tbl := tV_3_933 (List.mem_cons_of_mem _ h)
theorem tV_3_935 {w : Cond} (h : w ∈ tS_3_935) : w ∈ lw_tbl := tV_3_934 (List.mem_cons_of_mem _ h)
theorem tV_3_936 {w : Cond} (h : w ∈ tS_3_936) : w ∈ lw_tbl := tV_3_935 (List.mem_cons_of_mem _ h)
theorem tV_3_937 {w : Cond} (h : w ∈ tS_3_937) : w ∈ lw_tbl := tV_3_936 (List.mem_cons_of_mem _ h)
theorem tV_3_938 {w : Cond} (h : w ∈ tS_3_938) : w ∈ lw_tbl := tV_3_937 (List.mem_cons_of_mem _ h)
theorem tV_3_939 {w : Cond} (h : w ∈ tS_3_939) : w ∈ lw_tbl := tV_3_938 (List.mem_cons_of_mem _ h)
theorem tV_3_940 {w : Cond} (h : w ∈ tS_3_940) : w ∈ lw_tbl := tV_3_939 (List.mem_cons_of_mem _ h)
theorem tV_3_941 {w : Cond} (h : w ∈ tS_3_941) : w ∈ lw_tbl := tV_3_940 (List.mem_cons_of_mem _ h)
theorem tV_3_942 {w : Cond} (h : w ∈ tS_3_942) : w ∈ lw_tbl := tV_3_941 (List.mem_cons_of_mem _ h)
theorem tV_3_943 {w : Cond} (h : w ∈ tS_3_943) : w ∈ lw_tbl := tV_3_942 (List.mem_cons_of_mem _ h)
theorem tV_3_944 {w : Cond} (h : w ∈ tS_3_944) : w ∈ lw_tbl := tV_3_943 (List.mem_cons_of_mem _ h)
theorem tV_3_945 {w : Cond} (h : w ∈ tS_3_945) : w ∈ lw_tbl := tV_3_944 (List.mem_cons_of_mem _ h)
theorem tV_3_946 {w : Cond} (h : w ∈ tS_3_946) : w ∈ lw_tbl := tV_3_945 (List.mem_cons_of_mem _ h)
theorem tV_3_947 {w : Cond} (h : w ∈ tS_3_947) : w ∈ lw_tbl := tV_3_946 (List.mem_cons_of_mem _ h)
theorem tV_3_948 {w : Cond} (h : w ∈ tS_3_948) : w ∈ lw_tbl := tV_3_947 (List.mem_cons_of_mem _ h)
theorem tV_3_949 {w : Cond} (h : w ∈ tS_3_949) : w ∈ lw_tbl := tV_3_948 (List.mem_cons_of_mem _ h)
theorem tV_3_950 {w : Cond} (h : w ∈ tS_3_950) : w ∈ lw_tbl := tV_3_949 (List.mem_cons_of_mem _ h)
theorem tV_3_951 {w : Cond} (h : w ∈ tS_3_951) : w ∈ lw_tbl := tV_3_950 (List.mem_cons_of_mem _ h)
theorem tV_3_952 {w : Cond} (h : w ∈ tS_3_952) : w ∈ lw_tbl := tV_3_951 (List.mem_cons_of_mem _ h)
theorem tV_3_953 {w : Cond} (h : w ∈ tS_3_953) : w ∈ lw_tbl := tV_3_952 (List.mem_cons_of_mem _ h)
theorem tV_3_954 {w : Cond} (h : w ∈ tS_3_954) : w ∈ lw_tbl := tV_3_953 (List.mem_cons_of_mem _ h)
theorem tV_3_955 {w : Cond} (h : w ∈ tS_3_955) : w ∈ lw_tbl := tV_3_954 (List.mem_cons_of_mem _ h)
theorem tV_3_956 {w : Cond} (h : w ∈ tS_3_956) : w ∈ lw_tbl := tV_3_955 (List.mem_cons_of_mem _ h)
theorem tV_3_957 {w : Cond} (h : w ∈ tS_3_957) : w ∈ lw_tbl := tV_3_956 (List.mem_cons_of_mem _ h)
theorem tV_3_958 {w : Cond} (h : w ∈ tS_3_958) : w ∈ lw_tbl := tV_3_957 (List.mem_cons_of_mem _ h)
theorem tV_3_959 {w : Cond} (h : w ∈ tS_3_959) : w ∈ lw_tbl := tV_3_958 (List.mem_cons_of_mem _ h)
def tS_4_1200 : List Cond := []
def tS_4_1199 : List Cond := (Jvm.Cond.selects "RunweaverModel" ({ cls := "RunweaverModel", name := "would", desc := "(II)I" } : Jvm.MethodName) ({ cls := "RunweaverModel", name := "would", desc := "(II)I" } : Jvm.MethodName)) :: tS_4_1200
def tS_4_1198 : List Cond := (Jvm.Cond.instanceMethod ({ cls := "RunweaverModel", name := "would", desc := "(II)I" } : Jvm.MethodName)) :: tS_4_1199
def tS_4_1197 : List Cond := (Jvm.Cond.methodLink "RunweaverLaw" (228 : Nat) ({ cls := "RunweaverModel", name := "would", desc := "(II)I" } : Jvm.MethodName)) :: tS_4_1198
def tS_4_1196 : List Cond := (Jvm.Cond.code ({ cls := "RunweaverModel", name := "rank", desc := "(II)I" } : Jvm.MethodName) prog_6_method_39_code (3 : Nat) (Option.some Jvm.ClassFile.FieldType.int)) :: tS_4_1197
def tS_4_1195 : List Cond := (Jvm.Cond.selects "RunweaverModel" ({ cls := "RunweaverModel", name := "rank", desc := "(II)I" } : Jvm.MethodName) ({ cls := "RunweaverModel", name := "rank", desc := "(II)I" } : Jvm.MethodName)) :: tS_4_1196
def tS_4_1194 : List Cond := (Jvm.Cond.instanceMethod ({ cls := "RunweaverModel", name := "rank", desc := "(II)I" } : Jvm.MethodName)) :: tS_4_1195
def tS_4_1193 : List Cond := (Jvm.Cond.methodLink "RunweaverLaw" (225 : Nat) ({ cls := "RunweaverModel", name := "rank", desc := "(II)I" } : Jvm.MethodName)) :: tS_4_1194
def tS_4_1192 : List Cond := (Jvm.Cond.code ({ cls := "RunweaverModel", name := "stamp", desc := "(II)I" } : Jvm.MethodName) prog_6_method_37_code (3 : Nat) (Option.some Jvm.ClassFile.FieldType.int)) :: tS_4_1193
def tS_4_1191 : List Cond := (Jvm.Cond.selects "RunweaverModel" ({ cls := "RunweaverModel", name := "stamp", desc := "(II)I" } : Jvm.MethodName) ({ cls := "RunweaverModel", name := "stamp", desc := "(II)I" } : Jvm.MethodName)) :: tS_4_1192
def tS_4_1190 : List Cond := (Jvm.Cond.instanceMethod ({ cls := "RunweaverModel", name := "stamp", desc := "(II)I" } : Jvm.MethodName)) :: tS_4_1191
def tS_4_1189 : List Cond := (Jvm.Cond.methodLink "RunweaverLaw" (222 : Nat) ({ cls := "RunweaverModel", name := "stamp", desc := "(II)I" } : Jvm.MethodName)) :: tS_4_1190
def tS_4_1188 : List Cond := (Jvm.Cond.code ({ cls := "RunweaverModel", name := "key", desc := "(II)I" } : Jvm.MethodName) prog_6_method_36_code (3 : Nat) (Option.some Jvm.ClassFile.FieldType.int)) :: tS_4_1189
def tS_4_1187 : List Cond := (Jvm.Cond.selects "RunweaverModel" ({ cls := "RunweaverModel", name := "key", desc := "(II)I" } : Jvm.MethodName) ({ cls := "RunweaverModel", name := "key", desc := "(II)I" } : Jvm.MethodName)) :: tS_4_1188
def tS_4_1186 : List Cond := (Jvm.Cond.instanceMethod ({ cls := "RunweaverModel", name := "key", desc := "(II)I" } : Jvm.MethodName)) :: tS_4_1187
def tS_4_1185 : List Cond := (Jvm.Cond.methodLink "RunweaverLaw" (219 : Nat) ({ cls := "RunweaverModel", name := "key", desc := "(II)I" } : Jvm.MethodName)) :: tS_4_1186
def tS_4_1184 : List Cond := (Jvm.Cond.code ({ cls := "RunweaverModel", name := "many", desc := "(I)I" } : Jvm.MethodName) prog_6_method_35_code (2 : Nat) (Option.some Jvm.ClassFile.FieldType.int)) :: tS_4_1185
def tS_4_1183 : List Cond := (Jvm.Cond.selects "RunweaverModel" ({ cls := "RunweaverModel", name := "many", desc := "(I)I" } : Jvm.MethodName) ({ cls := "RunweaverModel", name := "many", desc := "(I)I" } : Jvm.MethodName)) :: tS_4_1184
def tS_4_1182 : List Cond := (Jvm.Cond.instanceMethod ({ cls := "RunweaverModel", name := "many", desc := "(I)I" } : Jvm.MethodName)) :: tS_4_1183
def tS_4_1181 : List Cond := (Jvm.Cond.methodLink "RunweaverLaw" (216 : Nat) ({ cls := "RunweaverModel", name := "many", desc := "(I)I" } : Jvm.MethodName)) :: tS_4_1182
def tS_4_1180 : List Cond := (Jvm.Cond.code ({ cls := "RunweaverModel", name := "merge", desc := "(II)I" } : Jvm.MethodName) prog_6_method_34_code (3 : Nat) (Option.some Jvm.ClassFile.FieldType.int)) :: tS_4_1181
def tS_4_1179 : List Cond := (Jvm.Cond.selects "RunweaverModel" ({ cls := "RunweaverModel", name := "merge", desc := "(II)I" } : Jvm.MethodName) ({ cls := "RunweaverModel", name := "merge", desc := "(II)I" } : Jvm.MethodName)) :: tS_4_1180
def tS_4_1178 : List Cond := (Jvm.Cond.instanceMethod ({ cls := "RunweaverModel", name := "merge", desc := "(II)I" } : Jvm.MethodName)) :: tS_4_1179
def tS_4_1177 : List Cond := (Jvm.Cond.methodLink "RunweaverLaw" (213 : Nat) ({ cls := "RunweaverModel", name := "merge", desc := "(II)I" } : Jvm.MethodName)) :: tS_4_1178
def tS_4_1176 : List Cond := (Jvm.Cond.code ({ cls := "RunweaverModel", name := "join", desc := "(II)I" } : Jvm.MethodName) prog_6_method_33_code (3 : Nat) (Option.some Jvm.ClassFile.FieldType.int)) :: tS_4_1177
def tS_4_1175 : List Cond := (Jvm.Cond.selects "RunweaverModel" ({ cls := "RunweaverModel", name := "join", desc := "(II)I" } : Jvm.MethodName) ({ cls := "RunweaverModel", name := "join", desc := "(II)I" } : Jvm.MethodName)) :: tS_4_1176
def tS_4_1174 : List Cond := (Jvm.Cond.instanceMethod ({ cls := "RunweaverModel", name := "join", desc := "(II)I" } : Jvm.MethodName)) :: tS_4_1175
def tS_4_1173 : List Cond := (Jvm.Cond.methodLink "RunweaverLaw" (210 : Nat) ({ cls := "RunweaverModel", name := "join", desc := "(II)I" } : Jvm.MethodName)) :: tS_4_1174
def tS_4_1172 : List Cond := (Jvm.Cond.code ({ cls := "RunweaverModel", name := "coming", desc := "(II)[I" } : Jvm.MethodName) prog_6_method_11_code (3 : Nat) (Option.some (Jvm.ClassFile.FieldType.array Jvm.ClassFile.FieldType.int))) :: tS_4_1173
def tS_4_1171 : List Cond := (Jvm.Cond.instanceMethod ({ cls := "RunweaverModel", name := "coming", desc := "(II)[I" } : Jvm.MethodName)) :: tS_4_1172
def tS_4_1170 : List Cond := (Jvm.Cond.privateMethod ({ cls := "RunweaverModel", name := "coming", desc := "(II)[I" } : Jvm.MethodName)) :: tS_4_1171
def tS_4_1169 : List Cond := (Jvm.Cond.methodLink "RunweaverModel" (108 : Nat) ({ cls := "RunweaverModel", name := "coming", desc := "(II)[I" } : Jvm.MethodName)) :: tS_4_1170
def tS_4_1168 : List Cond := (Jvm.Cond.code ({ cls := "RunweaverModel", name := "copy", desc := "(II)I" } : Jvm.MethodName) prog_6_method_32_code (4 : Nat) (Option.some Jvm.ClassFile.FieldType.int)) :: tS_4_1169
def tS_4_1167 : List Cond := (Jvm.Cond.selects "RunweaverModel" ({ cls := "RunweaverModel", name := "copy", desc := "(II)I" } : Jvm.MethodName) ({ cls := "RunweaverModel", name := "copy", desc := "(II)I" } : Jvm.MethodName)) :: tS_4_1168
def tS_4_1166 : List Cond := (Jvm.Cond.instanceMethod ({ cls := "RunweaverModel", name := "copy", desc := "(II)I" } : Jvm.MethodName)) :: tS_4_1167
def tS_4_1165 : List Cond := (Jvm.Cond.methodLink "RunweaverLaw" (207 : Nat) ({ cls := "RunweaverModel", name := "copy", desc := "(II)I" } : Jvm.MethodName)) :: tS_4_1166
def tS_4_1164 : List Cond := (Jvm.Cond.code ({ cls := "RunweaverModel", name := "ranked", desc := "(II)I" } : Jvm.MethodName) prog_6_method_38_code (5 : Nat) (Option.some Jvm.ClassFile.FieldType.int)) :: tS_4_1165
def tS_4_1163 : List Cond := (Jvm.Cond.instanceMethod ({ cls := "RunweaverModel", name := "ranked", desc := "(II)I" } : Jvm.MethodName)) :: tS_4_1164
def tS_4_1162 : List Cond := (Jvm.Cond.privateMethod ({ cls := "RunweaverModel", name := "ranked", desc := "(II)I" } : Jvm.MethodName)) :: tS_4_1163
def tS_4_1161 : List Cond := (Jvm.Cond.methodLink "RunweaverModel" (101 : Nat) ({ cls := "RunweaverModel", name := "ranked", desc := "(II)I" } : Jvm.MethodName)) :: tS_4_1162
def tS_4_1160 : List Cond := (Jvm.Cond.code ({ cls := "RunweaverModel", name := "sorted", desc := "(I)[I" } : Jvm.MethodName) prog_6_method_30_code (4 : Nat) (Option.some (Jvm.ClassFile.FieldType.array Jvm.ClassFile.FieldType.int))) :: tS_4_1161
def tS_4_1159 : List Cond := (Jvm.Cond.instanceMethod ({ cls := "RunweaverModel", name := "sorted", desc := "(I)[I" } : Jvm.MethodName)) :: tS_4_1160
def tS_4_1158 : List Cond := (Jvm.Cond.privateMethod ({ cls := "RunweaverModel", name := "sorted", desc := "(I)[I" } : Jvm.MethodName)) :: tS_4_1159
def tS_4_1157 : List Cond := (Jvm.Cond.methodLink "RunweaverModel" (104 : Nat) ({ cls := "RunweaverModel", name := "sorted", desc := "(I)[I" } : Jvm.MethodName)) :: tS_4_1158
def tS_4_1156 : List Cond := (Jvm.Cond.code ({ cls := "RunweaverModel", name := "sort", desc := "(I)I" } : Jvm.MethodName) prog_6_method_31_code (6 : Nat) (Option.some Jvm.ClassFile.FieldType.int)) :: tS_4_1157
def tS_4_1155 : List Cond := (Jvm.Cond.selects "RunweaverModel" ({ cls := "RunweaverModel", name := "sort", desc := "(I)I" } : Jvm.MethodName) ({ cls := "RunweaverModel", name := "sort", desc := "(I)I" } : Jvm.MethodName)) :: tS_4_1156
def tS_4_1154 : List Cond := (Jvm.Cond.instanceMethod ({ cls := "RunweaverModel", name := "sort", desc := "(I)I" } : Jvm.MethodName)) :: tS_4_1155
def tS_4_1153 : List Cond := (Jvm.Cond.methodLink "RunweaverLaw" (204 : Nat) ({ cls := "RunweaverModel", name := "sort", desc := "(I)I" } : Jvm.MethodName)) :: tS_4_1154
def tS_4_1152 : List Cond := (Jvm.Cond.code ({ cls := "RunweaverModel", name := "part", desc := "([III)[I" } : Jvm.MethodName) prog_6_method_13_code (5 : Nat) (Option.some (Jvm.ClassFile.FieldType.array Jvm.ClassFile.FieldType.int))) :: tS_4_1153
def tS_4_1151 : List Cond := (Jvm.Cond.static ({ cls := "RunweaverModel", name := "part", desc := "([III)[I" } : Jvm.MethodName)) :: tS_4_1152
def tS_4_1150 : List Cond := (Jvm.Cond.methodLink "RunweaverModel" (42 : Nat) ({ cls := "RunweaverModel", name := "part", desc := "([III)[I" } : Jvm.MethodName)) :: tS_4_1151
def tS_4_1149 : List Cond := (Jvm.Cond.code ({ cls := "RunweaverModel", name := "keep", desc := "(III)I" } : Jvm.MethodName) prog_6_method_29_code (4 : Nat) (Option.some Jvm.ClassFile.FieldType.int)) :: tS_4_1150
def tS_4_1148 : List Cond := (Jvm.Cond.selects "RunweaverModel" ({ cls := "RunweaverModel", name := "keep", desc := "(III)I" } : Jvm.MethodName) ({ cls := "RunweaverModel", name := "keep", desc := "(III)I" } : Jvm.MethodName)) :: tS_4_1149
def tS_4_1147 : List Cond := (Jvm.Cond.instanceMethod ({ cls := "RunweaverModel", name := "keep", desc := "(III)I" } : Jvm.MethodName)) :: tS_4_1148
def tS_4_1146 : List Cond := (Jvm.Cond.methodLink "RunweaverLaw" (201 : Nat) ({ cls := "RunweaverModel", name := "keep", desc := "(III)I" } : Jvm.MethodName)) :: tS_4_1147
def tS_4_1145 : List Cond := (Jvm.Cond.code ({ cls := "RunweaverModel", name := "roll", desc := "(II)I" } : Jvm.MethodName) prog_6_method_28_code (5 : Nat) (Option.some Jvm.ClassFile.FieldType.int)) :: tS_4_1146
def tS_4_1144 : List Cond := (Jvm.Cond.selects "RunweaverModel" ({ cls := "RunweaverModel", name := "roll", desc := "(II)I" } : Jvm.MethodName) ({ cls := "RunweaverModel", name := "roll", desc := "(II)I" } : Jvm.MethodName)) :: tS_4_1145
def tS_4_1143 : List Cond := (Jvm.Cond.instanceMethod ({ cls := "RunweaverModel", name := "roll", desc := "(II)I" } : Jvm.MethodName)) :: tS_4_1144
def tS_4_1142 : List Cond := (Jvm.Cond.methodLink "RunweaverLaw" (198 : Nat) ({ cls := "RunweaverModel", name := "roll", desc := "(II)I" } : Jvm.MethodName)) :: tS_4_1143
def tS_4_1141 : List Cond := (Jvm.Cond.code ({ cls := "RunweaverModel", name := "unlike", desc := "([I[I)I" } : Jvm.MethodName) prog_6_method_16_code (4 : Nat) (Option.some Jvm.ClassFile.FieldType.int)) :: tS_4_1142
def tS_4_1140 : List Cond := (Jvm.Cond.static ({ cls := "RunweaverModel", name := "unlike", desc := "([I[I)I" } : Jvm.MethodName)) :: tS_4_1141
def tS_4_1139 : List Cond := (Jvm.Cond.methodLink "RunweaverModel" (93 : Nat) ({ cls := "RunweaverModel", name := "unlike", desc := "([I[I)I" } : Jvm.MethodName)) :: tS_4_1140
def tS_4_1138 : List Cond := (Jvm.Cond.code ({ cls := "RunweaverModel", name := "ordered", desc := "(I[I)I" } : Jvm.MethodName) prog_6_method_26_code (4 : Nat) (Option.some Jvm.ClassFile.FieldType.int)) :: tS_4_1139
def tS_4_1137 : List Cond := (Jvm.Cond.instanceMethod ({ cls := "RunweaverModel", name := "ordered", desc := "(I[I)I" } : Jvm.MethodName)) :: tS_4_1138
def tS_4_1136 : List Cond := (Jvm.Cond.privateMethod ({ cls := "RunweaverModel", name := "ordered", desc := "(I[I)I" } : Jvm.MethodName)) :: tS_4_1137
def tS_4_1135 : List Cond := (Jvm.Cond.methodLink "RunweaverModel" (97 : Nat) ({ cls := "RunweaverModel", name := "ordered", desc := "(I[I)I" } : Jvm.MethodName)) :: tS_4_1136
def tS_4_1134 : List Cond := (Jvm.Cond.code ({ cls := "RunweaverModel", name := "turn", desc := "(I)I" } : Jvm.MethodName) prog_6_method_27_code (4 : Nat) (Option.some Jvm.ClassFile.FieldType.int)) :: tS_4_1135
def tS_4_1133 : List Cond := (Jvm.Cond.selects "RunweaverModel" ({ cls := "RunweaverModel", name := "turn", desc := "(I)I" } : Jvm.MethodName) ({ cls := "RunweaverModel", name := "turn", desc := "(I)I" } : Jvm.MethodName)) :: tS_4_1134
def tS_4_1132 : List Cond := (Jvm.Cond.instanceMethod ({ cls := "RunweaverModel", name := "turn", desc := "(I)I" } : Jvm.MethodName)) :: tS_4_1133
def tS_4_1131 : List Cond := (Jvm.Cond.methodLink "RunweaverLaw" (195 : Nat) ({ cls := "RunweaverModel", name := "turn", desc := "(I)I" } : Jvm.MethodName)) :: tS_4_1132
def tS_4_1130 : List Cond := (Jvm.Cond.code ({ cls := "RunweaverModel", name := "swap", desc := "(III)I" } : Jvm.MethodName) prog_6_method_25_code (4 : Nat) (Option.some Jvm.ClassFile.FieldType.int)) :: tS_4_1131
def tS_4_1129 : List Cond := (Jvm.Cond.selects "RunweaverModel" ({ cls := "RunweaverModel", name := "swap", desc := "(III)I" } : Jvm.MethodName) ({ cls := "RunweaverModel", name := "swap", desc := "(III)I" } : Jvm.MethodName)) :: tS_4_1130
def tS_4_1128 : List Cond := (Jvm.Cond.instanceMethod ({ cls := "RunweaverModel", name := "swap", desc := "(III)I" } : Jvm.MethodName)) :: tS_4_1129
def tS_4_1127 : List Cond := (Jvm.Cond.methodLink "RunweaverLaw" (192 : Nat) ({ cls := "RunweaverModel", name := "swap", desc := "(III)I" } : Jvm.MethodName)) :: tS_4_1128
def tS_4_1126 : List Cond := (Jvm.Cond.code ({ cls := "RunweaverModel", name := "change", desc := "(III)V" } : Jvm.MethodName) prog_6_method_23_code (6 : Nat) (Option.none : Option Jvm.ClassFile.FieldType)) :: tS_4_1127
def tS_4_1125 : List Cond := (Jvm.Cond.instanceMethod ({ cls := "RunweaverModel", name := "change", desc := "(III)V" } : Jvm.MethodName)) :: tS_4_1126
def tS_4_1124 : List Cond := (Jvm.Cond.privateMethod ({ cls := "RunweaverModel", name := "change", desc := "(III)V" } : Jvm.MethodName)) :: tS_4_1125
def tS_4_1123 : List Cond := (Jvm.Cond.methodLink "RunweaverModel" (89 : Nat) ({ cls := "RunweaverModel", name := "change", desc := "(III)V" } : Jvm.MethodName)) :: tS_4_1124
def tS_4_1122 : List Cond := (Jvm.Cond.code ({ cls := "RunweaverModel", name := "side", desc := "(II)I" } : Jvm.MethodName) prog_6_method_12_code (2 : Nat) (Option.some Jvm.ClassFile.FieldType.int)) :: tS_4_1123
def tS_4_1121 : List Cond := (Jvm.Cond.static ({ cls := "RunweaverModel", name := "side", desc := "(II)I" } : Jvm.MethodName)) :: tS_4_1122
def tS_4_1120 : List Cond := (Jvm.Cond.methodLink "RunweaverModel" (111 : Nat) ({ cls := "RunweaverModel", name := "side", desc := "(II)I" } : Jvm.MethodName)) :: tS_4_1121
def tS_4_1119 : List Cond := (Jvm.Cond.code ({ cls := "RunweaverModel", name := "pairs", desc := "(II)I" } : Jvm.MethodName) prog_6_method_47_code (6 : Nat) (Option.some Jvm.ClassFile.FieldType.int)) :: tS_4_1120
def tS_4_1118 : List Cond := (Jvm.Cond.instanceMethod ({ cls := "RunweaverModel", name := "pairs", desc := "(II)I" } : Jvm.MethodName)) :: tS_4_1119
def tS_4_1117 : List Cond := (Jvm.Cond.privateMethod ({ cls := "RunweaverModel", name := "pairs", desc := "(II)I" } : Jvm.MethodName)) :: tS_4_1118
def tS_4_1116 : List Cond := (Jvm.Cond.methodLink "RunweaverModel" (86 : Nat) ({ cls := "RunweaverModel", name := "pairs", desc := "(II)I" } : Jvm.MethodName)) :: tS_4_1117
def tS_4_1115 : List Cond := (Jvm.Cond.code ({ cls := "RunweaverModel", name := "exchange", desc := "(II)I" } : Jvm.MethodName) prog_6_method_24_code (4 : Nat) (Option.some Jvm.ClassFile.FieldType.int)) :: tS_4_1116
def tS_4_1114 : List Cond := (Jvm.Cond.selects "RunweaverModel" ({ cls := "RunweaverModel", name := "exchange", desc := "(II)I" } : Jvm.MethodName) ({ cls := "RunweaverModel", name := "exchange", desc := "(II)I" } : Jvm.MethodName)) :: tS_4_1115
def tS_4_1113 : List Cond := (Jvm.Cond.instanceMethod ({ cls := "RunweaverModel", name := "exchange", desc := "(II)I" } : Jvm.MethodName)) :: tS_4_1114
def tS_4_1112 : List Cond := (Jvm.Cond.methodLink "RunweaverLaw" (189 : Nat) ({ cls := "RunweaverModel", name := "exchange", desc := "(II)I" } : Jvm.MethodName)) :: tS_4_1113
def tS_4_1111 : List Cond := (Jvm.Cond.code ({ cls := "RunweaverModel", name := "clear", desc := "(I)I" } : Jvm.MethodName) prog_6_method_22_code (3 : Nat) (Option.some Jvm.ClassFile.FieldType.int)) :: tS_4_1112
def tS_4_1110 : List Cond := (Jvm.Cond.selects "RunweaverModel" ({ cls := "RunweaverModel", name := "clear", desc := "(I)I" } : Jvm.MethodName) ({ cls := "RunweaverModel", name := "clear", desc := "(I)I" } : Jvm.MethodName)) :: tS_4_1111
def tS_4_1109 : List Cond := (Jvm.Cond.instanceMethod ({ cls := "RunweaverModel", name := "clear", desc := "(I)I" } : Jvm.MethodName)) :: tS_4_1110
def tS_4_1108 : List Cond := (Jvm.Cond.methodLink "RunweaverLaw" (186 : Nat) ({ cls := "RunweaverModel", name := "clear", desc := "(I)I" } : Jvm.MethodName)) :: tS_4_1109
def tS_4_1107 : List Cond := (Jvm.Cond.code ({ cls := "RunweaverModel", name := "choose", desc := "(I[I)V" } : Jvm.MethodName) prog_6_method_15_code (6 : Nat) (Option.none : Option Jvm.ClassFile.FieldType)) :: tS_4_1108
def tS_4_1106 : List Cond := (Jvm.Cond.instanceMethod ({ cls := "RunweaverModel", name := "choose", desc := "(I[I)V" } : Jvm.MethodName)) :: tS_4_1107
def tS_4_1105 : List Cond := (Jvm.Cond.privateMethod ({ cls := "RunweaverModel", name := "choose", desc := "(I[I)V" } : Jvm.MethodName)) :: tS_4_1106
def tS_4_1104 : List Cond := (Jvm.Cond.methodLink "RunweaverModel" (82 : Nat) ({ cls := "RunweaverModel", name := "choose", desc := "(I[I)V" } : Jvm.MethodName)) :: tS_4_1105
def tS_4_1103 : List Cond := (Jvm.Cond.code ({ cls := "RunweaverModel", name := "drop", desc := "(II)I" } : Jvm.MethodName) prog_6_method_21_code (6 : Nat) (Option.some Jvm.ClassFile.FieldType.int)) :: tS_4_1104
def tS_4_1102 : List Cond := (Jvm.Cond.selects "RunweaverModel" ({ cls := "RunweaverModel", name := "drop", desc := "(II)I" } : Jvm.MethodName) ({ cls := "RunweaverModel", name := "drop", desc := "(II)I" } : Jvm.MethodName)) :: tS_4_1103
def tS_4_1101 : List Cond := (Jvm.Cond.instanceMethod ({ cls := "RunweaverModel", name := "drop", desc := "(II)I" } : Jvm.MethodName)) :: tS_4_1102
def tS_4_1100 : List Cond := (Jvm.Cond.methodLink "RunweaverLaw" (182 : Nat) ({ cls := "RunweaverModel", name := "drop", desc := "(II)I" } : Jvm.MethodName)) :: tS_4_1101
def tS_4_1099 : List Cond := (Jvm.Cond.code ({ cls := "RunweaverModel", name := "isPlace", desc := "(II)Z" } : Jvm.MethodName) prog_6_method_6_code (3 : Nat) (Option.some Jvm.ClassFile.FieldType.boolean)) :: tS_4_1100
def tS_4_1098 : List Cond := (Jvm.Cond.instanceMethod ({ cls := "RunweaverModel", name := "isPlace", desc := "(II)Z" } : Jvm.MethodName)) :: tS_4_1099
def tS_4_1097 : List Cond := (Jvm.Cond.privateMethod ({ cls := "RunweaverModel", name := "isPlace", desc := "(II)Z" } : Jvm.MethodName)) :: tS_4_1098
def tS_4_1096 : List Cond := (Jvm.Cond.methodLink "RunweaverModel" (78 : Nat) ({ cls := "RunweaverModel", name := "isPlace", desc := "(II)Z" } : Jvm.MethodName)) :: tS_4_1097
def tS_4_1095 : List Cond := (Jvm.Cond.code ({ cls := "RunweaverModel", name := "put", desc := "(III)I" } : Jvm.MethodName) prog_6_method_20_code (5 : Nat) (Option.some Jvm.ClassFile.FieldType.int)) :: tS_4_1096
def tS_4_1094 : List Cond := (Jvm.Cond.selects "RunweaverModel" ({ cls := "RunweaverModel", name := "put", desc := "(III)I" } : Jvm.MethodName) ({ cls := "RunweaverModel", name := "put", desc := "(III)I" } : Jvm.MethodName)) :: tS_4_1095
def tS_4_1093 : List Cond := (Jvm.Cond.instanceMethod ({ cls := "RunweaverModel", name := "put", desc := "(III)I" } : Jvm.MethodName)) :: tS_4_1094
def tS_4_1092 : List Cond := (Jvm.Cond.methodLink "RunweaverLaw" (179 : Nat) ({ cls := "RunweaverModel", name := "put", desc := "(III)I" } : Jvm.MethodName)) :: tS_4_1093
def tS_4_1091 : List Cond := (Jvm.Cond.code ({ cls := "RunweaverModel", name := "both", desc := "([I[I)[I" } : Jvm.MethodName) prog_6_method_14_code (4 : Nat) (Option.some (Jvm.ClassFile.FieldType.array Jvm.ClassFile.FieldType.int))) :: tS_4_1092
def tS_4_1090 : List Cond := (Jvm.Cond.static ({ cls := "RunweaverModel", name := "both", desc := "([I[I)[I" } : Jvm.MethodName)) :: tS_4_1091
def tS_4_1089 : List Cond := (Jvm.Cond.methodLink "RunweaverModel" (74 : Nat) ({ cls := "RunweaverModel", name := "both", desc := "([I[I)[I" } : Jvm.MethodName)) :: tS_4_1090
def tS_4_1088 : List Cond := (Jvm.Cond.code ({ cls := "RunweaverModel", name := "refuse", desc := "()I" } : Jvm.MethodName) prog_6_method_9_code (1 : Nat) (Option.some Jvm.ClassFile.FieldType.int)) :: tS_4_1089
def tS_4_1087 : List Cond := (Jvm.Cond.instanceMethod ({ cls := "RunweaverModel", name := "refuse", desc := "()I" } : Jvm.MethodName)) :: tS_4_1088
def tS_4_1086 : List Cond := (Jvm.Cond.privateMethod ({ cls := "RunweaverModel", name := "refuse", desc := "()I" } : Jvm.MethodName)) :: tS_4_1087
def tS_4_1085 : List Cond := (Jvm.Cond.methodLink "RunweaverModel" (70 : Nat) ({ cls := "RunweaverModel", name := "refuse", desc := "()I" } : Jvm.MethodName)) :: tS_4_1086
def tS_4_1084 : List Cond := (Jvm.Cond.constant "RunweaverModel" (69 : Nat) (99999 : Int32)) :: tS_4_1085
def tS_4_1083 : List Cond := (Jvm.Cond.constant "RunweaverModel" (68 : Nat) (-99999 : Int32)) :: tS_4_1084
def tS_4_1082 : List Cond := (Jvm.Cond.code ({ cls := "RunweaverModel", name := "add", desc := "(II)I" } : Jvm.MethodName) prog_6_method_19_code (3 : Nat) (Option.some Jvm.ClassFile.FieldType.int)) :: tS_4_1083
def tS_4_1081 : List Cond := (Jvm.Cond.selects "RunweaverModel" ({ cls := "RunweaverModel", name := "add", desc := "(II)I" } : Jvm.MethodName) ({ cls := "RunweaverModel", name := "add", desc := "(II)I" } : Jvm.MethodName)) :: tS_4_1082
def tS_4_1080 : List Cond := (Jvm.Cond.instanceMethod ({ cls := "RunweaverModel", name := "add", desc := "(II)I" } : Jvm.MethodName)) :: tS_4_1081
def tS_4_1079 : List Cond := (Jvm.Cond.methodLink "RunweaverLaw" (175 : Nat) ({ cls := "RunweaverModel", name := "add", desc := "(II)I" } : Jvm.MethodName)) :: tS_4_1080
def tS_4_1078 : List Cond := (Jvm.Cond.code ({ cls := "RunweaverModel", name := "did", desc := "(I)I" } : Jvm.MethodName) prog_6_method_8_code (2 : Nat) (Option.some Jvm.ClassFile.FieldType.int)) :: tS_4_1079
def tS_4_1077 : List Cond := (Jvm.Cond.instanceMethod ({ cls := "RunweaverModel", name := "did", desc := "(I)I" } : Jvm.MethodName)) :: tS_4_1078
def tS_4_1076 : List Cond := (Jvm.Cond.privateMethod ({ cls := "RunweaverModel", name := "did", desc := "(I)I" } : Jvm.MethodName)) :: tS_4_1077
def tS_4_1075 : List Cond := (Jvm.Cond.methodLink "RunweaverModel" (65 : Nat) ({ cls := "RunweaverModel", name := "did", desc := "(I)I" } : Jvm.MethodName)) :: tS_4_1076
def tS_4_1074 : List Cond := (Jvm.Cond.code ({ cls := "RunweaverModel", name := "made", desc := "(II)[I" } : Jvm.MethodName) prog_6_method_10_code (5 : Nat) (Option.some (Jvm.ClassFile.FieldType.array Jvm.ClassFile.FieldType.int))) :: tS_4_1075
def tS_4_1073 : List Cond := (Jvm.Cond.instanceMethod ({ cls := "RunweaverModel", name := "made", desc := "(II)[I" } : Jvm.MethodName)) :: tS_4_1074
def tS_4_1072 : List Cond := (Jvm.Cond.privateMethod ({ cls := "RunweaverModel", name := "made", desc := "(II)[I" } : Jvm.MethodName)) :: tS_4_1073
def tS_4_1071 : List Cond := (Jvm.Cond.methodLink "RunweaverModel" (38 : Nat) ({ cls := "RunweaverModel", name := "made", desc := "(II)[I" } : Jvm.MethodName)) :: tS_4_1072
def tS_4_1070 : List Cond := (Jvm.Cond.methodLink "RunweaverModel" (46 : Nat) ({ cls := "java/lang/Math", name := "min", desc := "(II)I" } : Jvm.MethodName)) :: tS_4_1071
def tS_4_1069 : List Cond := (Jvm.Cond.code ({ cls := "RunweaverModel", name := "patterned", desc := "(IIIII)I" } : Jvm.MethodName) prog_6_method_17_code (7 : Nat) (Option.some Jvm.ClassFile.FieldType.int)) :: tS_4_1070
def tS_4_1068 : List Cond := (Jvm.Cond.static ({ cls := "RunweaverModel", name := "patterned", desc := "(IIIII)I" } : Jvm.MethodName)) :: tS_4_1069
def tS_4_1067 : List Cond := (Jvm.Cond.methodLink "RunweaverModel" (61 : Nat) ({ cls := "RunweaverModel", name := "patterned", desc := "(IIIII)I" } : Jvm.MethodName)) :: tS_4_1068
def tS_4_1066 : List Cond := (Jvm.Cond.constant "RunweaverModel" (60 : Nat) (65536 : Int32)) :: tS_4_1067
def tS_4_1065 : List Cond := (Jvm.Cond.code ({ cls := "RunweaverModel", name := "isLet", desc := "(ZZ)Z" } : Jvm.MethodName) prog_6_method_7_code (3 : Nat) (Option.some Jvm.ClassFile.FieldType.boolean)) :: tS_4_1066
def tS_4_1064 : List Cond := (Jvm.Cond.instanceMethod ({ cls := "RunweaverModel", name := "isLet", desc := "(ZZ)Z" } : Jvm.MethodName)) :: tS_4_1065
def tS_4_1063 : List Cond := (Jvm.Cond.privateMethod ({ cls := "RunweaverModel", name := "isLet", desc := "(ZZ)Z" } : Jvm.MethodName)) :: tS_4_1064
def tS_4_1062 : List Cond := (Jvm.Cond.methodLink "RunweaverModel" (56 : Nat) ({ cls := "RunweaverModel", name := "isLet", desc := "(ZZ)Z" } : Jvm.MethodName)) :: tS_4_1063
def tS_4_1061 : List Cond := (Jvm.Cond.code ({ cls := "RunweaverModel", name := "room", desc := "(I)I" } : Jvm.MethodName) prog_6_method_4_code (1 : Nat) (Option.some Jvm.ClassFile.FieldType.int)) :: tS_4_1062
def tS_4_1060 : List Cond := (Jvm.Cond.static ({ cls := "RunweaverModel", name := "room", desc := "(I)I" } : Jvm.MethodName)) :: tS_4_1061
def tS_4_1059 : List Cond := (Jvm.Cond.methodLink "RunweaverModel" (52 : Nat) ({ cls := "RunweaverModel", name := "room", desc := "(I)I" } : Jvm.MethodName)) :: tS_4_1060
def tS_4_1058 : List Cond := (Jvm.Cond.code ({ cls := "RunweaverModel", name := "isIn", desc := "(III)Z" } : Jvm.MethodName) prog_6_method_3_code (3 : Nat) (Option.some Jvm.ClassFile.FieldType.boolean)) :: tS_4_1059
def tS_4_1057 : List Cond := (Jvm.Cond.static ({ cls := "RunweaverModel", name := "isIn", desc := "(III)Z" } : Jvm.MethodName)) :: tS_4_1058
def tS_4_1056 : List Cond := (Jvm.Cond.methodLink "RunweaverModel" (21 : Nat) ({ cls := "RunweaverModel", name := "isIn", desc := "(III)Z" } : Jvm.MethodName)) :: tS_4_1057
def tS_4_1055 : List Cond := (Jvm.Cond.code ({ cls := "RunweaverModel", name := "isRow", desc := "(I)Z" } : Jvm.MethodName) prog_6_method_5_code (1 : Nat) (Option.some Jvm.ClassFile.FieldType.boolean)) :: tS_4_1056
def tS_4_1054 : List Cond := (Jvm.Cond.static ({ cls := "RunweaverModel", name := "isRow", desc := "(I)Z" } : Jvm.MethodName)) :: tS_4_1055
def tS_4_1053 : List Cond := (Jvm.Cond.methodLink "RunweaverModel" (25 : Nat) ({ cls := "RunweaverModel", name := "isRow", desc := "(I)Z" } : Jvm.MethodName)) :: tS_4_1054
def tS_4_1052 : List Cond := (Jvm.Cond.code ({ cls := "RunweaverModel", name := "fill", desc := "(IIIII)I" } : Jvm.MethodName) prog_6_method_18_code (9 : Nat) (Option.some Jvm.ClassFile.FieldType.int)) :: tS_4_1053
def tS_4_1051 : List Cond := (Jvm.Cond.selects "RunweaverModel" ({ cls := "RunweaverModel", name := "fill", desc := "(IIIII)I" } : Jvm.MethodName) ({ cls := "RunweaverModel", name := "fill", desc := "(IIIII)I" } : Jvm.MethodName)) :: tS_4_1052
def tS_4_1050 : List Cond := (Jvm.Cond.instanceMethod ({ cls := "RunweaverModel", name := "fill", desc := "(IIIII)I" } : Jvm.MethodName)) :: tS_4_1051
def tS_4_1049 : List Cond := (Jvm.Cond.methodLink "RunweaverLaw" (171 : Nat) ({ cls := "RunweaverModel", name := "fill", desc := "(IIIII)I" } : Jvm.MethodName)) :: tS_4_1050
def tS_4_1048 : List Cond := (Jvm.Cond.code ({ cls := "RunweaverModel", name := "thrown", desc := "()I" } : Jvm.MethodName) prog_6_method_2_code (1 : Nat) (Option.some Jvm.ClassFile.FieldType.int)) :: tS_4_1049
def tS_4_1047 : List Cond := (Jvm.Cond.selects "RunweaverModel" ({ cls := "RunweaverModel", name := "thrown", desc := "()I" } : Jvm.MethodName) ({ cls := "RunweaverModel", name := "thrown", desc := "()I" } : Jvm.MethodName)) :: tS_4_1048
def tS_4_1046 : List Cond := (Jvm.Cond.instanceMethod ({ cls := "RunweaverModel", name := "thrown", desc := "()I" } : Jvm.MethodName)) :: tS_4_1047
def tS_4_1045 : List Cond := (Jvm.Cond.methodLink "RunweaverLaw" (297 : Nat) ({ cls := "RunweaverModel", name := "thrown", desc := "()I" } : Jvm.MethodName)) :: tS_4_1046
def tS_4_1044 : List Cond := (Jvm.Cond.superclass "RunweaverModel" "java/lang/Object") :: tS_4_1045
def tS_4_1043 : List Cond := (Jvm.Cond.soleField "RunweaverModel" "thrown") :: tS_4_1044
def tS_4_1042 : List Cond := (Jvm.Cond.lays "RunweaverModel" "RunweaverModel" "thrown" "I") :: tS_4_1043
def tS_4_1041 : List Cond := (Jvm.Cond.soleField "RunweaverModel" "knocks") :: tS_4_1042
def tS_4_1040 : List Cond := (Jvm.Cond.lays "RunweaverModel" "RunweaverModel" "knocks" "I") :: tS_4_1041
def tS_4_1039 : List Cond := (Jvm.Cond.soleField "RunweaverModel" "refused") :: tS_4_1040
def tS_4_1038 : List Cond := (Jvm.Cond.lays "RunweaverModel" "RunweaverModel" "refused" "I") :: tS_4_1039
def tS_4_1037 : List Cond := (Jvm.Cond.soleField "RunweaverModel" "acts") :: tS_4_1038
def tS_4_1036 : List Cond := (Jvm.Cond.lays "RunweaverModel" "RunweaverModel" "acts" "I") :: tS_4_1037
def tS_4_1035 : List Cond := (Jvm.Cond.soleField "RunweaverModel" "given") :: tS_4_1036
def tS_4_1034 : List Cond := (Jvm.Cond.lays "RunweaverModel" "RunweaverModel" "given" "I") :: tS_4_1035
def tS_4_1033 : List Cond := (Jvm.Cond.soleField "RunweaverModel" "stamps") :: tS_4_1034
def tS_4_1032 : List Cond := (Jvm.Cond.laysFinal "RunweaverModel" "RunweaverModel" "stamps" "[[I") :: tS_4_1033
def tS_4_1031 : List Cond := (Jvm.Cond.soleField "RunweaverModel" "keys") :: tS_4_1032
def tS_4_1030 : List Cond := (Jvm.Cond.laysFinal "RunweaverModel" "RunweaverModel" "keys" "[[I") :: tS_4_1031
def tS_4_1029 : List Cond := (Jvm.Cond.fieldLink "RunweaverModel" (17 : Nat) "RunweaverModel" "thrown" "I") :: tS_4_1030
def tS_4_1028 : List Cond := (Jvm.Cond.fieldLink "RunweaverModel" (146 : Nat) "RunweaverModel" "knocks" "I") :: tS_4_1029
def tS_4_1027 : List Cond := (Jvm.Cond.fieldLink "RunweaverModel" (32 : Nat) "RunweaverModel" "refused" "I") :: tS_4_1028
def tS_4_1026 : List Cond := (Jvm.Cond.fieldLink "RunweaverModel" (29 : Nat) "RunweaverModel" "acts" "I") :: tS_4_1027
def tS_4_1025 : List Cond := (Jvm.Cond.fieldLink "RunweaverModel" (35 : Nat) "RunweaverModel" "given" "I") :: tS_4_1026
def tS_4_1024 : List Cond := (Jvm.Cond.fieldLink "RunweaverModel" (14 : Nat) "RunweaverModel" "stamps" "[[I") :: tS_4_1025
def tS_4_1023 : List Cond := (Jvm.Cond.fieldLink "RunweaverModel" (11 : Nat) "RunweaverModel" "keys" "[[I") :: tS_4_1024
def tS_4_1022 : List Cond := (Jvm.Cond.arrayOver (Jvm.ClassFile.FieldType.array Jvm.ClassFile.FieldType.int)) :: tS_4_1023
def tS_4_1021 : List Cond := (Jvm.Cond.classLink "RunweaverModel" (9 : Nat) "[[I") :: tS_4_1022
def tS_4_1020 : List Cond := (Jvm.Cond.methodLink "RunweaverModel" (1 : Nat) ({ cls := "java/lang/Object", name := "<init>", desc := "()V" } : Jvm.MethodName)) :: tS_4_1021
def tS_4_1019 : List Cond := (Jvm.Cond.code ({ cls := "RunweaverModel", name := "<init>", desc := "()V" } : Jvm.MethodName) prog_6_method_1_code (1 : Nat) (Option.none : Option Jvm.ClassFile.FieldType)) :: tS_4_1020
def tS_4_1018 : List Cond := (Jvm.Cond.instanceMethod ({ cls := "RunweaverModel", name := "<init>", desc := "()V" } : Jvm.MethodName)) :: tS_4_1019
def tS_4_1017 : List Cond := (Jvm.Cond.methodLink "RunweaverLaw" (164 : Nat) ({ cls := "RunweaverModel", name := "<init>", desc := "()V" } : Jvm.MethodName)) :: tS_4_1018
def tS_4_1016 : List Cond := (Jvm.Cond.instantiable "RunweaverModel" (7 : Nat)) :: tS_4_1017
def tS_4_1015 : List Cond := (Jvm.Cond.classLink "RunweaverLaw" (162 : Nat) "RunweaverModel") :: tS_4_1016
def tS_4_1014 : List Cond := (Jvm.Cond.methodLink "RunweaverLaw" (158 : Nat) ({ cls := "Runweaver", name := "house", desc := "(I)I" } : Jvm.MethodName)) :: tS_4_1015
def tS_4_1013 : List Cond := (Jvm.Cond.codeWith ({ cls := "RunweaverLaw", name := "house", desc := "(LRunweaver;ILRunweaverLaw$Out;)I" } : Jvm.MethodName) method_44_code (4 : Nat) (Option.some Jvm.ClassFile.FieldType.int) [((0 : Nat), (10 : Nat), (13 : Nat), (21 : Nat))]) :: tS_4_1014
def tS_4_1012 : List Cond := (Jvm.Cond.static ({ cls := "RunweaverLaw", name := "house", desc := "(LRunweaver;ILRunweaverLaw$Out;)I" } : Jvm.MethodName)) :: tS_4_1013
def tS_4_1011 : List Cond := (Jvm.Cond.methodLink "RunweaverLaw" (304 : Nat) ({ cls := "RunweaverLaw", name := "house", desc := "(LRunweaver;ILRunweaverLaw$Out;)I" } : Jvm.MethodName)) :: tS_4_1012
def tS_4_1010 : List Cond := (Jvm.Cond.methodLink "RunweaverLaw" (155 : Nat) ({ cls := "Runweaver", name := "mark", desc := "(IZ)I" } : Jvm.MethodName)) :: tS_4_1011
def tS_4_1009 : List Cond := (Jvm.Cond.codeWith ({ cls := "RunweaverLaw", name := "mark", desc := "(LRunweaver;IZLRunweaverLaw$Out;)I" } : Jvm.MethodName) method_43_code (5 : Nat) (Option.some Jvm.ClassFile.FieldType.int) [((0 : Nat), (11 : Nat), (14 : Nat), (19 : Nat))]) :: tS_4_1010
def tS_4_1008 : List Cond := (Jvm.Cond.static ({ cls := "RunweaverLaw", name := "mark", desc := "(LRunweaver;IZLRunweaverLaw$Out;)I" } : Jvm.MethodName)) :: tS_4_1009
def tS_4_1007 : List Cond := (Jvm.Cond.methodLink "RunweaverLaw" (301 : Nat) ({ cls := "RunweaverLaw", name := "mark", desc := "(LRunweaver;IZLRunweaverLaw$Out;)I" } : Jvm.MethodName)) :: tS_4_1008
def tS_4_1006 : List Cond := (Jvm.Cond.code ({ cls := "Runweaver", name := "bag", desc := "(II)Z" } : Jvm.MethodName) prog_1_method_42_code (5 : Nat) (Option.some Jvm.ClassFile.FieldType.boolean)) :: tS_4_1007
def tS_4_1005 : List Cond := (Jvm.Cond.selects "Runweaver" ({ cls := "Runweaver", name := "bag", desc := "(II)Z" } : Jvm.MethodName) ({ cls := "Runweaver", name := "bag", desc := "(II)Z" } : Jvm.MethodName)) :: tS_4_1006
def tS_4_1004 : List Cond := (Jvm.Cond.instanceMethod ({ cls := "Runweaver", name := "bag", desc := "(II)Z" } : Jvm.MethodName)) :: tS_4_1005
def tS_4_1003 : List Cond := (Jvm.Cond.methodLink "RunweaverLaw" (152 : Nat) ({ cls := "Runweaver", name := "bag", desc := "(II)Z" } : Jvm.MethodName)) :: tS_4_1004
def tS_4_1002 : List Cond := (Jvm.Cond.codeWith ({ cls := "RunweaverLaw", name := "bag", desc := "(LRunweaver;IILRunweaverLaw$Out;)I" } : Jvm.MethodName) method_42_code (5 : Nat) (Option.some Jvm.ClassFile.FieldType.int) [((0 : Nat), (18 : Nat), (21 : Nat), (19 : Nat))]) :: tS_4_1003
def tS_4_1001 : List Cond := (Jvm.Cond.static ({ cls := "RunweaverLaw", name := "bag", desc := "(LRunweaver;IILRunweaverLaw$Out;)I" } : Jvm.MethodName)) :: tS_4_1002
def tS_4_1000 : List Cond := (Jvm.Cond.methodLink "RunweaverLaw" (294 : Nat) ({ cls := "RunweaverLaw", name := "bag", desc := "(LRunweaver;IILRunweaverLaw$Out;)I" } : Jvm.MethodName)) :: tS_4_1001
def tS_4_999 : List Cond := (Jvm.Cond.code ({ cls := "Runweaver", name := "same", desc := "(II)Z" } : Jvm.MethodName) prog_1_method_41_code (5 : Nat) (Option.some Jvm.ClassFile.FieldType.boolean)) :: tS_4_1000
def tS_4_998 : List Cond := (Jvm.Cond.selects "Runweaver" ({ cls := "Runweaver", name := "same", desc := "(II)Z" } : Jvm.MethodName) ({ cls := "Runweaver", name := "same", desc := "(II)Z" } : Jvm.MethodName)) :: tS_4_999
def tS_4_997 : List Cond := (Jvm.Cond.instanceMethod ({ cls := "Runweaver", name := "same", desc := "(II)Z" } : Jvm.MethodName)) :: tS_4_998
def tS_4_996 : List Cond := (Jvm.Cond.methodLink "RunweaverLaw" (148 : Nat) ({ cls := "Runweaver", name := "same", desc := "(II)Z" } : Jvm.MethodName)) :: tS_4_997
def tS_4_995 : List Cond := (Jvm.Cond.codeWith ({ cls := "RunweaverLaw", name := "same", desc := "(LRunweaver;IILRunweaverLaw$Out;)I" } : Jvm.MethodName) method_41_code (5 : Nat) (Option.some Jvm.ClassFile.FieldType.int) [((0 : Nat), (18 : Nat), (21 : Nat), (19 : Nat))]) :: tS_4_996
def tS_4_994 : List Cond := (Jvm.Cond.static ({ cls := "RunweaverLaw", name := "same", desc := "(LRunweaver;IILRunweaverLaw$Out;)I" } : Jvm.MethodName)) :: tS_4_995
def tS_4_993 : List Cond := (Jvm.Cond.methodLink "RunweaverLaw" (291 : Nat) ({ cls := "RunweaverLaw", name := "same", desc := "(LRunweaver;IILRunweaverLaw$Out;)I" } : Jvm.MethodName)) :: tS_4_994
def tS_4_992 : List Cond := (Jvm.Cond.methodLink "RunweaverLaw" (145 : Nat) ({ cls := "Runweaver", name := "sum", desc := "(I)I" } : Jvm.MethodName)) :: tS_4_993
def tS_4_991 : List Cond := (Jvm.Cond.codeWith ({ cls := "RunweaverLaw", name := "sum", desc := "(LRunweaver;ILRunweaverLaw$Out;)I" } : Jvm.MethodName) method_40_code (4 : Nat) (Option.some Jvm.ClassFile.FieldType.int) [((0 : Nat), (10 : Nat), (13 : Nat), (19 : Nat))]) :: tS_4_992
def tS_4_990 : List Cond := (Jvm.Cond.static ({ cls := "RunweaverLaw", name := "sum", desc := "(LRunweaver;ILRunweaverLaw$Out;)I" } : Jvm.MethodName)) :: tS_4_991
def tS_4_989 : List Cond := (Jvm.Cond.methodLink "RunweaverLaw" (288 : Nat) ({ cls := "RunweaverLaw", name := "sum", desc := "(LRunweaver;ILRunweaverLaw$Out;)I" } : Jvm.MethodName)) :: tS_4_990
def tS_4_988 : List Cond := (Jvm.Cond.code ({ cls := "Runweaver$Row", name := "commonestKeyOfSorted", desc := "()I" } : Jvm.MethodName) prog_3_method_32_code (5 : Nat) (Option.some Jvm.ClassFile.FieldType.int)) :: tS_4_989
def tS_4_987 : List Cond := (Jvm.Cond.selects "Runweaver$Row" ({ cls := "Runweaver$Row", name := "commonestKeyOfSorted", desc := "()I" } : Jvm.MethodName) ({ cls := "Runweaver$Row", name := "commonestKeyOfSorted", desc := "()I" } : Jvm.MethodName)) :: tS_4_988
def tS_4_986 : List Cond := (Jvm.Cond.instanceMethod ({ cls := "Runweaver$Row", name := "commonestKeyOfSorted", desc := "()I" } : Jvm.MethodName)) :: tS_4_987
def tS_4_985 : List Cond := (Jvm.Cond.methodLink "Runweaver" (211 : Nat) ({ cls := "Runweaver$Row", name := "commonestKeyOfSorted", desc := "()I" } : Jvm.MethodName)) :: tS_4_986
def tS_4_984 : List Cond := (Jvm.Cond.code ({ cls := "Runweaver", name := "most", desc := "(I)I" } : Jvm.MethodName) prog_1_method_39_code (2 : Nat) (Option.some Jvm.ClassFile.FieldType.int)) :: tS_4_985
def tS_4_983 : List Cond := (Jvm.Cond.selects "Runweaver" ({ cls := "Runweaver", name := "most", desc := "(I)I" } : Jvm.MethodName) ({ cls := "Runweaver", name := "most", desc := "(I)I" } : Jvm.MethodName)) :: tS_4_984
def tS_4_982 : List Cond := (Jvm.Cond.instanceMethod ({ cls := "Runweaver", name := "most", desc := "(I)I" } : Jvm.MethodName)) :: tS_4_983
def tS_4_981 : List Cond := (Jvm.Cond.methodLink "RunweaverLaw" (142 : Nat) ({ cls := "Runweaver", name := "most", desc := "(I)I" } : Jvm.MethodName)) :: tS_4_982
def tS_4_980 : List Cond := (Jvm.Cond.codeWith ({ cls := "RunweaverLaw", name := "most", desc := "(LRunweaver;ILRunweaverLaw$Out;)I" } : Jvm.MethodName) method_39_code (4 : Nat) (Option.some Jvm.ClassFile.FieldType.int) [((0 : Nat), (10 : Nat), (13 : Nat), (19 : Nat))]) :: tS_4_981
def tS_4_979 : List Cond := (Jvm.Cond.static ({ cls := "RunweaverLaw", name := "most", desc := "(LRunweaver;ILRunweaverLaw$Out;)I" } : Jvm.MethodName)) :: tS_4_980
def tS_4_978 : List Cond := (Jvm.Cond.methodLink "RunweaverLaw" (285 : Nat) ({ cls := "RunweaverLaw", name := "most", desc := "(LRunweaver;ILRunweaverLaw$Out;)I" } : Jvm.MethodName)) :: tS_4_979
def tS_4_977 : List Cond := (Jvm.Cond.methodLink "RunweaverLaw" (139 : Nat) ({ cls := "Runweaver", name := "unlike", desc := "(I)I" } : Jvm.MethodName)) :: tS_4_978
def tS_4_976 : List Cond := (Jvm.Cond.codeWith ({ cls := "RunweaverLaw", name := "unlike", desc := "(LRunweaver;ILRunweaverLaw$Out;)I" } : Jvm.MethodName) method_38_code (4 : Nat) (Option.some Jvm.ClassFile.FieldType.int) [((0 : Nat), (10 : Nat), (13 : Nat), (19 : Nat))]) :: tS_4_977
def tS_4_975 : List Cond := (Jvm.Cond.static ({ cls := "RunweaverLaw", name := "unlike", desc := "(LRunweaver;ILRunweaverLaw$Out;)I" } : Jvm.MethodName)) :: tS_4_976
def tS_4_974 : List Cond := (Jvm.Cond.methodLink "RunweaverLaw" (282 : Nat) ({ cls := "RunweaverLaw", name := "unlike", desc := "(LRunweaver;ILRunweaverLaw$Out;)I" } : Jvm.MethodName)) :: tS_4_975
def tS_4_973 : List Cond := (Jvm.Cond.code ({ cls := "Runweaver$Row", name := "leastKey", desc := "()I" } : Jvm.MethodName) prog_3_method_27_code (3 : Nat) (Option.some Jvm.ClassFile.FieldType.int)) :: tS_4_974
def tS_4_972 : List Cond := (Jvm.Cond.selects "Runweaver$Row" ({ cls := "Runweaver$Row", name := "leastKey", desc := "()I" } : Jvm.MethodName) ({ cls := "Runweaver$Row", name := "leastKey", desc := "()I" } : Jvm.MethodName)) :: tS_4_973
def tS_4_971 : List Cond := (Jvm.Cond.instanceMethod ({ cls := "Runweaver$Row", name := "leastKey", desc := "()I" } : Jvm.MethodName)) :: tS_4_972
def tS_4_970 : List Cond := (Jvm.Cond.methodLink "Runweaver" (205 : Nat) ({ cls := "Runweaver$Row", name := "leastKey", desc := "()I" } : Jvm.MethodName)) :: tS_4_971
def tS_4_969 : List Cond := (Jvm.Cond.constant "Runweaver$Row" (49 : Nat) (-100000 : Int32)) :: tS_4_970
def tS_4_968 : List Cond := (Jvm.Cond.code ({ cls := "Runweaver$Row", name := "greatestKey", desc := "()I" } : Jvm.MethodName) prog_3_method_28_code (3 : Nat) (Option.some Jvm.ClassFile.FieldType.int)) :: tS_4_969
def tS_4_967 : List Cond := (Jvm.Cond.selects "Runweaver$Row" ({ cls := "Runweaver$Row", name := "greatestKey", desc := "()I" } : Jvm.MethodName) ({ cls := "Runweaver$Row", name := "greatestKey", desc := "()I" } : Jvm.MethodName)) :: tS_4_968
def tS_4_966 : List Cond := (Jvm.Cond.instanceMethod ({ cls := "Runweaver$Row", name := "greatestKey", desc := "()I" } : Jvm.MethodName)) :: tS_4_967
def tS_4_965 : List Cond := (Jvm.Cond.methodLink "Runweaver" (202 : Nat) ({ cls := "Runweaver$Row", name := "greatestKey", desc := "()I" } : Jvm.MethodName)) :: tS_4_966
def tS_4_964 : List Cond := (Jvm.Cond.code ({ cls := "Runweaver", name := "end", desc := "(IZ)I" } : Jvm.MethodName) prog_1_method_37_code (4 : Nat) (Option.some Jvm.ClassFile.FieldType.int)) :: tS_4_965
def tS_4_963 : List Cond := (Jvm.Cond.selects "Runweaver" ({ cls := "Runweaver", name := "end", desc := "(IZ)I" } : Jvm.MethodName) ({ cls := "Runweaver", name := "end", desc := "(IZ)I" } : Jvm.MethodName)) :: tS_4_964
def tS_4_962 : List Cond := (Jvm.Cond.instanceMethod ({ cls := "Runweaver", name := "end", desc := "(IZ)I" } : Jvm.MethodName)) :: tS_4_963
def tS_4_961 : List Cond := (Jvm.Cond.methodLink "RunweaverLaw" (135 : Nat) ({ cls := "Runweaver", name := "end", desc := "(IZ)I" } : Jvm.MethodName)) :: tS_4_962
def tS_4_960 : List Cond := (Jvm.Cond.codeWith ({ cls := "RunweaverLaw", name := "end", desc := "(LRunweaver;IZLRunweaverLaw$Out;)I" } : Jvm.MethodName) method_37_code (5 : Nat) (Option.some Jvm.ClassFile.FieldType.int) [((0 : Nat), (11 : Nat), (14 : Nat), (19 : Nat))]) :: tS_4_961
set_option maxRecDepth 100000 in
theorem tU_4 : tables_1_5 = tS_4_960 := rfl
theorem tV_4_960 {w : Cond} (h0 : w ∈ tS_4_960) : w ∈ lw_tbl := List.mem_append_left _ (List.mem_append_right _ (have h : w ∈ tables_1_5 := tU_4 ▸ h0; (List.mem_append_right _ (List.mem_append_right _ (List.mem_append_right _ (List.mem_append_right _ (List.mem_append_left _ h)))) : w ∈ tables_1)))
theorem tV_4_961 {w : Cond} (h : w ∈ tS_4_961) : w ∈ lw_tbl := tV_4_960 (List.mem_cons_of_mem _ h)
theorem tV_4_962 {w : Cond} (h : w ∈ tS_4_962) : w ∈ lw_tbl := tV_4_961 (List.mem_cons_of_mem _ h)
theorem tV_4_963 {w : Cond} (h : w ∈ tS_4_963) : w ∈ lw_tbl := tV_4_962 (List.mem_cons_of_mem _ h)
theorem tV_4_964 {w : Cond} (h : w ∈ tS_4_964) : w ∈ lw_tbl := tV_4_963 (List.mem_cons_of_mem _ h)
theorem tV_4_965 {w : Cond} (h : w ∈ tS_4_965) : w ∈ lw_tbl := tV_4_964 (List.mem_cons_of_mem _ h)
theorem tV_4_966 {w : Cond} (h : w ∈ tS_4_966) : w ∈ lw_tbl := tV_4_965 (List.mem_cons_of_mem _ h)
theorem tV_4_967 {w : Cond} (h : w ∈ tS_4_967) : w ∈ lw_tbl := tV_4_966 (List.mem_cons_of_mem _ h)
theorem tV_4_968 {w : Cond} (h : w ∈ tS_4_968) : w ∈ lw_tbl := tV_4_967 (List.mem_cons_of_mem _ h)
theorem tV_4_969 {w : Cond} (h : w ∈ tS_4_969) : w ∈ lw_tbl := tV_4_968 (List.mem_cons_of_mem _ h)
theorem tV_4_970 {w : Cond} (h : w ∈ tS_4_970) : w ∈ lw_tbl := tV_4_969 (List.mem_cons_of_mem _ h)
theorem tV_4_971 {w : Cond} (h : w ∈ tS_4_971) : w ∈ lw_tbl := tV_4_970 (List.mem_cons_of_mem _ h)
theorem tV_4_972 {w : Cond} (h : w ∈ tS_4_972) : w ∈ lw_tbl := tV_4_971 (List.mem_cons_of_mem _ h)
theorem tV_4_973 {w : Cond} (h : w ∈ tS_4_973) : w ∈ lw_tbl := tV_4_972 (List.mem_cons_of_mem _ h)
theorem tV_4_974 {w : Cond} (h : w ∈ tS_4_974) : w ∈ lw_tbl := tV_4_973 (List.mem_cons_of_mem _ h)
theorem tV_4_975 {w : Cond} (h : w ∈ tS_4_975) : w ∈ lw_tbl := tV_4_974 (List.mem_cons_of_mem _ h)
theorem tV_4_976 {w : Cond} (h : w ∈ tS_4_976) : w ∈ lw_tbl := tV_4_975 (List.mem_cons_of_mem _ h)
theorem tV_4_977 {w : Cond} (h : w ∈ tS_4_977) : w ∈ lw_tbl := tV_4_976 (List.mem_cons_of_mem _ h)
theorem tV_4_978 {w : Cond} (h : w ∈ tS_4_978) : w ∈ lw_tbl := tV_4_977 (List.mem_cons_of_mem _ h)
theorem tV_4_979 {w : Cond} (h : w ∈ tS_4_979) : w ∈ lw_tbl := tV_4_978 (List.mem_cons_of_mem _ h)
theorem tV_4_980 {w : Cond} (h : w ∈ tS_4_980) : w ∈ lw_tbl := tV_4_979 (List.mem_cons_of_mem _ h)
theorem tV_4_981 {w : Cond} (h : w ∈ tS_4_981) : w ∈ lw_tbl := tV_4_980 (List.mem_cons_of_mem _ h)
theorem tV_4_982 {w : Cond} (h : w ∈ tS_4_982) : w ∈ lw_tbl := tV_4_981 (List.mem_cons_of_mem _ h)
theorem tV_4_983 {w : Cond} (h : w ∈ tS_4_983) : w ∈ lw_tbl := tV_4_982 (List.mem_cons_of_mem _ h)
theorem tV_4_984 {w : Cond} (h : w ∈ tS_4_984) : w ∈ lw_tbl := tV_4_983 (List.mem_cons_of_mem _ h)
theorem tV_4_985 {w : Cond} (h : w ∈ tS_4_985) : w ∈ lw_tbl := tV_4_984 (List.mem_cons_of_mem _ h)
theorem tV_4_986 {w : Cond} (h : w ∈ tS_4_986) : w ∈ lw_tbl := tV_4_985 (List.mem_cons_of_mem _ h)
theorem tV_4_987 {w : Cond} (h : w ∈ tS_4_987) : w ∈ lw_tbl := tV_4_986 (List.mem_cons_of_mem _ h)
theorem tV_4_988 {w : Cond} (h : w ∈ tS_4_988) : w ∈ lw_tbl := tV_4_987 (List.mem_cons_of_mem _ h)
theorem tV_4_989 {w : Cond} (h : w ∈ tS_4_989) : w ∈ lw_tbl := tV_4_988 (List.mem_cons_of_mem _ h)
theorem tV_4_990 {w : Cond} (h : w ∈ tS_4_990) : w ∈ lw_tbl := tV_4_989 (List.mem_cons_of_mem _ h)
theorem tV_4_991 {w : Cond} (h : w ∈ tS_4_991) : w ∈ lw_tbl := tV_4_990 (List.mem_cons_of_mem _ h)
theorem tV_4_992 {w : Cond} (h : w ∈ tS_4_992) : w ∈ lw_tbl := tV_4_991 (List.mem_cons_of_mem _ h)
theorem tV_4_993 {w : Cond} (h : w ∈ tS_4_993) : w ∈ lw_tbl := tV_4_992 (List.mem_cons_of_mem _ h)
theorem tV_4_994 {w : Cond} (h : w ∈ tS_4_994) : w ∈ lw_tbl := tV_4_993 (List.mem_cons_of_mem _ h)
theorem tV_4_995 {w : Cond} (h : w ∈ tS_4_995) : w ∈ lw_tbl := tV_4_994 (List.mem_cons_of_mem _ h)
theorem tV_4_996 {w : Cond} (h : w ∈ tS_4_996) : w ∈ lw_tbl := tV_4_995 (List.mem_cons_of_mem _ h)
theorem tV_4_997 {w : Cond} (h : w ∈ tS_4_997) : w ∈ lw_tbl := tV_4_996 (List.mem_cons_of_mem _ h)
theorem tV_4_998 {w : Cond} (h : w ∈ tS_4_998) : w ∈ lw_tbl := tV_4_997 (List.mem_cons_of_mem _ h)
theorem tV_4_999 {w : Cond} (h : w ∈ tS_4_999) : w ∈ lw_tbl := tV_4_998 (List.mem_cons_of_mem _ h)
theorem tV_4_1000 {w : Cond} (h : w ∈ tS_4_1000) : w ∈ lw_tbl := tV_4_999 (List.mem_cons_of_mem _ h)
theorem tV_4_1001 {w : Cond} (h : w ∈ tS_4_1001) : w ∈ lw_tbl := tV_4_1000 (List.mem_cons_of_mem _ h)
theorem tV_4_1002 {w : Cond} (h : w ∈ tS_4_1002) : w ∈ lw_tbl := tV_4_1001 (List.mem_cons_of_mem _ h)
theorem tV_4_1003 {w : Cond} (h : w ∈ tS_4_1003) : w ∈ lw_tbl := tV_4_1002 (List.mem_cons_of_mem _ h)
theorem tV_4_1004 {w : Cond} (h : w ∈ tS_4_1004) : w ∈ lw_tbl := tV_4_1003 (List.mem_cons_of_mem _ h)
theorem tV_4_1005 {w : Cond} (h : w ∈ tS_4_1005) : w ∈ lw_tbl := tV_4_1004 (List.mem_cons_of_mem _ h)
theorem tV_4_1006 {w : Cond} (h : w ∈ tS_4_1006) : w ∈ lw_tbl := tV_4_1005 (List.mem_cons_of_mem _ h)
theorem tV_4_1007 {w : Cond} (h : w ∈ tS_4_1007) : w ∈ lw_tbl := tV_4_1006 (List.mem_cons_of_mem _ h)
theorem tV_4_1008 {w : Cond} (h : w ∈ tS_4_1008) : w ∈ lw_tbl := tV_4_1007 (List.mem_cons_of_mem _ h)
theorem tV_4_1009 {w : Cond} (h : w ∈ tS_4_1009) : w ∈ lw_tbl := tV_4_1008 (List.mem_cons_of_mem _ h)
theorem tV_4_1010 {w : Cond} (h : w ∈ tS_4_1010) : w ∈ lw_tbl := tV_4_1009 (List.mem_cons_of_mem _ h)
theorem tV_4_1011 {w : Cond} (h : w ∈ tS_4_1011) : w ∈ lw_tbl := tV_4_1010 (List.mem_cons_of_mem _ h)
theorem tV_4_1012 {w : Cond} (h : w ∈ tS_4_1012) : w ∈ lw_tbl := tV_4_1011 (List.mem_cons_of_mem _ h)
theorem tV_4_1013 {w : Cond} (h : w ∈ tS_4_1013) : w ∈ lw_tbl := tV_4_1012 (List.mem_cons_of_mem _ h)
theorem tV_4_1014 {w : Cond} (h : w ∈ tS_4_1014) : w ∈ lw_tbl := tV_4_1013 (List.mem_cons_of_mem _ h)
theorem tV_4_1015 {w : Cond} (h : w ∈ tS_4_1015) : w ∈ lw_tbl := tV_4_1014 (List.mem_cons_of_mem _ h)
theorem tV_4_1016 {w : Cond} (h : w ∈ tS_4_1016) : w ∈ lw_tbl := tV_4_1015 (List.mem_cons_of_mem _ h)
theorem tV_4_1017 {w : Cond} (h : w ∈ tS_4_1017) : w ∈ lw_tbl := tV_4_1016 (List.mem_cons_of_mem _ h)
theorem tV_4_1018 {w : Cond} (h : w ∈ tS_4_1018) : w ∈ lw_tbl := tV_4_1017 (List.mem_cons_of_mem _ h)
theorem tV_4_1019 {w : Cond} (h : w ∈ tS_4_1019) : w ∈ lw_tbl := tV_4_1018 (List.mem_cons_of_mem _ h)
theorem tV_4_1020 {w : Cond} (h : w ∈ tS_4_1020) : w ∈ lw_tbl := tV_4_1019 (List.mem_cons_of_mem _ h)
theorem tV_4_1021 {w : Cond} (h : w ∈ tS_4_1021) : w ∈ lw_tbl := tV_4_1020 (List.mem_cons_of_mem _ h)
theorem tV_4_1022 {w : Cond} (h : w ∈ tS_4_1022) : w ∈ lw_tbl := tV_4_1021 (List.mem_cons_of_mem _ h)
theorem tV_4_1023 {w : Cond} (h : w ∈ tS_4_1023) : w ∈ lw_tbl := tV_4_1022 (List.mem_cons_of_mem _ h)
theorem tV_4_1024 {w : Cond} (h : w ∈ tS_4_1024) : w ∈ lw_tbl := tV_4_1023 (List.mem_cons_of_mem _ h)
theorem tV_4_1025 {w : Cond} (h : w ∈ tS_4_1025) : w ∈ lw_tbl := tV_4_1024 (List.mem_cons_of_mem _ h)
theorem tV_4_1026 {w : Cond} (h : w ∈ tS_4_1026) : w ∈ lw_tbl := tV_4_1025 (List.mem_cons_of_mem _ h)
theorem tV_4_1027 {w : Cond} (h : w ∈ tS_4_1027) : w ∈ lw_tbl := tV_4_1026 (List.mem_cons_of_mem _ h)
theorem tV_4_1028 {w : Cond} (h : w ∈ tS_4_1028) : w ∈ lw_tbl := tV_4_1027 (List.mem_cons_of_mem _ h)
theorem tV_4_1029 {w : Cond} (h : w ∈ tS_4_1029) : w ∈ lw_tbl := tV_4_1028 (List.mem_cons_of_mem _ h)
theorem tV_4_1030 {w : Cond} (h : w ∈ tS_4_1030) : w ∈ lw_tbl := tV_4_1029 (List.mem_cons_of_mem _ h)
theorem tV_4_1031 {w : Cond} (h : w ∈ tS_4_1031) : w ∈ lw_tbl := tV_4_1030 (List.mem_cons_of_mem _ h)
theorem tV_4_1032 {w : Cond} (h : w ∈ tS_4_1032) : w ∈ lw_tbl := tV_4_1031 (List.mem_cons_of_mem _ h)
theorem tV_4_1033 {w : Cond} (h : w ∈ tS_4_1033) : w ∈ lw_tbl := tV_4_1032 (List.mem_cons_of_mem _ h)
theorem tV_4_1034 {w : Cond} (h : w ∈ tS_4_1034) : w ∈ lw_tbl := tV_4_1033 (List.mem_cons_of_mem _ h)
theorem tV_4_1035 {w : Cond} (h : w ∈ tS_4_1035) : w ∈ lw_tbl := tV_4_1034 (List.mem_cons_of_mem _ h)
theorem tV_4_1036 {w : Cond} (h : w ∈ tS_4_1036) : w ∈ lw_tbl := tV_4_1035 (List.mem_cons_of_mem _ h)
theorem tV_4_1037 {w : Cond} (h : w ∈ tS_4_1037) : w ∈ lw_tbl := tV_4_1036 (List.mem_cons_of_mem _ h)
theorem tV_4_1038 {w : Cond} (h : w ∈ tS_4_1038) : w ∈ lw_tbl := tV_4_1037 (List.mem_cons_of_mem _ h)
theorem tV_4_1039 {w : Cond} (h : w ∈ tS_4_1039) : w ∈ lw_tbl := tV_4_1038 (List.mem_cons_of_mem _ h)
theorem tV_4_1040 {w : Cond} (h : w ∈ tS_4_1040) : w ∈ lw_tbl := tV_4_1039 (List.mem_cons_of_mem _ h)
theorem tV_4_1041 {w : Cond} (h : w ∈ tS_4_1041) : w ∈ lw_tbl := tV_4_1040 (List.mem_cons_of_mem _ h)
theorem tV_4_1042 {w : Cond} (h : w ∈ tS_4_1042) : w ∈ lw_tbl := tV_4_1041 (List.mem_cons_of_mem _ h)
theorem tV_4_1043 {w : Cond} (h : w ∈ tS_4_1043) : w ∈ lw_tbl := tV_4_1042 (List.mem_cons_of_mem _ h)
theorem tV_4_1044 {w : Cond} (h : w ∈ tS_4_1044) : w ∈ lw_tbl := tV_4_1043 (List.mem_cons_of_mem _ h)
theorem tV_4_1045 {w : Cond} (h : w ∈ tS_4_1045) : w ∈ lw_tbl := tV_4_1044 (List.mem_cons_of_mem _ h)
theorem tV_4_1046 {w : Cond} (h : w ∈ tS_4_1046) : w ∈ lw_tbl := tV_4_1045 (List.mem_cons_of_mem _ h)
theorem tV_4_1047 {w : Cond} (h : w ∈ tS_4_1047) : w ∈ lw_tbl := tV_4_1046 (List.mem_cons_of_mem _ h)
theorem tV_4_1048 {w : Cond} (h : w ∈ tS_4_1048) : w ∈ lw_tbl := tV_4_1047 (List.mem_cons_of_mem _ h)
theorem tV_4_1049 {w : Cond} (h : w ∈ tS_4_1049) : w ∈ lw_tbl := tV_4_1048 (List.mem_cons_of_mem _ h)
theorem tV_4_1050 {w : Cond} (h : w ∈ tS_4_1050) : w ∈ lw_tbl := tV_4_1049 (List.mem_cons_of_mem _ h)
theorem tV_4_1051 {w : Cond} (h : w ∈ tS_4_1051) : w ∈ lw_tbl := tV_4_1050 (List.mem_cons_of_mem _ h)
theorem tV_4_1052 {w : Cond} (h : w ∈ tS_4_1052) : w ∈ lw_tbl := tV_4_1051 (List.mem_cons_of_mem _ h)
theorem tV_4_1053 {w : Cond} (h : w ∈ tS_4_1053) : w ∈ lw_tbl := tV_4_1052 (List.mem_cons_of_mem _ h)
theorem tV_4_1054 {w : Cond} (h : w ∈ tS_4_1054) : w ∈ lw_tbl := tV_4_1053 (List.mem_cons_of_mem _ h)
theorem tV_4_1055 {w : Cond} (h : w ∈ tS_4_1055) : w ∈ lw_tbl := tV_4_1054 (List.mem_cons_of_mem _ h)
theorem tV_4_1056 {w : Cond} (h : w ∈ tS_4_1056) : w ∈ lw_tbl := tV_4_1055 (List.mem_cons_of_mem _ h)
theorem tV_4_1057 {w : Cond} (h : w ∈ tS_4_1057) : w ∈ lw_tbl := tV_4_1056 (List.mem_cons_of_mem _ h)
theorem tV_4_1058 {w : Cond} (h : w ∈ tS_4_1058) : w ∈ lw_tbl := tV_4_1057 (List.mem_cons_of_mem _ h)
theorem tV_4_1059 {w : Cond} (h : w ∈ tS_4_1059) : w ∈ lw_tbl := tV_4_1058 (List.mem_cons_of_mem _ h)
theorem tV_4_1060 {w : Cond} (h : w ∈ tS_4_1060) : w ∈ lw_tbl := tV_4_1059 (List.mem_cons_of_mem _ h)
theorem tV_4_1061 {w : Cond} (h : w ∈ tS_4_1061) : w ∈ lw_tbl := tV_4_1060 (List.mem_cons_of_mem _ h)
theorem tV_4_1062 {w : Cond} (h : w ∈ tS_4_1062) : w ∈ lw_tbl := tV_4_1061 (List.mem_cons_of_mem _ h)
theorem tV_4_1063 {w : Cond} (h : w ∈ tS_4_1063) : w ∈ lw_tbl := tV_4_1062 (List.mem_cons_of_mem _ h)
theorem tV_4_1064 {w : Cond} (h : w ∈ tS_4_1064) : w ∈ lw_tbl := tV_4_1063 (List.mem_cons_of_mem _ h)
theorem tV_4_1065 {w : Cond} (h : w ∈ tS_4_1065) : w ∈ lw_tbl := tV_4_1064 (List.mem_cons_of_mem _ h)
theorem tV_4_1066 {w : Cond} (h : w ∈ tS_4_1066) : w ∈ lw_tbl := tV_4_1065 (List.mem_cons_of_mem _ h)
theorem tV_4_1067 {w : Cond} (h : w ∈ tS_4_1067) : w ∈ lw_tbl := tV_4_1066 (List.mem_cons_of_mem _ h)
theorem tV_4_1068 {w : Cond} (h : w ∈ tS_4_1068) : w ∈ lw_tbl := tV_4_1067 (List.mem_cons_of_mem _ h)
theorem tV_4_1069 {w : Cond} (h : w ∈ tS_4_1069) : w ∈ lw_tbl := tV_4_1068 (List.mem_cons_of_mem _ h)
theorem tV_4_1070 {w : Cond} (h : w ∈ tS_4_1070) : w ∈ lw_tbl := tV_4_1069 (List.mem_cons_of_mem _ h)
theorem tV_4_1071 {w : Cond} (h : w ∈ tS_4_1071) : w ∈ lw_tbl := tV_4_1070 (List.mem_cons_of_mem _ h)
theorem tV_4_1072 {w : Cond} (h : w ∈ tS_4_1072) : w ∈ lw_tbl := tV_4_1071 (List.mem_cons_of_mem _ h)
theorem tV_4_1073 {w : Cond} (h : w ∈ tS_4_1073) : w ∈ lw_tbl := tV_4_1072 (List.mem_cons_of_mem _ h)
theorem tV_4_1074 {w : Cond} (h : w ∈ tS_4_1074) : w ∈ lw_tbl := tV_4_1073 (List.mem_cons_of_mem _ h)
theorem tV_4_1075 {w : Cond} (h : w ∈ tS_4_1075) : w ∈ lw_tbl := tV_4_1074 (List.mem_cons_of_mem _ h)
theorem tV_4_1076 {w : Cond} (h : w ∈ tS_4_1076) : w ∈ lw_tbl := tV_4_1075 (List.mem_cons_of_mem _ h)
theorem tV_4_1077 {w : Cond} (h : w ∈ tS_4_1077) : w ∈ lw_tbl := tV_4_1076 (List.mem_cons_of_mem _ h)
theorem tV_4_1078 {w : Cond} (h : w ∈ tS_4_1078) : w ∈ lw_tbl := tV_4_1077 (List.mem_cons_of_mem _ h)
theorem tV_4_1079 {w : Cond} (h : w ∈ tS_4_1079) : w ∈ lw_tbl := tV_4_1078 (List.mem_cons_of_mem _ h)
theorem tV_4_1080 {w : Cond} (h : w ∈ tS_4_1080) : w ∈ lw_tbl := tV_4_1079 (List.mem_cons_of_mem _ h)
theorem tV_4_1081 {w : Cond} (h : w ∈ tS_4_1081) : w ∈ lw_tbl := tV_4_1080 (List.mem_cons_of_mem _ h)
theorem tV_4_1082 {w : Cond} (h : w ∈ tS_4_1082) : w ∈ lw_tbl := tV_4_1081 (List.mem_cons_of_mem _ h)
theorem tV_4_1083 {w : Cond} (h : w ∈ tS_4_1083) : w ∈ lw_tbl := tV_4_1082 (List.mem_cons_of_mem _ h)
theorem tV_4_1084 {w : Cond} (h : w ∈ tS_4_1084) : w ∈ lw_tbl := tV_4_1083 (List.mem_cons_of_mem _ h)
theorem tV_4_1085 {w : Cond} (h : w ∈ tS_4_1085) : w ∈ lw_tbl := tV_4_1084 (List.mem_cons_of_mem _ h)
theorem tV_4_1086 {w : Cond} (h : w ∈ tS_4_1086) : w ∈ lw_tbl := tV_4_1085 (List.mem_cons_of_mem _ h)
theorem tV_4_1087 {w : Cond} (h : w ∈ tS_4_1087) : w ∈ lw_tbl := tV_4_1086 (List.mem_cons_of_mem _ h)
theorem tV_4_1088 {w : Cond} (h : w ∈ tS_4_1088) : w ∈ lw_tbl := tV_4_1087 (List.mem_cons_of_mem _ h)
theorem tV_4_1089 {w : Cond} (h : w ∈ tS_4_1089) : w ∈ lw_tbl := tV_4_1088 (List.mem_cons_of_mem _ h)
theorem tV_4_1090 {w : Cond} (h : w ∈ tS_4_1090) : w ∈ lw_tbl := tV_4_1089 (List.mem_cons_of_mem _ h)
theorem tV_4_1091 {w : Cond} (h : w ∈ tS_4_1091) : w ∈ lw_tbl := tV_4_1090 (List.mem_cons_of_mem _ h)
theorem tV_4_1092 {w : Cond} (h : w ∈ tS_4_1092) : w ∈ lw_tbl := tV_4_1091 (List.mem_cons_of_mem _ h)
theorem tV_4_1093 {w : Cond} (h : w ∈ tS_4_1093) : w ∈ lw_tbl := tV_4_1092 (List.mem_cons_of_mem _ h)
theorem tV_4_1094 {w : Cond} (h : w ∈ tS_4_1094) : w ∈ lw_tbl := tV_4_1093 (List.mem_cons_of_mem _ h)
theorem tV_4_1095 {w : Cond} (h : w ∈ tS_4_1095) : w ∈ lw_tbl := tV_4_1094 (List.mem_cons_of_mem _ h)
theorem tV_4_1096 {w : Cond} (h : w ∈ tS_4_1096) : w ∈ lw_tbl := tV_4_1095 (List.mem_cons_of_mem _ h)
theorem tV_4_1097 {w : Cond} (h : w ∈ tS_4_1097) : w ∈ lw_tbl := tV_4_1096 (List.mem_cons_of_mem _ h)
theorem tV_4_1098 {w : Cond} (h : w ∈ tS_4_1098) : w ∈ lw_tbl := tV_4_1097 (List.mem_cons_of_mem _ h)
theorem tV_4_1099 {w : Cond} (h : w ∈ tS_4_1099) : w ∈ lw_tbl := tV_4_1098 (List.mem_cons_of_mem _ h)
theorem tV_4_1100 {w : Cond} (h : w ∈ tS_4_1100) : w ∈ lw_tbl := tV_4_1099 (List.mem_cons_of_mem _ h)
theorem tV_4_1101 {w : Cond} (h : w ∈ tS_4_1101) : w ∈ lw_tbl := tV_4_1100 (List.mem_cons_of_mem _ h)
theorem tV_4_1102 {w : Cond} (h : w ∈ tS_4_1102) : w ∈ lw_tbl := tV_4_1101 (List.mem_cons_of_mem _ h)
theorem tV_4_1103 {w : Cond} (h : w ∈ tS_4_1103) : w ∈ lw_tbl := tV_4_1102 (List.mem_cons_of_mem _ h)
theorem tV_4_1104 {w : Cond} (h : w ∈ tS_4_1104) : w ∈ lw_tbl := tV_4_1103 (List.mem_cons_of_mem _ h)
theorem tV_4_1105 {w : Cond} (h : w ∈ tS_4_1105) : w ∈ lw_tbl := tV_4_1104 (List.mem_cons_of_mem _ h)
theorem tV_4_1106 {w : Cond} (h : w ∈ tS_4_1106) : w ∈ lw_tbl := tV_4_1105 (List.mem_cons_of_mem _ h)
theorem tV_4_1107 {w : Cond} (h : w ∈ tS_4_1107) : w ∈ lw_tbl := tV_4_1106 (List.mem_cons_of_mem _ h)
theorem tV_4_1108 {w : Cond} (h : w ∈ tS_4_1108) : w ∈ lw_tbl := tV_4_1107 (List.mem_cons_of_mem _ h)
theorem tV_4_1109 {w : Cond} (h : w ∈ tS_4_1109) : w ∈ lw_tbl := tV_4_1108 (List.mem_cons_of_mem _ h)
theorem tV_4_1110 {w : Cond} (h : w ∈ tS_4_1110) : w ∈ lw_tbl := tV_4_1109 (List.mem_cons_of_mem _ h)
theorem tV_4_1111 {w : Cond} (h : w ∈ tS_4_1111) : w ∈ lw_tbl := tV_4_1110 (List.mem_cons_of_mem _ h)
theorem tV_4_1112 {w : Cond} (h : w ∈ tS_4_1112) : w ∈ lw_tbl := tV_4_1111 (List.mem_cons_of_mem _ h)
theorem tV_4_1113 {w : Cond} (h : w ∈ tS_4_1113) : w ∈ lw_tbl := tV_4_1112 (List.mem_cons_of_mem _ h)
theorem tV_4_1114 {w : Cond} (h : w ∈ tS_4_1114) : w ∈ lw_tbl := tV_4_1113 (List.mem_cons_of_mem _ h)
theorem tV_4_1115 {w : Cond} (h : w ∈ tS_4_1115) : w ∈ lw_tbl := tV_4_1114 (List.mem_cons_of_mem _ h)
theorem tV_4_1116 {w : Cond} (h : w ∈ tS_4_1116) : w ∈ lw_tbl := tV_4_1115 (List.mem_cons_of_mem _ h)
theorem tV_4_1117 {w : Cond} (h : w ∈ tS_4_1117) : w ∈ lw_tbl := tV_4_1116 (List.mem_cons_of_mem _ h)
theorem tV_4_1118 {w : Cond} (h : w ∈ tS_4_1118) : w ∈ lw_tbl := tV_4_1117 (List.mem_cons_of_mem _ h)
theorem tV_4_1119 {w : Cond} (h : w ∈ tS_4_1119) : w ∈ lw_tbl := tV_4_1118 (List.mem_cons_of_mem _ h)
theorem tV_4_1120 {w : Cond} (h : w ∈ tS_4_1120) : w ∈ lw_tbl := tV_4_1119 (List.mem_cons_of_mem _ h)
theorem tV_4_1121 {w : Cond} (h : w ∈ tS_4_1121) : w ∈ lw_tbl := tV_4_1120 (List.mem_cons_of_mem _ h)
theorem tV_4_1122 {w : Cond} (h : w ∈ tS_4_1122) : w ∈ lw_tbl := tV_4_1121 (List.mem_cons_of_mem _ h)
theorem tV_4_1123 {w : Cond} (h : w ∈ tS_4_1123) : w ∈ lw_tbl := tV_4_1122 (List.mem_cons_of_mem _ h)
theorem tV_4_1124 {w : Cond} (h : w ∈ tS_4_1124) : w ∈ lw_tbl := tV_4_1123 (List.mem_cons_of_mem _ h)
theorem tV_4_1125 {w : Cond} (h : w ∈ tS_4_1125) : w ∈ lw_tbl := tV_4_1124 (List.mem_cons_of_mem _ h)
theorem tV_4_1126 {w : Cond} (h : w ∈ tS_4_1126) : w ∈ lw_tbl := tV_4_1125 (List.mem_cons_of_mem _ h)
theorem tV_4_1127 {w : Cond} (h : w ∈ tS_4_1127) : w ∈ lw_tbl := tV_4_1126 (List.mem_cons_of_mem _ h)
theorem tV_4_1128 {w : Cond} (h : w ∈ tS_4_1128) : w ∈ lw_tbl := tV_4_1127 (List.mem_cons_of_mem _ h)
theorem tV_4_1129 {w : Cond} (h : w ∈ tS_4_1129) : w ∈ lw_tbl := tV_4_1128 (List.mem_cons_of_mem _ h)
theorem tV_4_1130 {w : Cond} (h : w ∈ tS_4_1130) : w ∈ lw_tbl := tV_4_1129 (List.mem_cons_of_mem _ h)
theorem tV_4_1131 {w : Cond} (h : w ∈ tS_4_1131) : w ∈ lw_tbl := tV_4_1130 (List.mem_cons_of_mem _ h)
theorem tV_4_1132 {w : Cond} (h : w ∈ tS_4_1132) : w ∈ lw_tbl := tV_4_1131 (List.mem_cons_of_mem _ h)
theorem tV_4_1133 {w : Cond} (h : w ∈ tS_4_1133) : w ∈ lw_tbl := tV_4_1132 (List.mem_cons_of_mem _ h)
theorem tV_4_1134 {w : Cond} (h : w ∈ tS_4_1134) : w ∈ lw_tbl := tV_4_1133 (List.mem_cons_of_mem _ h)
theorem tV_4_1135 {w : Cond} (h : w ∈ tS_4_1135) : w ∈ lw_tbl := tV_4_1134 (List.mem_cons_of_mem _ h)
theorem tV_4_1136 {w : Cond} (h : w ∈ tS_4_1136) : w ∈ lw_tbl := tV_4_1135 (List.mem_cons_of_mem _ h)
theorem tV_4_1137 {w : Cond} (h : w ∈ tS_4_1137) : w ∈ lw_tbl := tV_4_1136 (List.mem_cons_of_mem _ h)
theorem tV_4_1138 {w : Cond} (h : w ∈ tS_4_1138) : w ∈ lw_tbl := tV_4_1137 (List.mem_cons_of_mem _ h)
theorem tV_4_1139 {w : Cond} (h : w ∈ tS_4_1139) : w ∈ lw_tbl := tV_4_1138 (List.mem_cons_of_mem _ h)
theorem tV_4_1140 {w : Cond} (h : w ∈ tS_4_1140) : w ∈ lw_tbl := tV_4_1139 (List.mem_cons_of_mem _ h)
theorem tV_4_1141 {w : Cond} (h : w ∈ tS_4_1141) : w ∈ lw_tbl := tV_4_1140 (List.mem_cons_of_mem _ h)
theorem tV_4_1142 {w : Cond} (h : w ∈ tS_4_1142) : w ∈ lw_tbl := tV_4_1141 (List.mem_cons_of_mem _ h)
theorem tV_4_1143 {w : Cond} (h : w ∈ tS_4_1143) : w ∈ lw_tbl := tV_4_1142 (List.mem_cons_of_mem _ h)
theorem tV_4_1144 {w : Cond} (h : w ∈ tS_4_1144) : w ∈ lw_tbl := tV_4_1143 (List.mem_cons_of_mem _ h)
theorem tV_4_1145 {w : Cond} (h : w ∈ tS_4_1145) : w ∈ lw_tbl := tV_4_1144 (List.mem_cons_of_mem _ h)
theorem tV_4_1146 {w : Cond} (h : w ∈ tS_4_1146) : w ∈ lw_tbl := tV_4_1145 (List.mem_cons_of_mem _ h)
theorem tV_4_1147 {w : Cond} (h : w ∈ tS_4_1147) : w ∈ lw_tbl := tV_4_1146 (List.mem_cons_of_mem _ h)
theorem tV_4_1148 {w : Cond} (h : w ∈ tS_4_1148) : w ∈ lw_tbl := tV_4_1147 (List.mem_cons_of_mem _ h)
theorem tV_4_1149 {w : Cond} (h : w ∈ tS_4_1149) : w ∈ lw_tbl := tV_4_1148 (List.mem_cons_of_mem _ h)
theorem tV_4_1150 {w : Cond} (h : w ∈ tS_4_1150) : w ∈ lw_tbl := tV_4_1149 (List.mem_cons_of_mem _ h)
theorem tV_4_1151 {w : Cond} (h : w ∈ tS_4_1151) : w ∈ lw_tbl := tV_4_1150 (List.mem_cons_of_mem _ h)
theorem tV_4_1152 {w : Cond} (h : w ∈ tS_4_1152) : w ∈ lw_tbl := tV_4_1151 (List.mem_cons_of_mem _ h)
theorem tV_4_1153 {w : Cond} (h : w ∈ tS_4_1153) : w ∈ lw_tbl := tV_4_1152 (List.mem_cons_of_mem _ h)
theorem tV_4_1154 {w : Cond} (h : w ∈ tS_4_1154) : w ∈ lw_tbl := tV_4_1153 (List.mem_cons_of_mem _ h)
theorem tV_4_1155 {w : Cond} (h : w ∈ tS_4_1155) : w ∈ lw_tbl := tV_4_1154 (List.mem_cons_of_mem _ h)
theorem tV_4_1156 {w : Cond} (h : w ∈ tS_4_1156) : w ∈ lw_tbl := tV_4_1155 (List.mem_cons_of_mem _ h)
theorem tV_4_1157 {w : Cond} (h : w ∈ tS_4_1157) : w ∈ lw_tbl := tV_4_1156 (List.mem_cons_of_mem _ h)
theorem tV_4_1158 {w : Cond} (h : w ∈ tS_4_1158) : w ∈ lw_tbl := tV_4_1157 (List.mem_cons_of_mem _ h)
theorem tV_4_1159 {w : Cond} (h : w ∈ tS_4_1159) : w ∈ lw_tbl := tV_4_1158 (List.mem_cons_of_mem _ h)
theorem tV_4_1160 {w : Cond} (h : w ∈ tS_4_1160) : w ∈ lw_tbl := tV_4_1159 (List.mem_cons_of_mem _ h)
theorem tV_4_1161 {w : Cond} (h : w ∈ tS_4_1161) : w ∈ lw_tbl := tV_4_1160 (List.mem_cons_of_mem _ h)
theorem tV_4_1162 {w : Cond} (h : w ∈ tS_4_1162) : w ∈ lw_tbl := tV_4_1161 (List.mem_cons_of_mem _ h)
theorem tV_4_1163 {w : Cond} (h : w ∈ tS_4_1163) : w ∈ lw_tbl := tV_4_1162 (List.mem_cons_of_mem _ h)
theorem tV_4_1164 {w : Cond} (h : w ∈ tS_4_1164) : w ∈ lw_tbl := tV_4_1163 (List.mem_cons_of_mem _ h)
theorem tV_4_1165 {w : Cond} (h : w ∈ tS_4_1165) : w ∈ lw_tbl := tV_4_1164 (List.mem_cons_of_mem _ h)
theorem tV_4_1166 {w : Cond} (h : w ∈ tS_4_1166) : w ∈ lw_tbl := tV_4_1165 (List.mem_cons_of_mem _ h)
theorem tV_4_1167 {w : Cond} (h : w ∈ tS_4_1167) : w ∈ lw_tbl := tV_4_1166 (List.mem_cons_of_mem _ h)
theorem tV_4_1168 {w : Cond} (h : w ∈ tS_4_1168) : w ∈ lw_tbl := tV_4_1167 (List.mem_cons_of_mem _ h)
theorem tV_4_1169 {w : Cond} (h : w ∈ tS_4_1169) : w ∈ lw_tbl := tV_4_1168 (List.mem_cons_of_mem _ h)
theorem tV_4_1170 {w : Cond} (h : w ∈ tS_4_1170) : w ∈ lw_tbl := tV_4_1169 (List.mem_cons_of_mem _ h)
theorem tV_4_1171 {w : Cond} (h : w ∈ tS_4_1171) : w ∈ lw_tbl := tV_4_1170 (List.mem_cons_of_mem _ h)
theorem tV_4_1172 {w : Cond} (h : w ∈ tS_4_1172) : w ∈ lw_tbl := tV_4_1171 (List.mem_cons_of_mem _ h)
theorem tV_4_1173 {w : Cond} (h : w ∈ tS_4_1173) : w ∈ lw_tbl := tV_4_1172 (List.mem_cons_of_mem _ h)
theorem tV_4_1174 {w : Cond} (h : w ∈ tS_4_1174) : w ∈ lw_tbl := tV_4_1173 (List.mem_cons_of_mem _ h)
theorem tV_4_1175 {w : Cond} (h : w ∈ tS_4_1175) : w ∈ lw_tbl := tV_4_1174 (List.mem_cons_of_mem _ h)
theorem tV_4_1176 {w : Cond} (h : w ∈ tS_4_1176) : w ∈ lw_tbl := tV_4_1175 (List.mem_cons_of_mem _ h)
theorem tV_4_1177 {w : Cond} (h : w ∈ tS_4_1177) : w ∈ lw_tbl := tV_4_1176 (List.mem_cons_of_mem _ h)
theorem tV_4_1178 {w : Cond} (h : w ∈ tS_4_1178) : w ∈ lw_tbl := tV_4_1177 (List.mem_cons_of_mem _ h)
theorem tV_4_1179 {w : Cond} (h : w ∈ tS_4_1179) : w ∈ lw_tbl := tV_4_1178 (List.mem_cons_of_mem _ h)
theorem tV_4_1180 {w : Cond} (h : w ∈ tS_4_1180) : w ∈ lw_tbl := tV_4_1179 (List.mem_cons_of_mem _ h)
theorem tV_4_1181 {w : Cond} (h : w ∈ tS_4_1181) : w ∈ lw_tbl := tV_4_1180 (List.mem_cons_of_mem _ h)
theorem tV_4_1182 {w : Cond} (h : w ∈ tS_4_1182) : w ∈ lw_tbl := tV_4_1181 (List.mem_cons_of_mem _ h)
theorem tV_4_1183 {w : Cond} (h : w ∈ tS_4_1183) : w ∈ lw_tbl := tV_4_1182 (List.mem_cons_of_mem _ h)
theorem tV_4_1184 {w : Cond} (h : w ∈ tS_4_1184) : w ∈ lw_tbl := tV_4_1183 (List.mem_cons_of_mem _ h)
theorem tV_4_1185 {w : Cond} (h : w ∈ tS_4_1185) : w ∈ lw_tbl := tV_4_1184 (List.mem_cons_of_mem _ h)
theorem tV_4_1186 {w : Cond} (h : w ∈ tS_4_1186) : w ∈ lw_tbl := tV_4_1185 (List.mem_cons_of_mem _ h)
theorem tV_4_1187 {w : Cond} (h : w ∈ tS_4_1187) : w ∈ lw_tbl := tV_4_1186 (List.mem_cons_of_mem _ h)
theorem tV_4_1188 {w : Cond} (h : w ∈ tS_4_1188) : w ∈ lw_tbl := tV_4_1187 (List.mem_cons_of_mem _ h)
theorem tV_4_1189 {w : Cond} (h : w ∈ tS_4_1189) : w ∈ lw_tbl := tV_4_1188 (List.mem_cons_of_mem _ h)
theorem tV_4_1190 {w : Cond} (h : w ∈ tS_4_1190) : w ∈ lw_tbl := tV_4_1189 (List.mem_cons_of_mem _ h)
theorem tV_4_1191 {w : Cond} (h : w ∈ tS_4_1191) : w ∈ lw_tbl := tV_4_1190 (List.mem_cons_of_mem _ h)
theorem tV_4_1192 {w : Cond} (h : w ∈ tS_4_1192) : w ∈ lw_tbl := tV_4_1191 (List.mem_cons_of_mem _ h)
theorem tV_4_1193 {w : Cond} (h : w ∈ tS_4_1193) : w ∈ lw_tbl := tV_4_1192 (List.mem_cons_of_mem _ h)
theorem tV_4_1194 {w : Cond} (h : w ∈ tS_4_1194) : w ∈ lw_tbl := tV_4_1193 (List.mem_cons_of_mem _ h)
theorem tV_4_1195 {w : Cond} (h : w ∈ tS_4_1195) : w ∈ lw_tbl := tV_4_1194 (List.mem_cons_of_mem _ h)
theorem tV_4_1196 {w : Cond} (h : w ∈ tS_4_1196) : w ∈ lw_tbl := tV_4_1195 (List.mem_cons_of_mem _ h)
theorem tV_4_1197 {w : Cond} (h : w ∈ tS_4_1197) : w ∈ lw_tbl := tV_4_1196 (List.mem_cons_of_mem _ h)
theorem tV_4_1198 {w : Cond} (h : w ∈ tS_4_1198) : w ∈ lw_tbl := tV_4_1197 (List.mem_cons_of_mem _ h)
theorem tV_4_1199 {w : Cond} (h : w ∈ tS_4_1199) : w ∈ lw_tbl := tV_4_1198 (List.mem_cons_of_mem _ h)
def tS_5_1351 : List Cond := []
def tS_5_1350 : List Cond := (Jvm.Cond.sameMethod "java/lang/AbstractStringBuilder" "java/lang/AbstractStringBuilder" "inflateIfNeededFor" "(Ljava/lang/String;)V") :: tS_5_1351
def tS_5_1349 : List Cond := (Jvm.Cond.sameMethod "java/lang/AbstractStringBuilder" "java/lang/AbstractStringBuilder" "putStringAt" "(ILjava/lang/String;)V") :: tS_5_1350
def tS_5_1348 : List Cond := (Jvm.Cond.sameMethod "java/lang/AbstractStringBuilder" "java/lang/AbstractStringBuilder" "appendNull" "()Ljava/lang/AbstractStringBuilder;") :: tS_5_1349
def tS_5_1347 : List Cond := (Jvm.Cond.sameMethod "java/lang/AbstractStringBuilder" "java/lang/AbstractStringBuilder" "append" "(Ljava/lang/String;)Ljava/lang/AbstractStringBuilder;") :: tS_5_1348
def tS_5_1346 : List Cond := (Jvm.Cond.sameMethod "java/lang/AbstractStringBuilder" "java/lang/AbstractStringBuilder" "append" "(I)Ljava/lang/AbstractStringBuilder;") :: tS_5_1347
def tS_5_1345 : List Cond := (Jvm.Cond.sameMethod "java/lang/AbstractStringBuilder" "java/lang/AbstractStringBuilder" "inflate" "()V") :: tS_5_1346
def tS_5_1344 : List Cond := (Jvm.Cond.sameMethod "java/lang/AbstractStringBuilder" "java/lang/AbstractStringBuilder" "newCapacity" "(I)I") :: tS_5_1345
def tS_5_1343 : List Cond := (Jvm.Cond.sameMethod "java/lang/AbstractStringBuilder" "java/lang/AbstractStringBuilder" "ensureCapacityInternal" "(I)V") :: tS_5_1344
def tS_5_1342 : List Cond := (Jvm.Cond.sameMethod "java/lang/AbstractStringBuilder" "java/lang/AbstractStringBuilder" "append" "(C)Ljava/lang/AbstractStringBuilder;") :: tS_5_1343
def tS_5_1341 : List Cond := (Jvm.Cond.sameMethod "java/lang/Throwable" "java/lang/Throwable" "fillInStackTrace" "(I)Ljava/lang/Throwable;") :: tS_5_1342
def tS_5_1340 : List Cond := (Jvm.Cond.methodLink "RunweaverModel" (177 : Nat) ({ cls := "RunweaverModel", name := "house", desc := "(I)I" } : Jvm.MethodName)) :: tS_5_1341
def tS_5_1339 : List Cond := (Jvm.Cond.constantLong "RunweaverModel" (175 : Nat) (31 : Int64)) :: tS_5_1340
def tS_5_1338 : List Cond := (Jvm.Cond.methodLink "RunweaverModel" (173 : Nat) ({ cls := "RunweaverModel", name := "unlike", desc := "(I)I" } : Jvm.MethodName)) :: tS_5_1339
def tS_5_1337 : List Cond := (Jvm.Cond.methodLink "RunweaverModel" (170 : Nat) ({ cls := "RunweaverModel", name := "sum", desc := "(I)I" } : Jvm.MethodName)) :: tS_5_1338
def tS_5_1336 : List Cond := (Jvm.Cond.methodLink "RunweaverModel" (167 : Nat) ({ cls := "RunweaverModel", name := "longest", desc := "(I)I" } : Jvm.MethodName)) :: tS_5_1337
def tS_5_1335 : List Cond := (Jvm.Cond.methodLink "RunweaverModel" (164 : Nat) ({ cls := "RunweaverModel", name := "runs", desc := "(I)I" } : Jvm.MethodName)) :: tS_5_1336
def tS_5_1334 : List Cond := (Jvm.Cond.methodLink "RunweaverModel" (161 : Nat) ({ cls := "RunweaverModel", name := "ties", desc := "(I)I" } : Jvm.MethodName)) :: tS_5_1335
def tS_5_1333 : List Cond := (Jvm.Cond.methodLink "RunweaverModel" (158 : Nat) ({ cls := "RunweaverModel", name := "wrong", desc := "(II)I" } : Jvm.MethodName)) :: tS_5_1334
def tS_5_1332 : List Cond := (Jvm.Cond.methodLink "RunweaverModel" (154 : Nat) ({ cls := "RunweaverModel", name := "mark", desc := "(IZ)I" } : Jvm.MethodName)) :: tS_5_1333
def tS_5_1331 : List Cond := (Jvm.Cond.methodLink "RunweaverModel" (151 : Nat) ({ cls := "RunweaverModel", name := "many", desc := "(I)I" } : Jvm.MethodName)) :: tS_5_1332
def tS_5_1330 : List Cond := (Jvm.Cond.constantLong "RunweaverModel" (149 : Nat) (8007 : Int64)) :: tS_5_1331
def tS_5_1329 : List Cond := (Jvm.Cond.code ({ cls := "RunweaverModel", name := "digest", desc := "()J" } : Jvm.MethodName) prog_6_method_71_code (9 : Nat) (Option.some Jvm.ClassFile.FieldType.long)) :: tS_5_1330
def tS_5_1328 : List Cond := (Jvm.Cond.selects "RunweaverModel" ({ cls := "RunweaverModel", name := "digest", desc := "()J" } : Jvm.MethodName) ({ cls := "RunweaverModel", name := "digest", desc := "()J" } : Jvm.MethodName)) :: tS_5_1329
def tS_5_1327 : List Cond := (Jvm.Cond.instanceMethod ({ cls := "RunweaverModel", name := "digest", desc := "()J" } : Jvm.MethodName)) :: tS_5_1328
def tS_5_1326 : List Cond := (Jvm.Cond.methodLink "RunweaverLaw" (320 : Nat) ({ cls := "RunweaverModel", name := "digest", desc := "()J" } : Jvm.MethodName)) :: tS_5_1327
def tS_5_1325 : List Cond := (Jvm.Cond.code ({ cls := "RunweaverModel", name := "isSound", desc := "()Z" } : Jvm.MethodName) prog_6_method_70_code (1 : Nat) (Option.some Jvm.ClassFile.FieldType.boolean)) :: tS_5_1326
def tS_5_1324 : List Cond := (Jvm.Cond.selects "RunweaverModel" ({ cls := "RunweaverModel", name := "isSound", desc := "()Z" } : Jvm.MethodName) ({ cls := "RunweaverModel", name := "isSound", desc := "()Z" } : Jvm.MethodName)) :: tS_5_1325
def tS_5_1323 : List Cond := (Jvm.Cond.instanceMethod ({ cls := "RunweaverModel", name := "isSound", desc := "()Z" } : Jvm.MethodName)) :: tS_5_1324
def tS_5_1322 : List Cond := (Jvm.Cond.methodLink "RunweaverLaw" (315 : Nat) ({ cls := "RunweaverModel", name := "isSound", desc := "()Z" } : Jvm.MethodName)) :: tS_5_1323
def tS_5_1321 : List Cond := (Jvm.Cond.code ({ cls := "RunweaverModel", name := "knock", desc := "()I" } : Jvm.MethodName) prog_6_method_69_code (1 : Nat) (Option.some Jvm.ClassFile.FieldType.int)) :: tS_5_1322
def tS_5_1320 : List Cond := (Jvm.Cond.selects "RunweaverModel" ({ cls := "RunweaverModel", name := "knock", desc := "()I" } : Jvm.MethodName) ({ cls := "RunweaverModel", name := "knock", desc := "()I" } : Jvm.MethodName)) :: tS_5_1321
def tS_5_1319 : List Cond := (Jvm.Cond.instanceMethod ({ cls := "RunweaverModel", name := "knock", desc := "()I" } : Jvm.MethodName)) :: tS_5_1320
def tS_5_1318 : List Cond := (Jvm.Cond.methodLink "RunweaverLaw" (310 : Nat) ({ cls := "RunweaverModel", name := "knock", desc := "()I" } : Jvm.MethodName)) :: tS_5_1319
def tS_5_1317 : List Cond := (Jvm.Cond.code ({ cls := "RunweaverModel", name := "house", desc := "(I)I" } : Jvm.MethodName) prog_6_method_68_code (5 : Nat) (Option.some Jvm.ClassFile.FieldType.int)) :: tS_5_1318
def tS_5_1316 : List Cond := (Jvm.Cond.selects "RunweaverModel" ({ cls := "RunweaverModel", name := "house", desc := "(I)I" } : Jvm.MethodName) ({ cls := "RunweaverModel", name := "house", desc := "(I)I" } : Jvm.MethodName)) :: tS_5_1317
def tS_5_1315 : List Cond := (Jvm.Cond.instanceMethod ({ cls := "RunweaverModel", name := "house", desc := "(I)I" } : Jvm.MethodName)) :: tS_5_1316
def tS_5_1314 : List Cond := (Jvm.Cond.methodLink "RunweaverLaw" (306 : Nat) ({ cls := "RunweaverModel", name := "house", desc := "(I)I" } : Jvm.MethodName)) :: tS_5_1315
def tS_5_1313 : List Cond := (Jvm.Cond.code ({ cls := "RunweaverModel", name := "mark", desc := "(IZ)I" } : Jvm.MethodName) prog_6_method_67_code (8 : Nat) (Option.some Jvm.ClassFile.FieldType.int)) :: tS_5_1314
def tS_5_1312 : List Cond := (Jvm.Cond.selects "RunweaverModel" ({ cls := "RunweaverModel", name := "mark", desc := "(IZ)I" } : Jvm.MethodName) ({ cls := "RunweaverModel", name := "mark", desc := "(IZ)I" } : Jvm.MethodName)) :: tS_5_1313
def tS_5_1311 : List Cond := (Jvm.Cond.instanceMethod ({ cls := "RunweaverModel", name := "mark", desc := "(IZ)I" } : Jvm.MethodName)) :: tS_5_1312
def tS_5_1310 : List Cond := (Jvm.Cond.methodLink "RunweaverLaw" (303 : Nat) ({ cls := "RunweaverModel", name := "mark", desc := "(IZ)I" } : Jvm.MethodName)) :: tS_5_1311
def tS_5_1309 : List Cond := (Jvm.Cond.code ({ cls := "RunweaverModel", name := "bag", desc := "(II)Z" } : Jvm.MethodName) prog_6_method_66_code (8 : Nat) (Option.some Jvm.ClassFile.FieldType.boolean)) :: tS_5_1310
def tS_5_1308 : List Cond := (Jvm.Cond.selects "RunweaverModel" ({ cls := "RunweaverModel", name := "bag", desc := "(II)Z" } : Jvm.MethodName) ({ cls := "RunweaverModel", name := "bag", desc := "(II)Z" } : Jvm.MethodName)) :: tS_5_1309
def tS_5_1307 : List Cond := (Jvm.Cond.instanceMethod ({ cls := "RunweaverModel", name := "bag", desc := "(II)Z" } : Jvm.MethodName)) :: tS_5_1308
def tS_5_1306 : List Cond := (Jvm.Cond.methodLink "RunweaverLaw" (296 : Nat) ({ cls := "RunweaverModel", name := "bag", desc := "(II)Z" } : Jvm.MethodName)) :: tS_5_1307
def tS_5_1305 : List Cond := (Jvm.Cond.code ({ cls := "RunweaverModel", name := "same", desc := "(II)Z" } : Jvm.MethodName) prog_6_method_65_code (3 : Nat) (Option.some Jvm.ClassFile.FieldType.boolean)) :: tS_5_1306
def tS_5_1304 : List Cond := (Jvm.Cond.selects "RunweaverModel" ({ cls := "RunweaverModel", name := "same", desc := "(II)Z" } : Jvm.MethodName) ({ cls := "RunweaverModel", name := "same", desc := "(II)Z" } : Jvm.MethodName)) :: tS_5_1305
def tS_5_1303 : List Cond := (Jvm.Cond.instanceMethod ({ cls := "RunweaverModel", name := "same", desc := "(II)Z" } : Jvm.MethodName)) :: tS_5_1304
def tS_5_1302 : List Cond := (Jvm.Cond.methodLink "RunweaverLaw" (293 : Nat) ({ cls := "RunweaverModel", name := "same", desc := "(II)Z" } : Jvm.MethodName)) :: tS_5_1303
def tS_5_1301 : List Cond := (Jvm.Cond.code ({ cls := "RunweaverModel", name := "sum", desc := "(I)I" } : Jvm.MethodName) prog_6_method_64_code (7 : Nat) (Option.some Jvm.ClassFile.FieldType.int)) :: tS_5_1302
def tS_5_1300 : List Cond := (Jvm.Cond.selects "RunweaverModel" ({ cls := "RunweaverModel", name := "sum", desc := "(I)I" } : Jvm.MethodName) ({ cls := "RunweaverModel", name := "sum", desc := "(I)I" } : Jvm.MethodName)) :: tS_5_1301
def tS_5_1299 : List Cond := (Jvm.Cond.instanceMethod ({ cls := "RunweaverModel", name := "sum", desc := "(I)I" } : Jvm.MethodName)) :: tS_5_1300
def tS_5_1298 : List Cond := (Jvm.Cond.methodLink "RunweaverLaw" (290 : Nat) ({ cls := "RunweaverModel", name := "sum", desc := "(I)I" } : Jvm.MethodName)) :: tS_5_1299
def tS_5_1297 : List Cond := (Jvm.Cond.code ({ cls := "RunweaverModel", name := "most", desc := "(I)I" } : Jvm.MethodName) prog_6_method_63_code (9 : Nat) (Option.some Jvm.ClassFile.FieldType.int)) :: tS_5_1298
def tS_5_1296 : List Cond := (Jvm.Cond.selects "RunweaverModel" ({ cls := "RunweaverModel", name := "most", desc := "(I)I" } : Jvm.MethodName) ({ cls := "RunweaverModel", name := "most", desc := "(I)I" } : Jvm.MethodName)) :: tS_5_1297
def tS_5_1295 : List Cond := (Jvm.Cond.instanceMethod ({ cls := "RunweaverModel", name := "most", desc := "(I)I" } : Jvm.MethodName)) :: tS_5_1296
def tS_5_1294 : List Cond := (Jvm.Cond.methodLink "RunweaverLaw" (287 : Nat) ({ cls := "RunweaverModel", name := "most", desc := "(I)I" } : Jvm.MethodName)) :: tS_5_1295
def tS_5_1293 : List Cond := (Jvm.Cond.code ({ cls := "RunweaverModel", name := "isNew", desc := "(II)Z" } : Jvm.MethodName) prog_6_method_62_code (4 : Nat) (Option.some Jvm.ClassFile.FieldType.boolean)) :: tS_5_1294
def tS_5_1292 : List Cond := (Jvm.Cond.instanceMethod ({ cls := "RunweaverModel", name := "isNew", desc := "(II)Z" } : Jvm.MethodName)) :: tS_5_1293
def tS_5_1291 : List Cond := (Jvm.Cond.privateMethod ({ cls := "RunweaverModel", name := "isNew", desc := "(II)Z" } : Jvm.MethodName)) :: tS_5_1292
def tS_5_1290 : List Cond := (Jvm.Cond.methodLink "RunweaverModel" (143 : Nat) ({ cls := "RunweaverModel", name := "isNew", desc := "(II)Z" } : Jvm.MethodName)) :: tS_5_1291
def tS_5_1289 : List Cond := (Jvm.Cond.code ({ cls := "RunweaverModel", name := "unlike", desc := "(I)I" } : Jvm.MethodName) prog_6_method_61_code (4 : Nat) (Option.some Jvm.ClassFile.FieldType.int)) :: tS_5_1290
def tS_5_1288 : List Cond := (Jvm.Cond.selects "RunweaverModel" ({ cls := "RunweaverModel", name := "unlike", desc := "(I)I" } : Jvm.MethodName) ({ cls := "RunweaverModel", name := "unlike", desc := "(I)I" } : Jvm.MethodName)) :: tS_5_1289
def tS_5_1287 : List Cond := (Jvm.Cond.instanceMethod ({ cls := "RunweaverModel", name := "unlike", desc := "(I)I" } : Jvm.MethodName)) :: tS_5_1288
def tS_5_1286 : List Cond := (Jvm.Cond.methodLink "RunweaverLaw" (284 : Nat) ({ cls := "RunweaverModel", name := "unlike", desc := "(I)I" } : Jvm.MethodName)) :: tS_5_1287
def tS_5_1285 : List Cond := (Jvm.Cond.constant "RunweaverModel" (142 : Nat) (-100000 : Int32)) :: tS_5_1286
def tS_5_1284 : List Cond := (Jvm.Cond.code ({ cls := "RunweaverModel", name := "end", desc := "(IZ)I" } : Jvm.MethodName) prog_6_method_60_code (8 : Nat) (Option.some Jvm.ClassFile.FieldType.int)) :: tS_5_1285
def tS_5_1283 : List Cond := (Jvm.Cond.selects "RunweaverModel" ({ cls := "RunweaverModel", name := "end", desc := "(IZ)I" } : Jvm.MethodName) ({ cls := "RunweaverModel", name := "end", desc := "(IZ)I" } : Jvm.MethodName)) :: tS_5_1284
def tS_5_1282 : List Cond := (Jvm.Cond.instanceMethod ({ cls := "RunweaverModel", name := "end", desc := "(IZ)I" } : Jvm.MethodName)) :: tS_5_1283
def tS_5_1281 : List Cond := (Jvm.Cond.methodLink "RunweaverLaw" (281 : Nat) ({ cls := "RunweaverModel", name := "end", desc := "(IZ)I" } : Jvm.MethodName)) :: tS_5_1282
def tS_5_1280 : List Cond := (Jvm.Cond.code ({ cls := "RunweaverModel", name := "first", desc := "(IIZ)I" } : Jvm.MethodName) prog_6_method_59_code (6 : Nat) (Option.some Jvm.ClassFile.FieldType.int)) :: tS_5_1281
def tS_5_1279 : List Cond := (Jvm.Cond.selects "RunweaverModel" ({ cls := "RunweaverModel", name := "first", desc := "(IIZ)I" } : Jvm.MethodName) ({ cls := "RunweaverModel", name := "first", desc := "(IIZ)I" } : Jvm.MethodName)) :: tS_5_1280
def tS_5_1278 : List Cond := (Jvm.Cond.instanceMethod ({ cls := "RunweaverModel", name := "first", desc := "(IIZ)I" } : Jvm.MethodName)) :: tS_5_1279
def tS_5_1277 : List Cond := (Jvm.Cond.methodLink "RunweaverLaw" (277 : Nat) ({ cls := "RunweaverModel", name := "first", desc := "(IIZ)I" } : Jvm.MethodName)) :: tS_5_1278
def tS_5_1276 : List Cond := (Jvm.Cond.code ({ cls := "RunweaverModel", name := "below", desc := "(II)I" } : Jvm.MethodName) prog_6_method_58_code (3 : Nat) (Option.some Jvm.ClassFile.FieldType.int)) :: tS_5_1277
def tS_5_1275 : List Cond := (Jvm.Cond.selects "RunweaverModel" ({ cls := "RunweaverModel", name := "below", desc := "(II)I" } : Jvm.MethodName) ({ cls := "RunweaverModel", name := "below", desc := "(II)I" } : Jvm.MethodName)) :: tS_5_1276
def tS_5_1274 : List Cond := (Jvm.Cond.instanceMethod ({ cls := "RunweaverModel", name := "below", desc := "(II)I" } : Jvm.MethodName)) :: tS_5_1275
def tS_5_1273 : List Cond := (Jvm.Cond.methodLink "RunweaverLaw" (273 : Nat) ({ cls := "RunweaverModel", name := "below", desc := "(II)I" } : Jvm.MethodName)) :: tS_5_1274
def tS_5_1272 : List Cond := (Jvm.Cond.code ({ cls := "RunweaverModel", name := "often", desc := "(III)I" } : Jvm.MethodName) prog_6_method_56_code (9 : Nat) (Option.some Jvm.ClassFile.FieldType.int)) :: tS_5_1273
def tS_5_1271 : List Cond := (Jvm.Cond.instanceMethod ({ cls := "RunweaverModel", name := "often", desc := "(III)I" } : Jvm.MethodName)) :: tS_5_1272
def tS_5_1270 : List Cond := (Jvm.Cond.privateMethod ({ cls := "RunweaverModel", name := "often", desc := "(III)I" } : Jvm.MethodName)) :: tS_5_1271
def tS_5_1269 : List Cond := (Jvm.Cond.methodLink "RunweaverModel" (138 : Nat) ({ cls := "RunweaverModel", name := "often", desc := "(III)I" } : Jvm.MethodName)) :: tS_5_1270
def tS_5_1268 : List Cond := (Jvm.Cond.code ({ cls := "RunweaverModel", name := "count", desc := "(II)I" } : Jvm.MethodName) prog_6_method_57_code (3 : Nat) (Option.some Jvm.ClassFile.FieldType.int)) :: tS_5_1269
def tS_5_1267 : List Cond := (Jvm.Cond.selects "RunweaverModel" ({ cls := "RunweaverModel", name := "count", desc := "(II)I" } : Jvm.MethodName) ({ cls := "RunweaverModel", name := "count", desc := "(II)I" } : Jvm.MethodName)) :: tS_5_1268
def tS_5_1266 : List Cond := (Jvm.Cond.instanceMethod ({ cls := "RunweaverModel", name := "count", desc := "(II)I" } : Jvm.MethodName)) :: tS_5_1267
def tS_5_1265 : List Cond := (Jvm.Cond.methodLink "RunweaverLaw" (270 : Nat) ({ cls := "RunweaverModel", name := "count", desc := "(II)I" } : Jvm.MethodName)) :: tS_5_1266
def tS_5_1264 : List Cond := (Jvm.Cond.methodLink "RunweaverModel" (135 : Nat) ({ cls := "java/lang/Math", name := "max", desc := "(II)I" } : Jvm.MethodName)) :: tS_5_1265
def tS_5_1263 : List Cond := (Jvm.Cond.code ({ cls := "RunweaverModel", name := "longest", desc := "(I)I" } : Jvm.MethodName) prog_6_method_55_code (4 : Nat) (Option.some Jvm.ClassFile.FieldType.int)) :: tS_5_1264
def tS_5_1262 : List Cond := (Jvm.Cond.selects "RunweaverModel" ({ cls := "RunweaverModel", name := "longest", desc := "(I)I" } : Jvm.MethodName) ({ cls := "RunweaverModel", name := "longest", desc := "(I)I" } : Jvm.MethodName)) :: tS_5_1263
def tS_5_1261 : List Cond := (Jvm.Cond.instanceMethod ({ cls := "RunweaverModel", name := "longest", desc := "(I)I" } : Jvm.MethodName)) :: tS_5_1262
def tS_5_1260 : List Cond := (Jvm.Cond.methodLink "RunweaverLaw" (267 : Nat) ({ cls := "RunweaverModel", name := "longest", desc := "(I)I" } : Jvm.MethodName)) :: tS_5_1261
def tS_5_1259 : List Cond := (Jvm.Cond.code ({ cls := "RunweaverModel", name := "runs", desc := "(I)I" } : Jvm.MethodName) prog_6_method_54_code (4 : Nat) (Option.some Jvm.ClassFile.FieldType.int)) :: tS_5_1260
def tS_5_1258 : List Cond := (Jvm.Cond.selects "RunweaverModel" ({ cls := "RunweaverModel", name := "runs", desc := "(I)I" } : Jvm.MethodName) ({ cls := "RunweaverModel", name := "runs", desc := "(I)I" } : Jvm.MethodName)) :: tS_5_1259
def tS_5_1257 : List Cond := (Jvm.Cond.instanceMethod ({ cls := "RunweaverModel", name := "runs", desc := "(I)I" } : Jvm.MethodName)) :: tS_5_1258
def tS_5_1256 : List Cond := (Jvm.Cond.methodLink "RunweaverLaw" (264 : Nat) ({ cls := "RunweaverModel", name := "runs", desc := "(I)I" } : Jvm.MethodName)) :: tS_5_1257
def tS_5_1255 : List Cond := (Jvm.Cond.code ({ cls := "RunweaverModel", name := "ties", desc := "(I)I" } : Jvm.MethodName) prog_6_method_53_code (2 : Nat) (Option.some Jvm.ClassFile.FieldType.int)) :: tS_5_1256
def tS_5_1254 : List Cond := (Jvm.Cond.selects "RunweaverModel" ({ cls := "RunweaverModel", name := "ties", desc := "(I)I" } : Jvm.MethodName) ({ cls := "RunweaverModel", name := "ties", desc := "(I)I" } : Jvm.MethodName)) :: tS_5_1255
def tS_5_1253 : List Cond := (Jvm.Cond.instanceMethod ({ cls := "RunweaverModel", name := "ties", desc := "(I)I" } : Jvm.MethodName)) :: tS_5_1254
def tS_5_1252 : List Cond := (Jvm.Cond.methodLink "RunweaverLaw" (261 : Nat) ({ cls := "RunweaverModel", name := "ties", desc := "(I)I" } : Jvm.MethodName)) :: tS_5_1253
def tS_5_1251 : List Cond := (Jvm.Cond.code ({ cls := "RunweaverModel", name := "right", desc := "(I)I" } : Jvm.MethodName) prog_6_method_52_code (2 : Nat) (Option.some Jvm.ClassFile.FieldType.int)) :: tS_5_1252
def tS_5_1250 : List Cond := (Jvm.Cond.selects "RunweaverModel" ({ cls := "RunweaverModel", name := "right", desc := "(I)I" } : Jvm.MethodName) ({ cls := "RunweaverModel", name := "right", desc := "(I)I" } : Jvm.MethodName)) :: tS_5_1251
def tS_5_1249 : List Cond := (Jvm.Cond.instanceMethod ({ cls := "RunweaverModel", name := "right", desc := "(I)I" } : Jvm.MethodName)) :: tS_5_1250
def tS_5_1248 : List Cond := (Jvm.Cond.methodLink "RunweaverLaw" (258 : Nat) ({ cls := "RunweaverModel", name := "right", desc := "(I)I" } : Jvm.MethodName)) :: tS_5_1249
def tS_5_1247 : List Cond := (Jvm.Cond.code ({ cls := "RunweaverModel", name := "wrong", desc := "(II)I" } : Jvm.MethodName) prog_6_method_51_code (3 : Nat) (Option.some Jvm.ClassFile.FieldType.int)) :: tS_5_1248
def tS_5_1246 : List Cond := (Jvm.Cond.selects "RunweaverModel" ({ cls := "RunweaverModel", name := "wrong", desc := "(II)I" } : Jvm.MethodName) ({ cls := "RunweaverModel", name := "wrong", desc := "(II)I" } : Jvm.MethodName)) :: tS_5_1247
def tS_5_1245 : List Cond := (Jvm.Cond.instanceMethod ({ cls := "RunweaverModel", name := "wrong", desc := "(II)I" } : Jvm.MethodName)) :: tS_5_1246
def tS_5_1244 : List Cond := (Jvm.Cond.methodLink "RunweaverLaw" (255 : Nat) ({ cls := "RunweaverModel", name := "wrong", desc := "(II)I" } : Jvm.MethodName)) :: tS_5_1245
def tS_5_1243 : List Cond := (Jvm.Cond.code ({ cls := "RunweaverModel", name := "isKept", desc := "(I)Z" } : Jvm.MethodName) prog_6_method_50_code (3 : Nat) (Option.some Jvm.ClassFile.FieldType.boolean)) :: tS_5_1244
def tS_5_1242 : List Cond := (Jvm.Cond.selects "RunweaverModel" ({ cls := "RunweaverModel", name := "isKept", desc := "(I)Z" } : Jvm.MethodName) ({ cls := "RunweaverModel", name := "isKept", desc := "(I)Z" } : Jvm.MethodName)) :: tS_5_1243
def tS_5_1241 : List Cond := (Jvm.Cond.instanceMethod ({ cls := "RunweaverModel", name := "isKept", desc := "(I)Z" } : Jvm.MethodName)) :: tS_5_1242
def tS_5_1240 : List Cond := (Jvm.Cond.methodLink "RunweaverLaw" (252 : Nat) ({ cls := "RunweaverModel", name := "isKept", desc := "(I)Z" } : Jvm.MethodName)) :: tS_5_1241
def tS_5_1239 : List Cond := (Jvm.Cond.code ({ cls := "RunweaverModel", name := "isFalling", desc := "(I)Z" } : Jvm.MethodName) prog_6_method_49_code (2 : Nat) (Option.some Jvm.ClassFile.FieldType.boolean)) :: tS_5_1240
def tS_5_1238 : List Cond := (Jvm.Cond.selects "RunweaverModel" ({ cls := "RunweaverModel", name := "isFalling", desc := "(I)Z" } : Jvm.MethodName) ({ cls := "RunweaverModel", name := "isFalling", desc := "(I)Z" } : Jvm.MethodName)) :: tS_5_1239
def tS_5_1237 : List Cond := (Jvm.Cond.instanceMethod ({ cls := "RunweaverModel", name := "isFalling", desc := "(I)Z" } : Jvm.MethodName)) :: tS_5_1238
def tS_5_1236 : List Cond := (Jvm.Cond.methodLink "RunweaverLaw" (249 : Nat) ({ cls := "RunweaverModel", name := "isFalling", desc := "(I)Z" } : Jvm.MethodName)) :: tS_5_1237
def tS_5_1235 : List Cond := (Jvm.Cond.code ({ cls := "RunweaverModel", name := "isSorted", desc := "(I)Z" } : Jvm.MethodName) prog_6_method_48_code (2 : Nat) (Option.some Jvm.ClassFile.FieldType.boolean)) :: tS_5_1236
def tS_5_1234 : List Cond := (Jvm.Cond.selects "RunweaverModel" ({ cls := "RunweaverModel", name := "isSorted", desc := "(I)Z" } : Jvm.MethodName) ({ cls := "RunweaverModel", name := "isSorted", desc := "(I)Z" } : Jvm.MethodName)) :: tS_5_1235
def tS_5_1233 : List Cond := (Jvm.Cond.instanceMethod ({ cls := "RunweaverModel", name := "isSorted", desc := "(I)Z" } : Jvm.MethodName)) :: tS_5_1234
def tS_5_1232 : List Cond := (Jvm.Cond.methodLink "RunweaverLaw" (246 : Nat) ({ cls := "RunweaverModel", name := "isSorted", desc := "(I)Z" } : Jvm.MethodName)) :: tS_5_1233
def tS_5_1231 : List Cond := (Jvm.Cond.methodLink "RunweaverModel" (131 : Nat) ({ cls := "java/lang/StringBuilder", name := "toString", desc := "()Ljava/lang/String;" } : Jvm.MethodName)) :: tS_5_1232
def tS_5_1230 : List Cond := (Jvm.Cond.methodLink "RunweaverModel" (128 : Nat) ({ cls := "java/lang/StringBuilder", name := "append", desc := "(I)Ljava/lang/StringBuilder;" } : Jvm.MethodName)) :: tS_5_1231
def tS_5_1229 : List Cond := (Jvm.Cond.methodLink "RunweaverModel" (124 : Nat) ({ cls := "java/lang/StringBuilder", name := "append", desc := "(Ljava/lang/String;)Ljava/lang/StringBuilder;" } : Jvm.MethodName)) :: tS_5_1230
def tS_5_1228 : List Cond := (Jvm.Cond.stringRef "RunweaverModel" (122 : Nat) " ") :: tS_5_1229
def tS_5_1227 : List Cond := (Jvm.Cond.methodLink "RunweaverModel" (121 : Nat) ({ cls := "java/lang/StringBuilder", name := "<init>", desc := "()V" } : Jvm.MethodName)) :: tS_5_1228
def tS_5_1226 : List Cond := (Jvm.Cond.classLink "RunweaverModel" (119 : Nat) "java/lang/StringBuilder") :: tS_5_1227
def tS_5_1225 : List Cond := (Jvm.Cond.stringRef "RunweaverModel" (117 : Nat) "") :: tS_5_1226
def tS_5_1224 : List Cond := (Jvm.Cond.code ({ cls := "RunweaverModel", name := "text", desc := "(III)Ljava/lang/String;" } : Jvm.MethodName) prog_6_method_46_code (6 : Nat) (Option.some (Jvm.ClassFile.FieldType.object "java/lang/String"))) :: tS_5_1225
def tS_5_1223 : List Cond := (Jvm.Cond.selects "RunweaverModel" ({ cls := "RunweaverModel", name := "text", desc := "(III)Ljava/lang/String;" } : Jvm.MethodName) ({ cls := "RunweaverModel", name := "text", desc := "(III)Ljava/lang/String;" } : Jvm.MethodName)) :: tS_5_1224
def tS_5_1222 : List Cond := (Jvm.Cond.instanceMethod ({ cls := "RunweaverModel", name := "text", desc := "(III)Ljava/lang/String;" } : Jvm.MethodName)) :: tS_5_1223
def tS_5_1221 : List Cond := (Jvm.Cond.methodLink "RunweaverLaw" (243 : Nat) ({ cls := "RunweaverModel", name := "text", desc := "(III)Ljava/lang/String;" } : Jvm.MethodName)) :: tS_5_1222
def tS_5_1220 : List Cond := (Jvm.Cond.code ({ cls := "RunweaverModel", name := "behind", desc := "(II)I" } : Jvm.MethodName) prog_6_method_44_code (4 : Nat) (Option.some Jvm.ClassFile.FieldType.int)) :: tS_5_1221
def tS_5_1219 : List Cond := (Jvm.Cond.instanceMethod ({ cls := "RunweaverModel", name := "behind", desc := "(II)I" } : Jvm.MethodName)) :: tS_5_1220
def tS_5_1218 : List Cond := (Jvm.Cond.privateMethod ({ cls := "RunweaverModel", name := "behind", desc := "(II)I" } : Jvm.MethodName)) :: tS_5_1219
def tS_5_1217 : List Cond := (Jvm.Cond.methodLink "RunweaverModel" (114 : Nat) ({ cls := "RunweaverModel", name := "behind", desc := "(II)I" } : Jvm.MethodName)) :: tS_5_1218
def tS_5_1216 : List Cond := (Jvm.Cond.code ({ cls := "RunweaverModel", name := "runAt", desc := "(II)I" } : Jvm.MethodName) prog_6_method_45_code (3 : Nat) (Option.some Jvm.ClassFile.FieldType.int)) :: tS_5_1217
def tS_5_1215 : List Cond := (Jvm.Cond.selects "RunweaverModel" ({ cls := "RunweaverModel", name := "runAt", desc := "(II)I" } : Jvm.MethodName) ({ cls := "RunweaverModel", name := "runAt", desc := "(II)I" } : Jvm.MethodName)) :: tS_5_1216
def tS_5_1214 : List Cond := (Jvm.Cond.instanceMethod ({ cls := "RunweaverModel", name := "runAt", desc := "(II)I" } : Jvm.MethodName)) :: tS_5_1215
def tS_5_1213 : List Cond := (Jvm.Cond.methodLink "RunweaverLaw" (240 : Nat) ({ cls := "RunweaverModel", name := "runAt", desc := "(II)I" } : Jvm.MethodName)) :: tS_5_1214
def tS_5_1212 : List Cond := (Jvm.Cond.code ({ cls := "RunweaverModel", name := "after", desc := "(II)I" } : Jvm.MethodName) prog_6_method_43_code (3 : Nat) (Option.some Jvm.ClassFile.FieldType.int)) :: tS_5_1213
def tS_5_1211 : List Cond := (Jvm.Cond.selects "RunweaverModel" ({ cls := "RunweaverModel", name := "after", desc := "(II)I" } : Jvm.MethodName) ({ cls := "RunweaverModel", name := "after", desc := "(II)I" } : Jvm.MethodName)) :: tS_5_1212
def tS_5_1210 : List Cond := (Jvm.Cond.instanceMethod ({ cls := "RunweaverModel", name := "after", desc := "(II)I" } : Jvm.MethodName)) :: tS_5_1211
def tS_5_1209 : List Cond := (Jvm.Cond.methodLink "RunweaverLaw" (237 : Nat) ({ cls := "RunweaverModel", name := "after", desc := "(II)I" } : Jvm.MethodName)) :: tS_5_1210
def tS_5_1208 : List Cond := (Jvm.Cond.code ({ cls := "RunweaverModel", name := "wrongAt", desc := "(II)I" } : Jvm.MethodName) prog_6_method_42_code (5 : Nat) (Option.some Jvm.ClassFile.FieldType.int)) :: tS_5_1209
def tS_5_1207 : List Cond := (Jvm.Cond.selects "RunweaverModel" ({ cls := "RunweaverModel", name := "wrongAt", desc := "(II)I" } : Jvm.MethodName) ({ cls := "RunweaverModel", name := "wrongAt", desc := "(II)I" } : Jvm.MethodName)) :: tS_5_1208
def tS_5_1206 : List Cond := (Jvm.Cond.instanceMethod ({ cls := "RunweaverModel", name := "wrongAt", desc := "(II)I" } : Jvm.MethodName)) :: tS_5_1207
def tS_5_1205 : List Cond := (Jvm.Cond.methodLink "RunweaverLaw" (234 : Nat) ({ cls := "RunweaverModel", name := "wrongAt", desc := "(II)I" } : Jvm.MethodName)) :: tS_5_1206
def tS_5_1204 : List Cond := (Jvm.Cond.code ({ cls := "RunweaverModel", name := "wouldStamp", desc := "(II)I" } : Jvm.MethodName) prog_6_method_41_code (3 : Nat) (Option.some Jvm.ClassFile.FieldType.int)) :: tS_5_1205
def tS_5_1203 : List Cond := (Jvm.Cond.selects "RunweaverModel" ({ cls := "RunweaverModel", name := "wouldStamp", desc := "(II)I" } : Jvm.MethodName) ({ cls := "RunweaverModel", name := "wouldStamp", desc := "(II)I" } : Jvm.MethodName)) :: tS_5_1204
def tS_5_1202 : List Cond := (Jvm.Cond.instanceMethod ({ cls := "RunweaverModel", name := "wouldStamp", desc := "(II)I" } : Jvm.MethodName)) :: tS_5_1203
def tS_5_1201 : List Cond := (Jvm.Cond.methodLink "RunweaverLaw" (231 : Nat) ({ cls := "RunweaverModel", name := "wouldStamp", desc := "(II)I" } : Jvm.MethodName)) :: tS_5_1202
def tS_5_1200 : List Cond := (Jvm.Cond.code ({ cls := "RunweaverModel", name := "would", desc := "(II)I" } : Jvm.MethodName) prog_6_method_40_code (3 : Nat) (Option.some Jvm.ClassFile.FieldType.int)) :: tS_5_1201
set_option maxRecDepth 100000 in
theorem tU_5 : tables_1_6 = tS_5_1200 := rfl
theorem tV_5_1200 {w : Cond} (h0 : w ∈ tS_5_1200) : w ∈ lw_tbl := List.mem_append_left _ (List.mem_append_right _ (have h : w ∈ tables_1_6 := tU_5 ▸ h0; (List.mem_append_right _ (List.mem_append_right _ (List.mem_append_right _ (List.mem_append_right _ (List.mem_append_right _ (h))))) : w ∈ tables_1)))
theorem tV_5_1201 {w : Cond} (h : w ∈ tS_5_1201) : w ∈ lw_tbl := tV_5_1200 (List.mem_cons_of_mem _ h)
theorem tV_5_1202 {w : Cond} (h : w ∈ tS_5_1202) : w ∈ lw_tbl := tV_5_1201 (List.mem_cons_of_mem _ h)
theorem tV_5_1203 {w : Cond} (h : w ∈ tS_5_1203) : w ∈ lw_tbl := tV_5_1202 (List.mem_cons_of_mem _ h)
theorem tV_5_1204 {w : Cond} (h : w ∈ tS_5_1204) : w ∈ lw_tbl := tV_5_1203 (List.mem_cons_of_mem _ h)
theorem tV_5_1205 {w : Cond} (h : w ∈ tS_5_1205) : w ∈ lw_tbl := tV_5_1204 (List.mem_cons_of_mem _ h)
theorem tV_5_1206 {w : Cond} (h : w ∈ tS_5_1206) : w ∈ lw_tbl := tV_5_1205 (List.mem_cons_of_mem _ h)
theorem tV_5_1207 {w : Cond} (h : w ∈ tS_5_1207) : w ∈ lw_tbl := tV_5_1206 (List.mem_cons_of_mem _ h)
theorem tV_5_1208 {w : Cond} (h : w ∈ tS_5_1208) : w ∈ lw_tbl := tV_5_1207 (List.mem_cons_of_mem _ h)
theorem tV_5_1209 {w : Cond} (h : w ∈ tS_5_1209) : w ∈ lw_tbl := tV_5_1208 (List.mem_cons_of_mem _ h)
theorem tV_5_1210 {w : Cond} (h : w ∈ tS_5_1210) : w ∈ lw_tbl := tV_5_1209 (List.mem_cons_of_mem _ h)
theorem tV_5_1211 {w : Cond} (h : w ∈ tS_5_1211) : w ∈ lw_tbl := tV_5_1210 (List.mem_cons_of_mem _ h)
theorem tV_5_1212 {w : Cond} (h : w ∈ tS_5_1212) : w ∈ lw_tbl := tV_5_1211 (List.mem_cons_of_mem _ h)
theorem tV_5_1213 {w : Cond} (h : w ∈ tS_5_1213) : w ∈ lw_tbl := tV_5_1212 (List.mem_cons_of_mem _ h)
theorem tV_5_1214 {w : Cond} (h : w ∈ tS_5_1214) : w ∈ lw_tbl := tV_5_1213 (List.mem_cons_of_mem _ h)
theorem tV_5_1215 {w : Cond} (h : w ∈ tS_5_1215) : w ∈ lw_tbl := tV_5_1214 (List.mem_cons_of_mem _ h)
theorem tV_5_1216 {w : Cond} (h : w ∈ tS_5_1216) : w ∈ lw_tbl := tV_5_1215 (List.mem_cons_of_mem _ h)
theorem tV_5_1217 {w : Cond} (h : w ∈ tS_5_1217) : w ∈ lw_tbl := tV_5_1216 (List.mem_cons_of_mem _ h)
theorem tV_5_1218 {w : Cond} (h : w ∈ tS_5_1218) : w ∈ lw_tbl := tV_5_1217 (List.mem_cons_of_mem _ h)
theorem tV_5_1219 {w : Cond} (h : w ∈ tS_5_1219) : w ∈ lw_tbl := tV_5_1218 (List.mem_cons_of_mem _ h)
theorem tV_5_1220 {w : Cond} (h : w ∈ tS_5_1220) : w ∈ lw_tbl := tV_5_1219 (List.mem_cons_of_mem _ h)
theorem tV_5_1221 {w : Cond} (h : w ∈ tS_5_1221) : w ∈ lw_tbl := tV_5_1220 (List.mem_cons_of_mem _ h)
theorem tV_5_1222 {w : Cond} (h : w ∈ tS_5_1222) : w ∈ lw_tbl := tV_5_1221 (List.mem_cons_of_mem _ h)
theorem tV_5_1223 {w : Cond} (h : w ∈ tS_5_1223) : w ∈ lw_tbl := tV_5_1222 (List.mem_cons_of_mem _ h)
theorem tV_5_1224 {w : Cond} (h : w ∈ tS_5_1224) : w ∈ lw_tbl := tV_5_1223 (List.mem_cons_of_mem _ h)
theorem tV_5_1225 {w : Cond} (h : w ∈ tS_5_1225) : w ∈ lw_tbl := tV_5_1224 (List.mem_cons_of_mem _ h)
theorem tV_5_1226 {w : Cond} (h : w ∈ tS_5_1226) : w ∈ lw_tbl := tV_5_1225 (List.mem_cons_of_mem _ h)
theorem tV_5_1227 {w : Cond} (h : w ∈ tS_5_1227) : w ∈ lw_tbl := tV_5_1226 (List.mem_cons_of_mem _ h)
theorem tV_5_1228 {w : Cond} (h : w ∈ tS_5_1228) : w ∈ lw_tbl := tV_5_1227 (List.mem_cons_of_mem _ h)
theorem tV_5_1229 {w : Cond} (h : w ∈ tS_5_1229) : w ∈ lw_tbl := tV_5_1228 (List.mem_cons_of_mem _ h)
theorem tV_5_1230 {w : Cond} (h : w ∈ tS_5_1230) : w ∈ lw_tbl := tV_5_1229 (List.mem_cons_of_mem _ h)
theorem tV_5_1231 {w : Cond} (h : w ∈ tS_5_1231) : w ∈ lw_tbl := tV_5_1230 (List.mem_cons_of_mem _ h)
theorem tV_5_1232 {w : Cond} (h : w ∈ tS_5_1232) : w ∈ lw_tbl := tV_5_1231 (List.mem_cons_of_mem _ h)
theorem tV_5_1233 {w : Cond} (h : w ∈ tS_5_1233) : w ∈ lw_tbl := tV_5_1232 (List.mem_cons_of_mem _ h)
theorem tV_5_1234 {w : Cond} (h : w ∈ tS_5_1234) : w ∈ lw_tbl := tV_5_1233 (List.mem_cons_of_mem _ h)
theorem tV_5_1235 {w : Cond} (h : w ∈ tS_5_1235) : w ∈ lw_tbl := tV_5_1234 (List.mem_cons_of_mem _ h)
theorem tV_5_1236 {w : Cond} (h : w ∈ tS_5_1236) : w ∈ lw_tbl := tV_5_1235 (List.mem_cons_of_mem _ h)
theorem tV_5_1237 {w : Cond} (h : w ∈ tS_5_1237) : w ∈ lw_tbl := tV_5_1236 (List.mem_cons_of_mem _ h)
theorem tV_5_1238 {w : Cond} (h : w ∈ tS_5_1238) : w ∈ lw_tbl := tV_5_1237 (List.mem_cons_of_mem _ h)
theorem tV_5_1239 {w : Cond} (h : w ∈ tS_5_1239) : w ∈ lw_tbl := tV_5_1238 (List.mem_cons_of_mem _ h)
theorem tV_5_1240 {w : Cond} (h : w ∈ tS_5_1240) : w ∈ lw_tbl := tV_5_1239 (List.mem_cons_of_mem _ h)
theorem tV_5_1241 {w : Cond} (h : w ∈ tS_5_1241) : w ∈ lw_tbl := tV_5_1240 (List.mem_cons_of_mem _ h)
theorem tV_5_1242 {w : Cond} (h : w ∈ tS_5_1242) : w ∈ lw_tbl := tV_5_1241 (List.mem_cons_of_mem _ h)
theorem tV_5_1243 {w : Cond} (h : w ∈ tS_5_1243) : w ∈ lw_tbl := tV_5_1242 (List.mem_cons_of_mem _ h)
theorem tV_5_1244 {w : Cond} (h : w ∈ tS_5_1244) : w ∈ lw_tbl := tV_5_1243 (List.mem_cons_of_mem _ h)
theorem tV_5_1245 {w : Cond} (h : w ∈ tS_5_1245) : w ∈ lw_tbl := tV_5_1244 (List.mem_cons_of_mem _ h)
theorem tV_5_1246 {w : Cond} (h : w ∈ tS_5_1246) : w ∈ lw_tbl := tV_5_1245 (List.mem_cons_of_mem _ h)
theorem tV_5_1247 {w : Cond} (h : w ∈ tS_5_1247) : w ∈ lw_tbl := tV_5_1246 (List.mem_cons_of_mem _ h)
theorem tV_5_1248 {w : Cond} (h : w ∈ tS_5_1248) : w ∈ lw_tbl := tV_5_1247 (List.mem_cons_of_mem _ h)
theorem tV_5_1249 {w : Cond} (h : w ∈ tS_5_1249) : w ∈ lw_tbl := tV_5_1248 (List.mem_cons_of_mem _ h)
theorem tV_5_1250 {w : Cond} (h : w ∈ tS_5_1250) : w ∈ lw_tbl := tV_5_1249 (List.mem_cons_of_mem _ h)
theorem tV_5_1251 {w : Cond} (h : w ∈ tS_5_1251) : w ∈ lw_tbl := tV_5_1250 (List.mem_cons_of_mem _ h)
theorem tV_5_1252 {w : Cond} (h : w ∈ tS_5_1252) : w ∈ lw_tbl := tV_5_1251 (List.mem_cons_of_mem _ h)
theorem tV_5_1253 {w : Cond} (h : w ∈ tS_5_1253) : w ∈ lw_tbl := tV_5_1252 (List.mem_cons_of_mem _ h)
theorem tV_5_1254 {w : Cond} (h : w ∈ tS_5_1254) : w ∈ lw_tbl := tV_5_1253 (List.mem_cons_of_mem _ h)
theorem tV_5_1255 {w : Cond} (h : w ∈ tS_5_1255) : w ∈ lw_tbl := tV_5_1254 (List.mem_cons_of_mem _ h)
theorem tV_5_1256 {w : Cond} (h : w ∈ tS_5_1256) : w ∈ lw_tbl := tV_5_1255 (List.mem_cons_of_mem _ h)
theorem tV_5_1257 {w : Cond} (h : w ∈ tS_5_1257) : w ∈ lw_tbl := tV_5_1256 (List.mem_cons_of_mem _ h)
theorem tV_5_1258 {w : Cond} (h : w ∈ tS_5_1258) : w ∈ lw_tbl := tV_5_1257 (List.mem_cons_of_mem _ h)
theorem tV_5_1259 {w : Cond} (h : w ∈ tS_5_1259) : w ∈ lw_tbl := tV_5_1258 (List.mem_cons_of_mem _ h)
theorem tV_5_1260 {w : Cond} (h : w ∈ tS_5_1260) : w ∈ lw_tbl := tV_5_1259 (List.mem_cons_of_mem _ h)
theorem tV_5_1261 {w : Cond} (h : w ∈ tS_5_1261) : w ∈ lw_tbl := tV_5_1260 (List.mem_cons_of_mem _ h)
theorem tV_5_1262 {w : Cond} (h : w ∈ tS_5_1262) : w ∈ lw_tbl := tV_5_1261 (List.mem_cons_of_mem _ h)
theorem tV_5_1263 {w : Cond} (h : w ∈ tS_5_1263) : w ∈ lw_tbl := tV_5_1262 (List.mem_cons_of_mem _ h)
theorem tV_5_1264 {w : Cond} (h : w ∈ tS_5_1264) : w ∈ lw_tbl := tV_5_1263 (List.mem_cons_of_mem _ h)
theorem tV_5_1265 {w : Cond} (h : w ∈ tS_5_1265) : w ∈ lw_tbl := tV_5_1264 (List.mem_cons_of_mem _ h)
theorem tV_5_1266 {w : Cond} (h : w ∈ tS_5_1266) : w ∈ lw_tbl := tV_5_1265 (List.mem_cons_of_mem _ h)
theorem tV_5_1267 {w : Cond} (h : w ∈ tS_5_1267) : w ∈ lw_tbl := tV_5_1266 (List.mem_cons_of_mem _ h)
theorem tV_5_1268 {w : Cond} (h : w ∈ tS_5_1268) : w ∈ lw_tbl := tV_5_1267 (List.mem_cons_of_mem _ h)
theorem tV_5_1269 {w : Cond} (h : w ∈ tS_5_1269) : w ∈ lw_tbl := tV_5_1268 (List.mem_cons_of_mem _ h)
theorem tV_5_1270 {w : Cond} (h : w ∈ tS_5_1270) : w ∈ lw_tbl := tV_5_1269 (List.mem_cons_of_mem _ h)
theorem tV_5_1271 {w : Cond} (h : w ∈ tS_5_1271) : w ∈ lw_tbl := tV_5_1270 (List.mem_cons_of_mem _ h)
theorem tV_5_1272 {w : Cond} (h : w ∈ tS_5_1272) : w ∈ lw_tbl := tV_5_1271 (List.mem_cons_of_mem _ h)
theorem tV_5_1273 {w : Cond} (h : w ∈ tS_5_1273) : w ∈ lw_tbl := tV_5_1272 (List.mem_cons_of_mem _ h)
theorem tV_5_1274 {w : Cond} (h : w ∈ tS_5_1274) : w ∈ lw_tbl := tV_5_1273 (List.mem_cons_of_mem _ h)
theorem tV_5_1275 {w : Cond} (h : w ∈ tS_5_1275) : w ∈ lw_tbl := tV_5_1274 (List.mem_cons_of_mem _ h)
theorem tV_5_1276 {w : Cond} (h : w ∈ tS_5_1276) : w ∈ lw_tbl := tV_5_1275 (List.mem_cons_of_mem _ h)
theorem tV_5_1277 {w : Cond} (h : w ∈ tS_5_1277) : w ∈ lw_tbl := tV_5_1276 (List.mem_cons_of_mem _ h)
theorem tV_5_1278 {w : Cond} (h : w ∈ tS_5_1278) : w ∈ lw_tbl := tV_5_1277 (List.mem_cons_of_mem _ h)
theorem tV_5_1279 {w : Cond} (h : w ∈ tS_5_1279) : w ∈ lw_tbl := tV_5_1278 (List.mem_cons_of_mem _ h)
theorem tV_5_1280 {w : Cond} (h : w ∈ tS_5_1280) : w ∈ lw_tbl := tV_5_1279 (List.mem_cons_of_mem _ h)
theorem tV_5_1281 {w : Cond} (h : w ∈ tS_5_1281) : w ∈ lw_tbl := tV_5_1280 (List.mem_cons_of_mem _ h)
theorem tV_5_1282 {w : Cond} (h : w ∈ tS_5_1282) : w ∈ lw_tbl := tV_5_1281 (List.mem_cons_of_mem _ h)
theorem tV_5_1283 {w : Cond} (h : w ∈ tS_5_1283) : w ∈ lw_tbl := tV_5_1282 (List.mem_cons_of_mem _ h)
theorem tV_5_1284 {w : Cond} (h : w ∈ tS_5_1284) : w ∈ lw_tbl := tV_5_1283 (List.mem_cons_of_mem _ h)
theorem tV_5_1285 {w : Cond} (h : w ∈ tS_5_1285) : w ∈ lw_tbl := tV_5_1284 (List.mem_cons_of_mem _ h)
theorem tV_5_1286 {w : Cond} (h : w ∈ tS_5_1286) : w ∈ lw_tbl := tV_5_1285 (List.mem_cons_of_mem _ h)
theorem tV_5_1287 {w : Cond} (h : w ∈ tS_5_1287) : w ∈ lw_tbl := tV_5_1286 (List.mem_cons_of_mem _ h)
theorem tV_5_1288 {w : Cond} (h : w ∈ tS_5_1288) : w ∈ lw_tbl := tV_5_1287 (List.mem_cons_of_mem _ h)
theorem tV_5_1289 {w : Cond} (h : w ∈ tS_5_1289) : w ∈ lw_tbl := tV_5_1288 (List.mem_cons_of_mem _ h)
theorem tV_5_1290 {w : Cond} (h : w ∈ tS_5_1290) : w ∈ lw_tbl := tV_5_1289 (List.mem_cons_of_mem _ h)
theorem tV_5_1291 {w : Cond} (h : w ∈ tS_5_1291) : w ∈ lw_tbl := tV_5_1290 (List.mem_cons_of_mem _ h)
theorem tV_5_1292 {w : Cond} (h : w ∈ tS_5_1292) : w ∈ lw_tbl := tV_5_1291 (List.mem_cons_of_mem _ h)
theorem tV_5_1293 {w : Cond} (h : w ∈ tS_5_1293) : w ∈ lw_tbl := tV_5_1292 (List.mem_cons_of_mem _ h)
theorem tV_5_1294 {w : Cond} (h : w ∈ tS_5_1294) : w ∈ lw_tbl := tV_5_1293 (List.mem_cons_of_mem _ h)
theorem tV_5_1295 {w : Cond} (h : w ∈ tS_5_1295) : w ∈ lw_tbl := tV_5_1294 (List.mem_cons_of_mem _ h)
theorem tV_5_1296 {w : Cond} (h : w ∈ tS_5_1296) : w ∈ lw_tbl := tV_5_1295 (List.mem_cons_of_mem _ h)
theorem tV_5_1297 {w : Cond} (h : w ∈ tS_5_1297) : w ∈ lw_tbl := tV_5_1296 (List.mem_cons_of_mem _ h)
theorem tV_5_1298 {w : Cond} (h : w ∈ tS_5_1298) : w ∈ lw_tbl := tV_5_1297 (List.mem_cons_of_mem _ h)
theorem tV_5_1299 {w : Cond} (h : w ∈ tS_5_1299) : w ∈ lw_tbl := tV_5_1298 (List.mem_cons_of_mem _ h)
theorem tV_5_1300 {w : Cond} (h : w ∈ tS_5_1300) : w ∈ lw_tbl := tV_5_1299 (List.mem_cons_of_mem _ h)
theorem tV_5_1301 {w : Cond} (h : w ∈ tS_5_1301) : w ∈ lw_tbl := tV_5_1300 (List.mem_cons_of_mem _ h)
theorem tV_5_1302 {w : Cond} (h : w ∈ tS_5_1302) : w ∈ lw_tbl := tV_5_1301 (List.mem_cons_of_mem _ h)
theorem tV_5_1303 {w : Cond} (h : w ∈ tS_5_1303) : w ∈ lw_tbl := tV_5_1302 (List.mem_cons_of_mem _ h)
theorem tV_5_1304 {w : Cond} (h : w ∈ tS_5_1304) : w ∈ lw_tbl := tV_5_1303 (List.mem_cons_of_mem _ h)
theorem tV_5_1305 {w : Cond} (h : w ∈ tS_5_1305) : w ∈ lw_tbl := tV_5_1304 (List.mem_cons_of_mem _ h)
theorem tV_5_1306 {w : Cond} (h : w ∈ tS_5_1306) : w ∈ lw_tbl := tV_5_1305 (List.mem_cons_of_mem _ h)
theorem tV_5_1307 {w : Cond} (h : w ∈ tS_5_1307) : w ∈ lw_tbl := tV_5_1306 (List.mem_cons_of_mem _ h)
theorem tV_5_1308 {w : Cond} (h : w ∈ tS_5_1308) : w ∈ lw_tbl := tV_5_1307 (List.mem_cons_of_mem _ h)
theorem tV_5_1309 {w : Cond} (h : w ∈ tS_5_1309) : w ∈ lw_tbl := tV_5_1308 (List.mem_cons_of_mem _ h)
theorem tV_5_1310 {w : Cond} (h : w ∈ tS_5_1310) : w ∈ lw_tbl := tV_5_1309 (List.mem_cons_of_mem _ h)
theorem tV_5_1311 {w : Cond} (h : w ∈ tS_5_1311) : w ∈ lw_tbl := tV_5_1310 (List.mem_cons_of_mem _ h)
theorem tV_5_1312 {w : Cond} (h : w ∈ tS_5_1312) : w ∈ lw_tbl := tV_5_1311 (List.mem_cons_of_mem _ h)
theorem tV_5_1313 {w : Cond} (h : w ∈ tS_5_1313) : w ∈ lw_tbl := tV_5_1312 (List.mem_cons_of_mem _ h)
theorem tV_5_1314 {w : Cond} (h : w ∈ tS_5_1314) : w ∈ lw_tbl := tV_5_1313 (List.mem_cons_of_mem _ h)
theorem tV_5_1315 {w : Cond} (h : w ∈ tS_5_1315) : w ∈ lw_tbl := tV_5_1314 (List.mem_cons_of_mem _ h)
theorem tV_5_1316 {w : Cond} (h : w ∈ tS_5_1316) : w ∈ lw_tbl := tV_5_1315 (List.mem_cons_of_mem _ h)
theorem tV_5_1317 {w : Cond} (h : w ∈ tS_5_1317) : w ∈ lw_tbl := tV_5_1316 (List.mem_cons_of_mem _ h)
theorem tV_5_1318 {w : Cond} (h : w ∈ tS_5_1318) : w ∈ lw_tbl := tV_5_1317 (List.mem_cons_of_mem _ h)
theorem tV_5_1319 {w : Cond} (h : w ∈ tS_5_1319) : w ∈ lw_tbl := tV_5_1318 (List.mem_cons_of_mem _ h)
theorem tV_5_1320 {w : Cond} (h : w ∈ tS_5_1320) : w ∈ lw_tbl := tV_5_1319 (List.mem_cons_of_mem _ h)
theorem tV_5_1321 {w : Cond} (h : w ∈ tS_5_1321) : w ∈ lw_tbl := tV_5_1320 (List.mem_cons_of_mem _ h)
theorem tV_5_1322 {w : Cond} (h : w ∈ tS_5_1322) : w ∈ lw_tbl := tV_5_1321 (List.mem_cons_of_mem _ h)
theorem tV_5_1323 {w : Cond} (h : w ∈ tS_5_1323) : w ∈ lw_tbl := tV_5_1322 (List.mem_cons_of_mem _ h)
theorem tV_5_1324 {w : Cond} (h : w ∈ tS_5_1324) : w ∈ lw_tbl := tV_5_1323 (List.mem_cons_of_mem _ h)
theorem tV_5_1325 {w : Cond} (h : w ∈ tS_5_1325) : w ∈ lw_tbl := tV_5_1324 (List.mem_cons_of_mem _ h)
theorem tV_5_1326 {w : Cond} (h : w ∈ tS_5_1326) : w ∈ lw_tbl := tV_5_1325 (List.mem_cons_of_mem _ h)
theorem tV_5_1327 {w : Cond} (h : w ∈ tS_5_1327) : w ∈ lw_tbl := tV_5_1326 (List.mem_cons_of_mem _ h)
theorem tV_5_1328 {w : Cond} (h : w ∈ tS_5_1328) : w ∈ lw_tbl := tV_5_1327 (List.mem_cons_of_mem _ h)
theorem tV_5_1329 {w : Cond} (h : w ∈ tS_5_1329) : w ∈ lw_tbl := tV_5_1328 (List.mem_cons_of_mem _ h)
theorem tV_5_1330 {w : Cond} (h : w ∈ tS_5_1330) : w ∈ lw_tbl := tV_5_1329 (List.mem_cons_of_mem _ h)
theorem tV_5_1331 {w : Cond} (h : w ∈ tS_5_1331) : w ∈ lw_tbl := tV_5_1330 (List.mem_cons_of_mem _ h)
theorem tV_5_1332 {w : Cond} (h : w ∈ tS_5_1332) : w ∈ lw_tbl := tV_5_1331 (List.mem_cons_of_mem _ h)
theorem tV_5_1333 {w : Cond} (h : w ∈ tS_5_1333) : w ∈ lw_tbl := tV_5_1332 (List.mem_cons_of_mem _ h)
theorem tV_5_1334 {w : Cond} (h : w ∈ tS_5_1334) : w ∈ lw_tbl := tV_5_1333 (List.mem_cons_of_mem _ h)
theorem tV_5_1335 {w : Cond} (h : w ∈ tS_5_1335) : w ∈ lw_tbl := tV_5_1334 (List.mem_cons_of_mem _ h)
theorem tV_5_1336 {w : Cond} (h : w ∈ tS_5_1336) : w ∈ lw_tbl := tV_5_1335 (List.mem_cons_of_mem _ h)
theorem tV_5_1337 {w : Cond} (h : w ∈ tS_5_1337) : w ∈ lw_tbl := tV_5_1336 (List.mem_cons_of_mem _ h)
theorem tV_5_1338 {w : Cond} (h : w ∈ tS_5_1338) : w ∈ lw_tbl := tV_5_1337 (List.mem_cons_of_mem _ h)
theorem tV_5_1339 {w : Cond} (h : w ∈ tS_5_1339) : w ∈ lw_tbl := tV_5_1338 (List.mem_cons_of_mem _ h)
theorem tV_5_1340 {w : Cond} (h : w ∈ tS_5_1340) : w ∈ lw_tbl := tV_5_1339 (List.mem_cons_of_mem _ h)
theorem tV_5_1341 {w : Cond} (h : w ∈ tS_5_1341) : w ∈ lw_tbl := tV_5_1340 (List.mem_cons_of_mem _ h)
theorem tV_5_1342 {w : Cond} (h : w ∈ tS_5_1342) : w ∈ lw_tbl := tV_5_1341 (List.mem_cons_of_mem _ h)
theorem tV_5_1343 {w : Cond} (h : w ∈ tS_5_1343) : w ∈ lw_tbl := tV_5_1342 (List.mem_cons_of_mem _ h)
theorem tV_5_1344 {w : Cond} (h : w ∈ tS_5_1344) : w ∈ lw_tbl := tV_5_1343 (List.mem_cons_of_mem _ h)
theorem tV_5_1345 {w : Cond} (h : w ∈ tS_5_1345) : w ∈ lw_tbl := tV_5_1344 (List.mem_cons_of_mem _ h)
theorem tV_5_1346 {w : Cond} (h : w ∈ tS_5_1346) : w ∈ lw_tbl := tV_5_1345 (List.mem_cons_of_mem _ h)
theorem tV_5_1347 {w : Cond} (h : w ∈ tS_5_1347) : w ∈ lw_tbl := tV_5_1346 (List.mem_cons_of_mem _ h)
theorem tV_5_1348 {w : Cond} (h : w ∈ tS_5_1348) : w ∈ lw_tbl := tV_5_1347 (List.mem_cons_of_mem _ h)
theorem tV_5_1349 {w : Cond} (h : w ∈ tS_5_1349) : w ∈ lw_tbl := tV_5_1348 (List.mem_cons_of_mem _ h)
theorem tV_5_1350 {w : Cond} (h : w ∈ tS_5_1350) : w ∈ lw_tbl := tV_5_1349 (List.mem_cons_of_mem _ h)
theorem mw_0 : Jvm.Cond.selects "Runweaver" ({ cls := "Runweaver", name := "isRowSound", desc := "(LRunweaver$Row;)Z" } : Jvm.MethodName) ({ cls := "Runweaver", name := "isRowSound", desc := "(LRunweaver$Row;)Z" } : Jvm.MethodName) ∈ mGw := mGw_of (List.mem_of_getElem? (i := 0) (by decide +kernel)) (by decide +kernel)
theorem mw_1 : Jvm.Cond.selects "Runweaver$Loom" ({ cls := "Runweaver$Loom", name := "mergeNeighbours", desc := "(LRunweaver$Row;I)I" } : Jvm.MethodName) ({ cls := "Runweaver$Loom", name := "mergeNeighbours", desc := "(LRunweaver$Row;I)I" } : Jvm.MethodName) ∈ mGw := mGw_of (List.mem_of_getElem? (i := 1) (by decide +kernel)) (by decide +kernel)
theorem mw_2 : Jvm.Cond.selects "Runweaver" ({ cls := "Runweaver", name := "isWeaveSound", desc := "(LRunweaver$Row;LRunweaver$Row;)Z" } : Jvm.MethodName) ({ cls := "Runweaver", name := "isWeaveSound", desc := "(LRunweaver$Row;LRunweaver$Row;)Z" } : Jvm.MethodName) ∈ mGw := mGw_of (List.mem_of_getElem? (i := 2) (by decide +kernel)) (by decide +kernel)
theorem mw_3 : Jvm.Cond.selects "Runweaver" ({ cls := "Runweaver", name := "rowOf", desc := "(I)LRunweaver$Row;" } : Jvm.MethodName) ({ cls := "Runweaver", name := "rowOf", desc := "(I)LRunweaver$Row;" } : Jvm.MethodName) ∈ mGw := mGw_of (List.mem_of_getElem? (i := 3) (by decide +kernel)) (by decide +kernel)
theorem mw_4 : Jvm.Cond.selects "java/lang/Throwable" ({ cls := "java/lang/Throwable", name := "fillInStackTrace", desc := "(I)Ljava/lang/Throwable;" } : Jvm.MethodName) ({ cls := "java/lang/Throwable", name := "fillInStackTrace", desc := "(I)Ljava/lang/Throwable;" } : Jvm.MethodName) ∈ mGw := mGw_of (List.mem_of_getElem? (i := 4) (by decide +kernel)) (by decide +kernel)
theorem mw_5 : Jvm.Cond.selects "Runweaver" ({ cls := "Runweaver", name := "itemsInAll", desc := "()I" } : Jvm.MethodName) ({ cls := "Runweaver", name := "itemsInAll", desc := "()I" } : Jvm.MethodName) ∈ mGw := mGw_of (List.mem_of_getElem? (i := 5) (by decide +kernel)) (by decide +kernel)
theorem mw_6 : Jvm.Cond.selects "Runweaver" ({ cls := "Runweaver", name := "sortedRows", desc := "()I" } : Jvm.MethodName) ({ cls := "Runweaver", name := "sortedRows", desc := "()I" } : Jvm.MethodName) ∈ mGw := mGw_of (List.mem_of_getElem? (i := 6) (by decide +kernel)) (by decide +kernel)
theorem mw_7 : Jvm.Cond.selects "Runweaver" ({ cls := "Runweaver", name := "appendDrawn", desc := "(LRunweaver$Row;III)V" } : Jvm.MethodName) ({ cls := "Runweaver", name := "appendDrawn", desc := "(LRunweaver$Row;III)V" } : Jvm.MethodName) ∈ mGw := mGw_of (List.mem_of_getElem? (i := 7) (by decide +kernel)) (by decide +kernel)
theorem mw_8 : Jvm.Cond.selects "Runweaver" ({ cls := "Runweaver", name := "stampOfNew", desc := "(LRunweaver$Row;)I" } : Jvm.MethodName) ({ cls := "Runweaver", name := "stampOfNew", desc := "(LRunweaver$Row;)I" } : Jvm.MethodName) ∈ mGw := mGw_of (List.mem_of_getElem? (i := 8) (by decide +kernel)) (by decide +kernel)
theorem mw_9 : Jvm.Cond.selects "Runweaver" ({ cls := "Runweaver", name := "nextStamp", desc := "()I" } : Jvm.MethodName) ({ cls := "Runweaver", name := "nextStamp", desc := "()I" } : Jvm.MethodName) ∈ mGw := mGw_of (List.mem_of_getElem? (i := 9) (by decide +kernel)) (by decide +kernel)
theorem mw_10 : Jvm.Cond.selects "Runweaver" ({ cls := "Runweaver", name := "appendPattern", desc := "(LRunweaver$Row;IIII)V" } : Jvm.MethodName) ({ cls := "Runweaver", name := "appendPattern", desc := "(LRunweaver$Row;IIII)V" } : Jvm.MethodName) ∈ mGw := mGw_of (List.mem_of_getElem? (i := 10) (by decide +kernel)) (by decide +kernel)
theorem mw_11 : Jvm.Cond.selects "Runweaver" ({ cls := "Runweaver", name := "done", desc := "(I)I" } : Jvm.MethodName) ({ cls := "Runweaver", name := "done", desc := "(I)I" } : Jvm.MethodName) ∈ mGw := mGw_of (List.mem_of_getElem? (i := 11) (by decide +kernel)) (by decide +kernel)
theorem mw_12 : Jvm.Cond.selects "Runweaver" ({ cls := "Runweaver", name := "refused", desc := "()I" } : Jvm.MethodName) ({ cls := "Runweaver", name := "refused", desc := "()I" } : Jvm.MethodName) ∈ mGw := mGw_of (List.mem_of_getElem? (i := 12) (by decide +kernel)) (by decide +kernel)
theorem mw_13 : Jvm.Cond.selects "Runweaver" ({ cls := "Runweaver", name := "bring", desc := "(LRunweaver$Row;LRunweaver$Row;Z)V" } : Jvm.MethodName) ({ cls := "Runweaver", name := "bring", desc := "(LRunweaver$Row;LRunweaver$Row;Z)V" } : Jvm.MethodName) ∈ mGw := mGw_of (List.mem_of_getElem? (i := 13) (by decide +kernel)) (by decide +kernel)
theorem mw_14 : Jvm.Cond.selects "Runweaver" ({ cls := "Runweaver", name := "stampOfComer", desc := "(LRunweaver$Row;IZ)I" } : Jvm.MethodName) ({ cls := "Runweaver", name := "stampOfComer", desc := "(LRunweaver$Row;IZ)I" } : Jvm.MethodName) ∈ mGw := mGw_of (List.mem_of_getElem? (i := 14) (by decide +kernel)) (by decide +kernel)
theorem mw_15 : Jvm.Cond.selects "RunweaverModel" ({ cls := "RunweaverModel", name := "isLet", desc := "(ZZ)Z" } : Jvm.MethodName) ({ cls := "RunweaverModel", name := "isLet", desc := "(ZZ)Z" } : Jvm.MethodName) ∈ mGw := mGw_of (List.mem_of_getElem? (i := 15) (by decide +kernel)) (by decide +kernel)
theorem mw_16 : Jvm.Cond.selects "RunweaverModel" ({ cls := "RunweaverModel", name := "made", desc := "(II)[I" } : Jvm.MethodName) ({ cls := "RunweaverModel", name := "made", desc := "(II)[I" } : Jvm.MethodName) ∈ mGw := mGw_of (List.mem_of_getElem? (i := 16) (by decide +kernel)) (by decide +kernel)
theorem mw_17 : Jvm.Cond.selects "RunweaverModel" ({ cls := "RunweaverModel", name := "did", desc := "(I)I" } : Jvm.MethodName) ({ cls := "RunweaverModel", name := "did", desc := "(I)I" } : Jvm.MethodName) ∈ mGw := mGw_of (List.mem_of_getElem? (i := 17) (by decide +kernel)) (by decide +kernel)
theorem mw_18 : Jvm.Cond.selects "RunweaverModel" ({ cls := "RunweaverModel", name := "refuse", desc := "()I" } : Jvm.MethodName) ({ cls := "RunweaverModel", name := "refuse", desc := "()I" } : Jvm.MethodName) ∈ mGw := mGw_of (List.mem_of_getElem? (i := 18) (by decide +kernel)) (by decide +kernel)
theorem mw_19 : Jvm.Cond.selects "RunweaverModel" ({ cls := "RunweaverModel", name := "isPlace", desc := "(II)Z" } : Jvm.MethodName) ({ cls := "RunweaverModel", name := "isPlace", desc := "(II)Z" } : Jvm.MethodName) ∈ mGw := mGw_of (List.mem_of_getElem? (i := 19) (by decide +kernel)) (by decide +kernel)
theorem mw_20 : Jvm.Cond.selects "RunweaverModel" ({ cls := "RunweaverModel", name := "choose", desc := "(I[I)V" } : Jvm.MethodName) ({ cls := "RunweaverModel", name := "choose", desc := "(I[I)V" } : Jvm.MethodName) ∈ mGw := mGw_of (List.mem_of_getElem? (i := 20) (by decide +kernel)) (by decide +kernel)
theorem mw_21 : Jvm.Cond.selects "RunweaverModel" ({ cls := "RunweaverModel", name := "pairs", desc := "(II)I" } : Jvm.MethodName) ({ cls := "RunweaverModel", name := "pairs", desc := "(II)I" } : Jvm.MethodName) ∈ mGw := mGw_of (List.mem_of_getElem? (i := 21) (by decide +kernel)) (by decide +kernel)
theorem mw_22 : Jvm.Cond.selects "RunweaverModel" ({ cls := "RunweaverModel", name := "change", desc := "(III)V" } : Jvm.MethodName) ({ cls := "RunweaverModel", name := "change", desc := "(III)V" } : Jvm.MethodName) ∈ mGw := mGw_of (List.mem_of_getElem? (i := 22) (by decide +kernel)) (by decide +kernel)
theorem mw_23 : Jvm.Cond.selects "RunweaverModel" ({ cls := "RunweaverModel", name := "ordered", desc := "(I[I)I" } : Jvm.MethodName) ({ cls := "RunweaverModel", name := "ordered", desc := "(I[I)I" } : Jvm.MethodName) ∈ mGw := mGw_of (List.mem_of_getElem? (i := 23) (by decide +kernel)) (by decide +kernel)
theorem mw_24 : Jvm.Cond.selects "RunweaverModel" ({ cls := "RunweaverModel", name := "sorted", desc := "(I)[I" } : Jvm.MethodName) ({ cls := "RunweaverModel", name := "sorted", desc := "(I)[I" } : Jvm.MethodName) ∈ mGw := mGw_of (List.mem_of_getElem? (i := 24) (by decide +kernel)) (by decide +kernel)
theorem mw_25 : Jvm.Cond.selects "RunweaverModel" ({ cls := "RunweaverModel", name := "ranked", desc := "(II)I" } : Jvm.MethodName) ({ cls := "RunweaverModel", name := "ranked", desc := "(II)I" } : Jvm.MethodName) ∈ mGw := mGw_of (List.mem_of_getElem? (i := 25) (by decide +kernel)) (by decide +kernel)
theorem mw_26 : Jvm.Cond.selects "RunweaverModel" ({ cls := "RunweaverModel", name := "coming", desc := "(II)[I" } : Jvm.MethodName) ({ cls := "RunweaverModel", name := "coming", desc := "(II)[I" } : Jvm.MethodName) ∈ mGw := mGw_of (List.mem_of_getElem? (i := 26) (by decide +kernel)) (by decide +kernel)
theorem mw_27 : Jvm.Cond.selects "RunweaverModel" ({ cls := "RunweaverModel", name := "behind", desc := "(II)I" } : Jvm.MethodName) ({ cls := "RunweaverModel", name := "behind", desc := "(II)I" } : Jvm.MethodName) ∈ mGw := mGw_of (List.mem_of_getElem? (i := 27) (by decide +kernel)) (by decide +kernel)
theorem mw_28 : Jvm.Cond.selects "RunweaverModel" ({ cls := "RunweaverModel", name := "often", desc := "(III)I" } : Jvm.MethodName) ({ cls := "RunweaverModel", name := "often", desc := "(III)I" } : Jvm.MethodName) ∈ mGw := mGw_of (List.mem_of_getElem? (i := 28) (by decide +kernel)) (by decide +kernel)
theorem mw_29 : Jvm.Cond.selects "RunweaverModel" ({ cls := "RunweaverModel", name := "isNew", desc := "(II)Z" } : Jvm.MethodName) ({ cls := "RunweaverModel", name := "isNew", desc := "(II)Z" } : Jvm.MethodName) ∈ mGw := mGw_of (List.mem_of_getElem? (i := 29) (by decide +kernel)) (by decide +kernel)
theorem mw_30 : Jvm.Cond.initialized "RunweaverLaw" ∈ mGw := mGw_of (tV_0_0 List.mem_cons_self) (by decide +kernel)
theorem mw_31 : Jvm.Cond.initialized "Runweaver" ∈ mGw := mGw_of (tV_0_1 List.mem_cons_self) (by decide +kernel)
theorem mw_32 : Jvm.Cond.initialized "Runweaver$Row" ∈ mGw := mGw_of (tV_0_2 List.mem_cons_self) (by decide +kernel)
theorem mw_33 : Jvm.Cond.initialized "Runweaver$Loom" ∈ mGw := mGw_of (tV_0_3 List.mem_cons_self) (by decide +kernel)
theorem mw_34 : Jvm.Cond.initialized "RunweaverModel" ∈ mGw := mGw_of (tV_0_4 List.mem_cons_self) (by decide +kernel)
theorem mw_35 : Jvm.Cond.initialized "RunweaverLaw$Out" ∈ mGw := mGw_of (tV_0_5 List.mem_cons_self) (by decide +kernel)
theorem mw_36 : Jvm.Cond.initialized "java/lang/Throwable" ∈ mGw := mGw_of (tV_0_6 List.mem_cons_self) (by decide +kernel)
theorem mw_37 : Jvm.Cond.initialized "java/lang/Exception" ∈ mGw := mGw_of (tV_0_7 List.mem_cons_self) (by decide +kernel)
theorem mw_38 : Jvm.Cond.initialized "java/lang/RuntimeException" ∈ mGw := mGw_of (tV_0_8 List.mem_cons_self) (by decide +kernel)
theorem mw_39 : Jvm.Cond.initialized "java/lang/IndexOutOfBoundsException" ∈ mGw := mGw_of (tV_0_9 List.mem_cons_self) (by decide +kernel)
theorem mw_40 : Jvm.Cond.initialized "java/lang/IllegalArgumentException" ∈ mGw := mGw_of (tV_0_10 List.mem_cons_self) (by decide +kernel)
theorem mw_41 : Jvm.Cond.initialized "java/lang/Math" ∈ mGw := mGw_of (tV_0_11 List.mem_cons_self) (by decide +kernel)
theorem mw_42 : Jvm.Cond.initialized "java/lang/System" ∈ mGw := mGw_of (tV_0_12 List.mem_cons_self) (by decide +kernel)
theorem mw_43 : Jvm.Cond.initialized "java/lang/AbstractStringBuilder" ∈ mGw := mGw_of (tV_0_13 List.mem_cons_self) (by decide +kernel)
theorem mw_44 : Jvm.Cond.initialized "java/lang/StringBuilder" ∈ mGw := mGw_of (tV_0_14 List.mem_cons_self) (by decide +kernel)
theorem mw_45 : Jvm.Cond.initialized "java/lang/String" ∈ mGw := mGw_of (tV_0_15 List.mem_cons_self) (by decide +kernel)
theorem mw_46 : Jvm.Cond.initialized "java/lang/StringUTF16" ∈ mGw := mGw_of (tV_0_16 List.mem_cons_self) (by decide +kernel)
theorem mw_47 : Jvm.Cond.initialized "jdk/internal/util/ArraysSupport" ∈ mGw := mGw_of (tV_0_17 List.mem_cons_self) (by decide +kernel)
theorem mw_48 : Jvm.Cond.initialized "java/util/Arrays" ∈ mGw := mGw_of (tV_0_18 List.mem_cons_self) (by decide +kernel)
theorem mw_49 : Jvm.Cond.initialized "java/lang/StringLatin1" ∈ mGw := mGw_of (tV_0_19 List.mem_cons_self) (by decide +kernel)
theorem mw_50 : Jvm.Cond.initialized "jdk/internal/util/Preconditions" ∈ mGw := mGw_of (tV_0_20 List.mem_cons_self) (by decide +kernel)
theorem mw_51 : Jvm.Cond.initialized "java/lang/Integer" ∈ mGw := mGw_of (tV_0_21 List.mem_cons_self) (by decide +kernel)
theorem mw_52 : Jvm.Cond.classLink "RunweaverLaw" (8 : Nat) "Runweaver" ∈ mGw := mGw_of (tV_0_22 List.mem_cons_self) (by decide +kernel)
theorem mw_53 : Jvm.Cond.instantiable "Runweaver" (6 : Nat) ∈ mGw := mGw_of (tV_0_23 List.mem_cons_self) (by decide +kernel)
theorem mw_54 : Jvm.Cond.methodLink "RunweaverLaw" (161 : Nat) ({ cls := "Runweaver", name := "<init>", desc := "()V" } : Jvm.MethodName) ∈ mGw := mGw_of (tV_0_24 List.mem_cons_self) (by decide +kernel)
theorem mw_55 : Jvm.Cond.instanceMethod ({ cls := "Runweaver", name := "<init>", desc := "()V" } : Jvm.MethodName) ∈ mGw := mGw_of (tV_0_25 List.mem_cons_self) (by decide +kernel)
theorem mw_56 : Jvm.Cond.code ({ cls := "Runweaver", name := "<init>", desc := "()V" } : Jvm.MethodName) prog_1_method_1_code (1 : Nat) (Option.none : Option Jvm.ClassFile.FieldType) ∈ mGw := mGw_of (tV_0_26 List.mem_cons_self) (by decide +kernel)
theorem mw_57 : Jvm.Cond.methodLink "Runweaver" (1 : Nat) ({ cls := "java/lang/Object", name := "<init>", desc := "()V" } : Jvm.MethodName) ∈ mGw := mGw_of (tV_0_27 List.mem_cons_self) (by decide +kernel)
theorem mw_58 : Jvm.Cond.instanceMethod ({ cls := "java/lang/Object", name := "<init>", desc := "()V" } : Jvm.MethodName) ∈ mGw := mGw_of (tV_0_28 List.mem_cons_self) (by decide +kernel)
theorem mw_59 : Jvm.Cond.code ({ cls := "java/lang/Object", name := "<init>", desc := "()V" } : Jvm.MethodName) object_method_1_code (1 : Nat) (Option.none : Option Jvm.ClassFile.FieldType) ∈ mGw := mGw_of (tV_0_29 List.mem_cons_self) (by decide +kernel)
theorem mw_60 : Jvm.Cond.classLink "Runweaver" (9 : Nat) "Runweaver$Row" ∈ mGw := mGw_of (tV_0_30 List.mem_cons_self) (by decide +kernel)
theorem mw_62 : Jvm.Cond.instantiable "Runweaver$Row" (4 : Nat) ∈ mGw := mGw_of (tV_0_32 List.mem_cons_self) (by decide +kernel)
theorem mw_63 : Jvm.Cond.methodLink "Runweaver" (15 : Nat) ({ cls := "Runweaver$Row", name := "<init>", desc := "(IZ)V" } : Jvm.MethodName) ∈ mGw := mGw_of (tV_0_33 List.mem_cons_self) (by decide +kernel)
theorem mw_64 : Jvm.Cond.instanceMethod ({ cls := "Runweaver$Row", name := "<init>", desc := "(IZ)V" } : Jvm.MethodName) ∈ mGw := mGw_of (tV_0_34 List.mem_cons_self) (by decide +kernel)
theorem mw_65 : Jvm.Cond.code ({ cls := "Runweaver$Row", name := "<init>", desc := "(IZ)V" } : Jvm.MethodName) prog_3_method_1_code (3 : Nat) (Option.none : Option Jvm.ClassFile.FieldType) ∈ mGw := mGw_of (tV_0_35 List.mem_cons_self) (by decide +kernel)
theorem mw_66 : Jvm.Cond.methodLink "Runweaver$Row" (3 : Nat) ({ cls := "java/lang/Object", name := "<init>", desc := "()V" } : Jvm.MethodName) ∈ mGw := mGw_of (tV_0_36 List.mem_cons_self) (by decide +kernel)
theorem mw_67 : Jvm.Cond.fieldLink "Runweaver$Row" (9 : Nat) "Runweaver$Row" "keys" "[I" ∈ mGw := mGw_of (tV_0_37 List.mem_cons_self) (by decide +kernel)
theorem mw_68 : Jvm.Cond.fieldLink "Runweaver" (79 : Nat) "Runweaver$Row" "keys" "[I" ∈ mGw := mGw_of (tV_0_38 List.mem_cons_self) (by decide +kernel)
theorem mw_69 : Jvm.Cond.fieldLink "Runweaver$Loom" (52 : Nat) "Runweaver$Row" "keys" "[I" ∈ mGw := mGw_of (tV_0_39 List.mem_cons_self) (by decide +kernel)
theorem mw_70 : Jvm.Cond.fieldLink "Runweaver$Row" (15 : Nat) "Runweaver$Row" "stamps" "[I" ∈ mGw := mGw_of (tV_0_40 List.mem_cons_self) (by decide +kernel)
theorem mw_71 : Jvm.Cond.fieldLink "Runweaver" (83 : Nat) "Runweaver$Row" "stamps" "[I" ∈ mGw := mGw_of (tV_0_41 List.mem_cons_self) (by decide +kernel)
theorem mw_72 : Jvm.Cond.fieldLink "Runweaver$Loom" (56 : Nat) "Runweaver$Row" "stamps" "[I" ∈ mGw := mGw_of (tV_0_42 List.mem_cons_self) (by decide +kernel)
theorem mw_73 : Jvm.Cond.fieldLink "Runweaver$Row" (18 : Nat) "Runweaver$Row" "isOfThings" "Z" ∈ mGw := mGw_of (tV_0_43 List.mem_cons_self) (by decide +kernel)
theorem mw_74 : Jvm.Cond.fieldLink "Runweaver" (123 : Nat) "Runweaver$Row" "isOfThings" "Z" ∈ mGw := mGw_of (tV_0_44 List.mem_cons_self) (by decide +kernel)
theorem mw_75 : Jvm.Cond.fieldLink "Runweaver$Loom" (31 : Nat) "Runweaver$Row" "size" "I" ∈ mGw := mGw_of (tV_0_45 List.mem_cons_self) (by decide +kernel)
theorem mw_76 : Jvm.Cond.fieldLink "Runweaver" (39 : Nat) "Runweaver$Row" "size" "I" ∈ mGw := mGw_of (tV_0_46 List.mem_cons_self) (by decide +kernel)
theorem mw_77 : Jvm.Cond.fieldLink "Runweaver$Row" (22 : Nat) "Runweaver$Row" "size" "I" ∈ mGw := mGw_of (tV_0_47 List.mem_cons_self) (by decide +kernel)
theorem mw_86 : Jvm.Cond.superclass "Runweaver$Row" "java/lang/Object" ∈ mGw := mGw_of (tV_0_56 List.mem_cons_self) (by decide +kernel)
theorem mw_87 : Jvm.Cond.arrayClass Jvm.ClassFile.FieldType.int ∈ mGw := mGw_of (tV_0_57 List.mem_cons_self) (by decide +kernel)
theorem mw_88 : Jvm.Cond.classLink "Runweaver" (18 : Nat) "Runweaver$Loom" ∈ mGw := mGw_of (tV_0_58 List.mem_cons_self) (by decide +kernel)
theorem mw_89 : Jvm.Cond.instantiable "Runweaver$Loom" (4 : Nat) ∈ mGw := mGw_of (tV_0_59 List.mem_cons_self) (by decide +kernel)
theorem mw_90 : Jvm.Cond.methodLink "Runweaver" (20 : Nat) ({ cls := "Runweaver$Loom", name := "<init>", desc := "(I)V" } : Jvm.MethodName) ∈ mGw := mGw_of (tV_0_60 List.mem_cons_self) (by decide +kernel)
theorem mw_91 : Jvm.Cond.instanceMethod ({ cls := "Runweaver$Loom", name := "<init>", desc := "(I)V" } : Jvm.MethodName) ∈ mGw := mGw_of (tV_0_61 List.mem_cons_self) (by decide +kernel)
theorem mw_92 : Jvm.Cond.code ({ cls := "Runweaver$Loom", name := "<init>", desc := "(I)V" } : Jvm.MethodName) prog_2_method_1_code (2 : Nat) (Option.none : Option Jvm.ClassFile.FieldType) ∈ mGw := mGw_of (tV_0_62 List.mem_cons_self) (by decide +kernel)
theorem mw_93 : Jvm.Cond.methodLink "Runweaver$Loom" (1 : Nat) ({ cls := "java/lang/Object", name := "<init>", desc := "()V" } : Jvm.MethodName) ∈ mGw := mGw_of (tV_0_63 List.mem_cons_self) (by decide +kernel)
theorem mw_94 : Jvm.Cond.classLink "Runweaver$Loom" (7 : Nat) "Runweaver$Row" ∈ mGw := mGw_of (tV_0_64 List.mem_cons_self) (by decide +kernel)
theorem mw_95 : Jvm.Cond.methodLink "Runweaver$Loom" (9 : Nat) ({ cls := "Runweaver$Row", name := "<init>", desc := "(IZ)V" } : Jvm.MethodName) ∈ mGw := mGw_of (tV_0_65 List.mem_cons_self) (by decide +kernel)
theorem mw_96 : Jvm.Cond.fieldLink "Runweaver$Loom" (12 : Nat) "Runweaver$Loom" "sorted" "LRunweaver$Row;" ∈ mGw := mGw_of (tV_0_66 List.mem_cons_self) (by decide +kernel)
theorem mw_97 : Jvm.Cond.fieldLink "Runweaver" (113 : Nat) "Runweaver$Loom" "sorted" "LRunweaver$Row;" ∈ mGw := mGw_of (tV_0_67 List.mem_cons_self) (by decide +kernel)
theorem mw_98 : Jvm.Cond.fieldLink "Runweaver$Loom" (18 : Nat) "Runweaver$Loom" "joined" "LRunweaver$Row;" ∈ mGw := mGw_of (tV_0_68 List.mem_cons_self) (by decide +kernel)
theorem mw_99 : Jvm.Cond.fieldLink "Runweaver" (135 : Nat) "Runweaver$Loom" "joined" "LRunweaver$Row;" ∈ mGw := mGw_of (tV_0_69 List.mem_cons_self) (by decide +kernel)
theorem mw_100 : Jvm.Cond.fieldLink "Runweaver$Loom" (21 : Nat) "Runweaver$Loom" "woven" "LRunweaver$Row;" ∈ mGw := mGw_of (tV_0_70 List.mem_cons_self) (by decide +kernel)
theorem mw_101 : Jvm.Cond.fieldLink "Runweaver" (86 : Nat) "Runweaver$Loom" "woven" "LRunweaver$Row;" ∈ mGw := mGw_of (tV_0_71 List.mem_cons_self) (by decide +kernel)
theorem mw_102 : Jvm.Cond.fieldLink "Runweaver$Loom" (24 : Nat) "Runweaver$Loom" "spare" "LRunweaver$Row;" ∈ mGw := mGw_of (tV_0_72 List.mem_cons_self) (by decide +kernel)
theorem mw_111 : Jvm.Cond.superclass "Runweaver$Loom" "java/lang/Object" ∈ mGw := mGw_of (tV_0_81 List.mem_cons_self) (by decide +kernel)
theorem mw_112 : Jvm.Cond.fieldLink "Runweaver" (11 : Nat) "Runweaver" "rows" "[LRunweaver$Row;" ∈ mGw := mGw_of (tV_0_82 List.mem_cons_self) (by decide +kernel)
theorem mw_113 : Jvm.Cond.fieldLink "Runweaver" (23 : Nat) "Runweaver" "loom" "LRunweaver$Loom;" ∈ mGw := mGw_of (tV_0_83 List.mem_cons_self) (by decide +kernel)
theorem mw_114 : Jvm.Cond.fieldLink "Runweaver" (229 : Nat) "Runweaver" "stampsGiven" "I" ∈ mGw := mGw_of (tV_0_84 List.mem_cons_self) (by decide +kernel)
theorem mw_115 : Jvm.Cond.fieldLink "Runweaver" (220 : Nat) "Runweaver" "acts" "I" ∈ mGw := mGw_of (tV_0_85 List.mem_cons_self) (by decide +kernel)
theorem mw_116 : Jvm.Cond.fieldLink "Runweaver" (223 : Nat) "Runweaver" "refusals" "I" ∈ mGw := mGw_of (tV_0_86 List.mem_cons_self) (by decide +kernel)
theorem mw_117 : Jvm.Cond.fieldLink "Runweaver" (226 : Nat) "Runweaver" "knocks" "I" ∈ mGw := mGw_of (tV_0_87 List.mem_cons_self) (by decide +kernel)
theorem mw_130 : Jvm.Cond.superclass "Runweaver" "java/lang/Object" ∈ mGw := mGw_of (tV_0_100 List.mem_cons_self) (by decide +kernel)
theorem mw_131 : Jvm.Cond.methodLink "RunweaverLaw" (307 : Nat) ({ cls := "Runweaver", name := "knock", desc := "()I" } : Jvm.MethodName) ∈ mGw := mGw_of (tV_0_101 List.mem_cons_self) (by decide +kernel)
theorem mw_132 : Jvm.Cond.instanceMethod ({ cls := "Runweaver", name := "knock", desc := "()I" } : Jvm.MethodName) ∈ mGw := mGw_of (tV_0_102 List.mem_cons_self) (by decide +kernel)
theorem mw_133 : Jvm.Cond.selects "Runweaver" ({ cls := "Runweaver", name := "knock", desc := "()I" } : Jvm.MethodName) ({ cls := "Runweaver", name := "knock", desc := "()I" } : Jvm.MethodName) ∈ mGw := mGw_of (tV_0_103 List.mem_cons_self) (by decide +kernel)
theorem mw_134 : Jvm.Cond.code ({ cls := "Runweaver", name := "knock", desc := "()I" } : Jvm.MethodName) prog_1_method_45_code (1 : Nat) (Option.some Jvm.ClassFile.FieldType.int) ∈ mGw := mGw_of (tV_0_104 List.mem_cons_self) (by decide +kernel)
theorem mw_135 : Jvm.Cond.methodLink "RunweaverLaw" (311 : Nat) ({ cls := "Runweaver", name := "isSound", desc := "()Z" } : Jvm.MethodName) ∈ mGw := mGw_of (tV_0_105 List.mem_cons_self) (by decide +kernel)
theorem mw_136 : Jvm.Cond.instanceMethod ({ cls := "Runweaver", name := "isSound", desc := "()Z" } : Jvm.MethodName) ∈ mGw := mGw_of (tV_0_106 List.mem_cons_self) (by decide +kernel)
theorem mw_137 : Jvm.Cond.selects "Runweaver" ({ cls := "Runweaver", name := "isSound", desc := "()Z" } : Jvm.MethodName) ({ cls := "Runweaver", name := "isSound", desc := "()Z" } : Jvm.MethodName) ∈ mGw := mGw_of (tV_0_107 List.mem_cons_self) (by decide +kernel)
theorem mw_138 : Jvm.Cond.code ({ cls := "Runweaver", name := "isSound", desc := "()Z" } : Jvm.MethodName) prog_1_method_46_code (2 : Nat) (Option.some Jvm.ClassFile.FieldType.boolean) ∈ mGw := mGw_of (tV_0_108 List.mem_cons_self) (by decide +kernel)
theorem mw_139 : Jvm.Cond.methodLink "Runweaver" (242 : Nat) ({ cls := "Runweaver", name := "isRowSound", desc := "(LRunweaver$Row;)Z" } : Jvm.MethodName) ∈ mGw := mGw_of (tV_0_109 List.mem_cons_self) (by decide +kernel)
theorem mw_141 : Jvm.Cond.instanceMethod ({ cls := "Runweaver", name := "isRowSound", desc := "(LRunweaver$Row;)Z" } : Jvm.MethodName) ∈ mGw := mGw_of (tV_0_111 List.mem_cons_self) (by decide +kernel)
theorem mw_142 : Jvm.Cond.code ({ cls := "Runweaver", name := "isRowSound", desc := "(LRunweaver$Row;)Z" } : Jvm.MethodName) prog_1_method_65_code (4 : Nat) (Option.some Jvm.ClassFile.FieldType.boolean) ∈ mGw := mGw_of (tV_0_112 List.mem_cons_self) (by decide +kernel)
theorem mw_143 : Jvm.Cond.methodLink "Runweaver" (116 : Nat) ({ cls := "Runweaver$Loom", name := "sortUp", desc := "(LRunweaver$Row;LRunweaver$Row;)I" } : Jvm.MethodName) ∈ mGw := mGw_of (tV_0_113 List.mem_cons_self) (by decide +kernel)
theorem mw_144 : Jvm.Cond.instanceMethod ({ cls := "Runweaver$Loom", name := "sortUp", desc := "(LRunweaver$Row;LRunweaver$Row;)I" } : Jvm.MethodName) ∈ mGw := mGw_of (tV_0_114 List.mem_cons_self) (by decide +kernel)
theorem mw_145 : Jvm.Cond.selects "Runweaver$Loom" ({ cls := "Runweaver$Loom", name := "sortUp", desc := "(LRunweaver$Row;LRunweaver$Row;)I" } : Jvm.MethodName) ({ cls := "Runweaver$Loom", name := "sortUp", desc := "(LRunweaver$Row;LRunweaver$Row;)I" } : Jvm.MethodName) ∈ mGw := mGw_of (tV_0_115 List.mem_cons_self) (by decide +kernel)
theorem mw_146 : Jvm.Cond.code ({ cls := "Runweaver$Loom", name := "sortUp", desc := "(LRunweaver$Row;LRunweaver$Row;)I" } : Jvm.MethodName) prog_2_method_2_code (5 : Nat) (Option.some Jvm.ClassFile.FieldType.int) ∈ mGw := mGw_of (tV_0_116 List.mem_cons_self) (by decide +kernel)
theorem mw_147 : Jvm.Cond.methodLink "Runweaver$Loom" (27 : Nat) ({ cls := "Runweaver$Row", name := "become", desc := "(LRunweaver$Row;)V" } : Jvm.MethodName) ∈ mGw := mGw_of (tV_0_117 List.mem_cons_self) (by decide +kernel)
theorem mw_148 : Jvm.Cond.instanceMethod ({ cls := "Runweaver$Row", name := "become", desc := "(LRunweaver$Row;)V" } : Jvm.MethodName) ∈ mGw := mGw_of (tV_0_118 List.mem_cons_self) (by decide +kernel)
theorem mw_149 : Jvm.Cond.selects "Runweaver$Row" ({ cls := "Runweaver$Row", name := "become", desc := "(LRunweaver$Row;)V" } : Jvm.MethodName) ({ cls := "Runweaver$Row", name := "become", desc := "(LRunweaver$Row;)V" } : Jvm.MethodName) ∈ mGw := mGw_of (tV_0_119 List.mem_cons_self) (by decide +kernel)
theorem mw_150 : Jvm.Cond.code ({ cls := "Runweaver$Row", name := "become", desc := "(LRunweaver$Row;)V" } : Jvm.MethodName) prog_3_method_7_code (3 : Nat) (Option.none : Option Jvm.ClassFile.FieldType) ∈ mGw := mGw_of (tV_0_120 List.mem_cons_self) (by decide +kernel)
theorem mw_151 : Jvm.Cond.methodLink "Runweaver$Row" (30 : Nat) ({ cls := "java/lang/Math", name := "min", desc := "(II)I" } : Jvm.MethodName) ∈ mGw := mGw_of (tV_0_121 List.mem_cons_self) (by decide +kernel)
theorem mw_152 : Jvm.Cond.static ({ cls := "java/lang/Math", name := "min", desc := "(II)I" } : Jvm.MethodName) ∈ mGw := mGw_of (tV_0_122 List.mem_cons_self) (by decide +kernel)
theorem mw_153 : Jvm.Cond.code ({ cls := "java/lang/Math", name := "min", desc := "(II)I" } : Jvm.MethodName) prog_13_method_69_code (2 : Nat) (Option.some Jvm.ClassFile.FieldType.int) ∈ mGw := mGw_of (tV_0_123 List.mem_cons_self) (by decide +kernel)
theorem mw_154 : Jvm.Cond.methodLink "Runweaver$Row" (36 : Nat) ({ cls := "java/lang/System", name := "arraycopy", desc := "(Ljava/lang/Object;ILjava/lang/Object;II)V" } : Jvm.MethodName) ∈ mGw := mGw_of (tV_0_124 List.mem_cons_self) (by decide +kernel)
theorem mw_155 : Jvm.Cond.static ({ cls := "java/lang/System", name := "arraycopy", desc := "(Ljava/lang/Object;ILjava/lang/Object;II)V" } : Jvm.MethodName) ∈ mGw := mGw_of (tV_0_125 List.mem_cons_self) (by decide +kernel)
theorem mw_156 : Jvm.Cond.native ({ cls := "java/lang/System", name := "arraycopy", desc := "(Ljava/lang/Object;ILjava/lang/Object;II)V" } : Jvm.MethodName) ∈ mGw := mGw_of (tV_0_126 List.mem_cons_self) (by decide +kernel)
theorem mw_157 : Jvm.Cond.methodLink "Runweaver$Loom" (35 : Nat) ({ cls := "Runweaver$Loom", name := "mergeNeighbours", desc := "(LRunweaver$Row;I)I" } : Jvm.MethodName) ∈ mGw := mGw_of (tV_0_127 List.mem_cons_self) (by decide +kernel)
theorem mw_159 : Jvm.Cond.instanceMethod ({ cls := "Runweaver$Loom", name := "mergeNeighbours", desc := "(LRunweaver$Row;I)I" } : Jvm.MethodName) ∈ mGw := mGw_of (tV_0_129 List.mem_cons_self) (by decide +kernel)
theorem mw_160 : Jvm.Cond.code ({ cls := "Runweaver$Loom", name := "mergeNeighbours", desc := "(LRunweaver$Row;I)I" } : Jvm.MethodName) prog_2_method_4_code (7 : Nat) (Option.some Jvm.ClassFile.FieldType.int) ∈ mGw := mGw_of (tV_0_130 List.mem_cons_self) (by decide +kernel)
theorem mw_161 : Jvm.Cond.methodLink "Runweaver$Loom" (39 : Nat) ({ cls := "Runweaver$Row", name := "empty", desc := "()V" } : Jvm.MethodName) ∈ mGw := mGw_of (tV_0_131 List.mem_cons_self) (by decide +kernel)
theorem mw_162 : Jvm.Cond.instanceMethod ({ cls := "Runweaver$Row", name := "empty", desc := "()V" } : Jvm.MethodName) ∈ mGw := mGw_of (tV_0_132 List.mem_cons_self) (by decide +kernel)
theorem mw_163 : Jvm.Cond.selects "Runweaver$Row" ({ cls := "Runweaver$Row", name := "empty", desc := "()V" } : Jvm.MethodName) ({ cls := "Runweaver$Row", name := "empty", desc := "()V" } : Jvm.MethodName) ∈ mGw := mGw_of (tV_0_133 List.mem_cons_self) (by decide +kernel)
theorem mw_164 : Jvm.Cond.code ({ cls := "Runweaver$Row", name := "empty", desc := "()V" } : Jvm.MethodName) prog_3_method_4_code (1 : Nat) (Option.none : Option Jvm.ClassFile.FieldType) ∈ mGw := mGw_of (tV_0_134 List.mem_cons_self) (by decide +kernel)
theorem mw_165 : Jvm.Cond.methodLink "Runweaver$Loom" (46 : Nat) ({ cls := "java/lang/Math", name := "min", desc := "(II)I" } : Jvm.MethodName) ∈ mGw := mGw_of (tV_0_135 List.mem_cons_self) (by decide +kernel)
theorem mw_166 : Jvm.Cond.methodLink "Runweaver$Loom" (42 : Nat) ({ cls := "Runweaver$Loom", name := "mergeSpans", desc := "(LRunweaver$Row;IIILRunweaver$Row;)I" } : Jvm.MethodName) ∈ mGw := mGw_of (tV_0_136 List.mem_cons_self) (by decide +kernel)
theorem mw_167 : Jvm.Cond.static ({ cls := "Runweaver$Loom", name := "mergeSpans", desc := "(LRunweaver$Row;IIILRunweaver$Row;)I" } : Jvm.MethodName) ∈ mGw := mGw_of (tV_0_137 List.mem_cons_self) (by decide +kernel)
theorem mw_168 : Jvm.Cond.code ({ cls := "Runweaver$Loom", name := "mergeSpans", desc := "(LRunweaver$Row;IIILRunweaver$Row;)I" } : Jvm.MethodName) prog_2_method_5_code (8 : Nat) (Option.some Jvm.ClassFile.FieldType.int) ∈ mGw := mGw_of (tV_0_138 List.mem_cons_self) (by decide +kernel)
theorem mw_169 : Jvm.Cond.methodLink "Runweaver$Loom" (59 : Nat) ({ cls := "Runweaver$Row", name := "append", desc := "(II)V" } : Jvm.MethodName) ∈ mGw := mGw_of (tV_0_139 List.mem_cons_self) (by decide +kernel)
theorem mw_170 : Jvm.Cond.instanceMethod ({ cls := "Runweaver$Row", name := "append", desc := "(II)V" } : Jvm.MethodName) ∈ mGw := mGw_of (tV_0_140 List.mem_cons_self) (by decide +kernel)
theorem mw_171 : Jvm.Cond.selects "Runweaver$Row" ({ cls := "Runweaver$Row", name := "append", desc := "(II)V" } : Jvm.MethodName) ({ cls := "Runweaver$Row", name := "append", desc := "(II)V" } : Jvm.MethodName) ∈ mGw := mGw_of (tV_0_141 List.mem_cons_self) (by decide +kernel)
theorem mw_172 : Jvm.Cond.code ({ cls := "Runweaver$Row", name := "append", desc := "(II)V" } : Jvm.MethodName) prog_3_method_5_code (3 : Nat) (Option.none : Option Jvm.ClassFile.FieldType) ∈ mGw := mGw_of (tV_0_142 List.mem_cons_self) (by decide +kernel)
theorem mw_173 : Jvm.Cond.methodLink "Runweaver$Loom" (63 : Nat) ({ cls := "Runweaver$Row", name := "appendSpan", desc := "(LRunweaver$Row;II)V" } : Jvm.MethodName) ∈ mGw := mGw_of (tV_0_143 List.mem_cons_self) (by decide +kernel)
theorem mw_174 : Jvm.Cond.instanceMethod ({ cls := "Runweaver$Row", name := "appendSpan", desc := "(LRunweaver$Row;II)V" } : Jvm.MethodName) ∈ mGw := mGw_of (tV_0_144 List.mem_cons_self) (by decide +kernel)
theorem mw_175 : Jvm.Cond.selects "Runweaver$Row" ({ cls := "Runweaver$Row", name := "appendSpan", desc := "(LRunweaver$Row;II)V" } : Jvm.MethodName) ({ cls := "Runweaver$Row", name := "appendSpan", desc := "(LRunweaver$Row;II)V" } : Jvm.MethodName) ∈ mGw := mGw_of (tV_0_145 List.mem_cons_self) (by decide +kernel)
theorem mw_176 : Jvm.Cond.code ({ cls := "Runweaver$Row", name := "appendSpan", desc := "(LRunweaver$Row;II)V" } : Jvm.MethodName) prog_3_method_6_code (5 : Nat) (Option.none : Option Jvm.ClassFile.FieldType) ∈ mGw := mGw_of (tV_0_146 List.mem_cons_self) (by decide +kernel)
theorem mw_177 : Jvm.Cond.methodLink "Runweaver$Row" (26 : Nat) ({ cls := "Runweaver$Row", name := "append", desc := "(II)V" } : Jvm.MethodName) ∈ mGw := mGw_of (tV_0_147 List.mem_cons_self) (by decide +kernel)
theorem mw_178 : Jvm.Cond.methodLink "Runweaver" (175 : Nat) ({ cls := "Runweaver$Row", name := "wrongPairs", desc := "()I" } : Jvm.MethodName) ∈ mGw := mGw_of (tV_0_148 List.mem_cons_self) (by decide +kernel)
theorem mw_179 : Jvm.Cond.instanceMethod ({ cls := "Runweaver$Row", name := "wrongPairs", desc := "()I" } : Jvm.MethodName) ∈ mGw := mGw_of (tV_0_149 List.mem_cons_self) (by decide +kernel)
theorem mw_180 : Jvm.Cond.selects "Runweaver$Row" ({ cls := "Runweaver$Row", name := "wrongPairs", desc := "()I" } : Jvm.MethodName) ({ cls := "Runweaver$Row", name := "wrongPairs", desc := "()I" } : Jvm.MethodName) ∈ mGw := mGw_of (tV_0_150 List.mem_cons_self) (by decide +kernel)
theorem mw_181 : Jvm.Cond.code ({ cls := "Runweaver$Row", name := "wrongPairs", desc := "()I" } : Jvm.MethodName) prog_3_method_18_code (4 : Nat) (Option.some Jvm.ClassFile.FieldType.int) ∈ mGw := mGw_of (tV_0_151 List.mem_cons_self) (by decide +kernel)
theorem mw_182 : Jvm.Cond.methodLink "Runweaver" (131 : Nat) ({ cls := "Runweaver$Row", name := "isRising", desc := "()Z" } : Jvm.MethodName) ∈ mGw := mGw_of (tV_0_152 List.mem_cons_self) (by decide +kernel)
theorem mw_183 : Jvm.Cond.instanceMethod ({ cls := "Runweaver$Row", name := "isRising", desc := "()Z" } : Jvm.MethodName) ∈ mGw := mGw_of (tV_0_153 List.mem_cons_self) (by decide +kernel)
theorem mw_184 : Jvm.Cond.selects "Runweaver$Row" ({ cls := "Runweaver$Row", name := "isRising", desc := "()Z" } : Jvm.MethodName) ({ cls := "Runweaver$Row", name := "isRising", desc := "()Z" } : Jvm.MethodName) ∈ mGw := mGw_of (tV_0_154 List.mem_cons_self) (by decide +kernel)
theorem mw_185 : Jvm.Cond.code ({ cls := "Runweaver$Row", name := "isRising", desc := "()Z" } : Jvm.MethodName) prog_3_method_12_code (2 : Nat) (Option.some Jvm.ClassFile.FieldType.boolean) ∈ mGw := mGw_of (tV_0_155 List.mem_cons_self) (by decide +kernel)
theorem mw_186 : Jvm.Cond.methodLink "Runweaver" (178 : Nat) ({ cls := "Runweaver$Row", name := "rightPairs", desc := "()I" } : Jvm.MethodName) ∈ mGw := mGw_of (tV_0_156 List.mem_cons_self) (by decide +kernel)
theorem mw_187 : Jvm.Cond.instanceMethod ({ cls := "Runweaver$Row", name := "rightPairs", desc := "()I" } : Jvm.MethodName) ∈ mGw := mGw_of (tV_0_157 List.mem_cons_self) (by decide +kernel)
theorem mw_188 : Jvm.Cond.selects "Runweaver$Row" ({ cls := "Runweaver$Row", name := "rightPairs", desc := "()I" } : Jvm.MethodName) ({ cls := "Runweaver$Row", name := "rightPairs", desc := "()I" } : Jvm.MethodName) ∈ mGw := mGw_of (tV_0_158 List.mem_cons_self) (by decide +kernel)
theorem mw_189 : Jvm.Cond.code ({ cls := "Runweaver$Row", name := "rightPairs", desc := "()I" } : Jvm.MethodName) prog_3_method_19_code (4 : Nat) (Option.some Jvm.ClassFile.FieldType.int) ∈ mGw := mGw_of (tV_0_159 List.mem_cons_self) (by decide +kernel)
theorem mw_190 : Jvm.Cond.methodLink "Runweaver" (181 : Nat) ({ cls := "Runweaver$Row", name := "tiedPairsOfSorted", desc := "()I" } : Jvm.MethodName) ∈ mGw := mGw_of (tV_0_160 List.mem_cons_self) (by decide +kernel)
theorem mw_191 : Jvm.Cond.instanceMethod ({ cls := "Runweaver$Row", name := "tiedPairsOfSorted", desc := "()I" } : Jvm.MethodName) ∈ mGw := mGw_of (tV_0_161 List.mem_cons_self) (by decide +kernel)
theorem mw_192 : Jvm.Cond.selects "Runweaver$Row" ({ cls := "Runweaver$Row", name := "tiedPairsOfSorted", desc := "()I" } : Jvm.MethodName) ({ cls := "Runweaver$Row", name := "tiedPairsOfSorted", desc := "()I" } : Jvm.MethodName) ∈ mGw := mGw_of (tV_0_162 List.mem_cons_self) (by decide +kernel)
theorem mw_193 : Jvm.Cond.code ({ cls := "Runweaver$Row", name := "tiedPairsOfSorted", desc := "()I" } : Jvm.MethodName) prog_3_method_30_code (4 : Nat) (Option.some Jvm.ClassFile.FieldType.int) ∈ mGw := mGw_of (tV_0_163 List.mem_cons_self) (by decide +kernel)
theorem mw_194 : Jvm.Cond.methodLink "Runweaver" (308 : Nat) ({ cls := "Runweaver$Row", name := "standsByRanksIn", desc := "(LRunweaver$Row;)Z" } : Jvm.MethodName) ∈ mGw := mGw_of (tV_0_164 List.mem_cons_self) (by decide +kernel)
theorem mw_195 : Jvm.Cond.instanceMethod ({ cls := "Runweaver$Row", name := "standsByRanksIn", desc := "(LRunweaver$Row;)Z" } : Jvm.MethodName) ∈ mGw := mGw_of (tV_0_165 List.mem_cons_self) (by decide +kernel)
theorem mw_196 : Jvm.Cond.selects "Runweaver$Row" ({ cls := "Runweaver$Row", name := "standsByRanksIn", desc := "(LRunweaver$Row;)Z" } : Jvm.MethodName) ({ cls := "Runweaver$Row", name := "standsByRanksIn", desc := "(LRunweaver$Row;)Z" } : Jvm.MethodName) ∈ mGw := mGw_of (tV_0_166 List.mem_cons_self) (by decide +kernel)
theorem mw_197 : Jvm.Cond.code ({ cls := "Runweaver$Row", name := "standsByRanksIn", desc := "(LRunweaver$Row;)Z" } : Jvm.MethodName) prog_3_method_16_code (4 : Nat) (Option.some Jvm.ClassFile.FieldType.boolean) ∈ mGw := mGw_of (tV_0_167 List.mem_cons_self) (by decide +kernel)
theorem mw_198 : Jvm.Cond.methodLink "Runweaver$Row" (42 : Nat) ({ cls := "Runweaver$Row", name := "rankAt", desc := "(I)I" } : Jvm.MethodName) ∈ mGw := mGw_of (tV_0_168 List.mem_cons_self) (by decide +kernel)
theorem mw_199 : Jvm.Cond.instanceMethod ({ cls := "Runweaver$Row", name := "rankAt", desc := "(I)I" } : Jvm.MethodName) ∈ mGw := mGw_of (tV_0_169 List.mem_cons_self) (by decide +kernel)
theorem mw_200 : Jvm.Cond.selects "Runweaver$Row" ({ cls := "Runweaver$Row", name := "rankAt", desc := "(I)I" } : Jvm.MethodName) ({ cls := "Runweaver$Row", name := "rankAt", desc := "(I)I" } : Jvm.MethodName) ∈ mGw := mGw_of (tV_0_170 List.mem_cons_self) (by decide +kernel)
theorem mw_201 : Jvm.Cond.code ({ cls := "Runweaver$Row", name := "rankAt", desc := "(I)I" } : Jvm.MethodName) prog_3_method_15_code (5 : Nat) (Option.some Jvm.ClassFile.FieldType.int) ∈ mGw := mGw_of (tV_0_171 List.mem_cons_self) (by decide +kernel)
theorem mw_202 : Jvm.Cond.methodLink "Runweaver" (246 : Nat) ({ cls := "Runweaver", name := "isWeaveSound", desc := "(LRunweaver$Row;LRunweaver$Row;)Z" } : Jvm.MethodName) ∈ mGw := mGw_of (tV_0_172 List.mem_cons_self) (by decide +kernel)
theorem mw_204 : Jvm.Cond.instanceMethod ({ cls := "Runweaver", name := "isWeaveSound", desc := "(LRunweaver$Row;LRunweaver$Row;)Z" } : Jvm.MethodName) ∈ mGw := mGw_of (tV_0_174 List.mem_cons_self) (by decide +kernel)
theorem mw_205 : Jvm.Cond.code ({ cls := "Runweaver", name := "isWeaveSound", desc := "(LRunweaver$Row;LRunweaver$Row;)Z" } : Jvm.MethodName) prog_1_method_66_code (3 : Nat) (Option.some Jvm.ClassFile.FieldType.boolean) ∈ mGw := mGw_of (tV_0_175 List.mem_cons_self) (by decide +kernel)
theorem mw_206 : Jvm.Cond.methodLink "Runweaver" (61 : Nat) ({ cls := "Runweaver$Row", name := "free", desc := "()I" } : Jvm.MethodName) ∈ mGw := mGw_of (tV_0_176 List.mem_cons_self) (by decide +kernel)
theorem mw_207 : Jvm.Cond.instanceMethod ({ cls := "Runweaver$Row", name := "free", desc := "()I" } : Jvm.MethodName) ∈ mGw := mGw_of (tV_0_177 List.mem_cons_self) (by decide +kernel)
theorem mw_208 : Jvm.Cond.selects "Runweaver$Row" ({ cls := "Runweaver$Row", name := "free", desc := "()I" } : Jvm.MethodName) ({ cls := "Runweaver$Row", name := "free", desc := "()I" } : Jvm.MethodName) ∈ mGw := mGw_of (tV_0_178 List.mem_cons_self) (by decide +kernel)
theorem mw_209 : Jvm.Cond.code ({ cls := "Runweaver$Row", name := "free", desc := "()I" } : Jvm.MethodName) prog_3_method_3_code (1 : Nat) (Option.some Jvm.ClassFile.FieldType.int) ∈ mGw := mGw_of (tV_0_179 List.mem_cons_self) (by decide +kernel)
theorem mw_210 : Jvm.Cond.methodLink "Runweaver" (94 : Nat) ({ cls := "Runweaver$Row", name := "become", desc := "(LRunweaver$Row;)V" } : Jvm.MethodName) ∈ mGw := mGw_of (tV_0_180 List.mem_cons_self) (by decide +kernel)
theorem mw_211 : Jvm.Cond.methodLink "Runweaver" (90 : Nat) ({ cls := "Runweaver$Row", name := "appendSpan", desc := "(LRunweaver$Row;II)V" } : Jvm.MethodName) ∈ mGw := mGw_of (tV_0_181 List.mem_cons_self) (by decide +kernel)
theorem mw_212 : Jvm.Cond.methodLink "Runweaver" (138 : Nat) ({ cls := "Runweaver$Loom", name := "weaveJoined", desc := "(I)V" } : Jvm.MethodName) ∈ mGw := mGw_of (tV_0_182 List.mem_cons_self) (by decide +kernel)
theorem mw_213 : Jvm.Cond.instanceMethod ({ cls := "Runweaver$Loom", name := "weaveJoined", desc := "(I)V" } : Jvm.MethodName) ∈ mGw := mGw_of (tV_0_183 List.mem_cons_self) (by decide +kernel)
theorem mw_214 : Jvm.Cond.selects "Runweaver$Loom" ({ cls := "Runweaver$Loom", name := "weaveJoined", desc := "(I)V" } : Jvm.MethodName) ({ cls := "Runweaver$Loom", name := "weaveJoined", desc := "(I)V" } : Jvm.MethodName) ∈ mGw := mGw_of (tV_0_184 List.mem_cons_self) (by decide +kernel)
theorem mw_215 : Jvm.Cond.code ({ cls := "Runweaver$Loom", name := "weaveJoined", desc := "(I)V" } : Jvm.MethodName) prog_2_method_3_code (2 : Nat) (Option.none : Option Jvm.ClassFile.FieldType) ∈ mGw := mGw_of (tV_0_185 List.mem_cons_self) (by decide +kernel)
theorem mw_216 : Jvm.Cond.methodLink "Runweaver" (120 : Nat) ({ cls := "Runweaver$Row", name := "otherItems", desc := "(LRunweaver$Row;)I" } : Jvm.MethodName) ∈ mGw := mGw_of (tV_0_186 List.mem_cons_self) (by decide +kernel)
theorem mw_217 : Jvm.Cond.instanceMethod ({ cls := "Runweaver$Row", name := "otherItems", desc := "(LRunweaver$Row;)I" } : Jvm.MethodName) ∈ mGw := mGw_of (tV_0_187 List.mem_cons_self) (by decide +kernel)
theorem mw_218 : Jvm.Cond.selects "Runweaver$Row" ({ cls := "Runweaver$Row", name := "otherItems", desc := "(LRunweaver$Row;)I" } : Jvm.MethodName) ({ cls := "Runweaver$Row", name := "otherItems", desc := "(LRunweaver$Row;)I" } : Jvm.MethodName) ∈ mGw := mGw_of (tV_0_188 List.mem_cons_self) (by decide +kernel)
theorem mw_219 : Jvm.Cond.code ({ cls := "Runweaver$Row", name := "otherItems", desc := "(LRunweaver$Row;)I" } : Jvm.MethodName) prog_3_method_11_code (5 : Nat) (Option.some Jvm.ClassFile.FieldType.int) ∈ mGw := mGw_of (tV_0_189 List.mem_cons_self) (by decide +kernel)
theorem mw_220 : Jvm.Cond.methodLink "RunweaverLaw" (316 : Nat) ({ cls := "Runweaver", name := "digest", desc := "()J" } : Jvm.MethodName) ∈ mGw := mGw_of (tV_0_190 List.mem_cons_self) (by decide +kernel)
theorem mw_221 : Jvm.Cond.instanceMethod ({ cls := "Runweaver", name := "digest", desc := "()J" } : Jvm.MethodName) ∈ mGw := mGw_of (tV_0_191 List.mem_cons_self) (by decide +kernel)
theorem mw_222 : Jvm.Cond.selects "Runweaver" ({ cls := "Runweaver", name := "digest", desc := "()J" } : Jvm.MethodName) ({ cls := "Runweaver", name := "digest", desc := "()J" } : Jvm.MethodName) ∈ mGw := mGw_of (tV_0_192 List.mem_cons_self) (by decide +kernel)
theorem mw_223 : Jvm.Cond.code ({ cls := "Runweaver", name := "digest", desc := "()J" } : Jvm.MethodName) prog_1_method_47_code (4 : Nat) (Option.some Jvm.ClassFile.FieldType.long) ∈ mGw := mGw_of (tV_0_193 List.mem_cons_self) (by decide +kernel)
theorem mw_224 : Jvm.Cond.constantLong "Runweaver" (250 : Nat) (8007 : Int64) ∈ mGw := mGw_of (tV_0_194 List.mem_cons_self) (by decide +kernel)
theorem mw_225 : Jvm.Cond.constantLong "Runweaver" (252 : Nat) (31 : Int64) ∈ mGw := mGw_of (tV_0_195 List.mem_cons_self) (by decide +kernel)
theorem mw_226 : Jvm.Cond.methodLink "Runweaver" (254 : Nat) ({ cls := "Runweaver", name := "many", desc := "(I)I" } : Jvm.MethodName) ∈ mGw := mGw_of (tV_0_196 List.mem_cons_self) (by decide +kernel)
theorem mw_227 : Jvm.Cond.instanceMethod ({ cls := "Runweaver", name := "many", desc := "(I)I" } : Jvm.MethodName) ∈ mGw := mGw_of (tV_0_197 List.mem_cons_self) (by decide +kernel)
theorem mw_228 : Jvm.Cond.selects "Runweaver" ({ cls := "Runweaver", name := "many", desc := "(I)I" } : Jvm.MethodName) ({ cls := "Runweaver", name := "many", desc := "(I)I" } : Jvm.MethodName) ∈ mGw := mGw_of (tV_0_198 List.mem_cons_self) (by decide +kernel)
theorem mw_229 : Jvm.Cond.code ({ cls := "Runweaver", name := "many", desc := "(I)I" } : Jvm.MethodName) prog_1_method_16_code (2 : Nat) (Option.some Jvm.ClassFile.FieldType.int) ∈ mGw := mGw_of (tV_0_199 List.mem_cons_self) (by decide +kernel)
theorem mw_230 : Jvm.Cond.methodLink "Runweaver" (27 : Nat) ({ cls := "Runweaver", name := "rowOf", desc := "(I)LRunweaver$Row;" } : Jvm.MethodName) ∈ mGw := mGw_of (tV_0_200 List.mem_cons_self) (by decide +kernel)
theorem mw_232 : Jvm.Cond.instanceMethod ({ cls := "Runweaver", name := "rowOf", desc := "(I)LRunweaver$Row;" } : Jvm.MethodName) ∈ mGw := mGw_of (tV_0_202 List.mem_cons_self) (by decide +kernel)
theorem mw_233 : Jvm.Cond.code ({ cls := "Runweaver", name := "rowOf", desc := "(I)LRunweaver$Row;" } : Jvm.MethodName) prog_1_method_48_code (2 : Nat) (Option.some (Jvm.ClassFile.FieldType.object "Runweaver$Row")) ∈ mGw := mGw_of (tV_0_203 List.mem_cons_self) (by decide +kernel)
theorem mw_234 : Jvm.Cond.classLink "Runweaver" (285 : Nat) "java/lang/IndexOutOfBoundsException" ∈ mGw := mGw_of (tV_0_204 List.mem_cons_self) (by decide +kernel)
theorem mw_235 : Jvm.Cond.instantiable "java/lang/IndexOutOfBoundsException" (6 : Nat) ∈ mGw := mGw_of (tV_0_205 List.mem_cons_self) (by decide +kernel)
theorem mw_236 : Jvm.Cond.castable "java/lang/IndexOutOfBoundsException" "java/lang/IndexOutOfBoundsException" ∈ mNw := List.mem_filter.mpr ⟨tV_0_206 List.mem_cons_self, rfl⟩
theorem mw_243 : Jvm.Cond.selects "java/lang/IndexOutOfBoundsException" ({ cls := "java/lang/Throwable", name := "fillInStackTrace", desc := "(I)Ljava/lang/Throwable;" } : Jvm.MethodName) ({ cls := "java/lang/Throwable", name := "fillInStackTrace", desc := "(I)Ljava/lang/Throwable;" } : Jvm.MethodName) ∈ mGw := mGw_of (tV_0_213 List.mem_cons_self) (by decide +kernel)
theorem mw_244 : Jvm.Cond.selects "java/lang/IndexOutOfBoundsException" ({ cls := "java/lang/Throwable", name := "fillInStackTrace", desc := "()Ljava/lang/Throwable;" } : Jvm.MethodName) ({ cls := "java/lang/Throwable", name := "fillInStackTrace", desc := "()Ljava/lang/Throwable;" } : Jvm.MethodName) ∈ mGw := mGw_of (tV_0_214 List.mem_cons_self) (by decide +kernel)
theorem mw_255 : Jvm.Cond.fieldLink "java/lang/Throwable" (198 : Nat) "java/lang/Throwable" "backtrace" "Ljava/lang/Object;" ∈ mGw := mGw_of (tV_0_225 List.mem_cons_self) (by decide +kernel)
theorem mw_256 : Jvm.Cond.superclass "java/lang/Throwable" "java/lang/Object" ∈ mGw := mGw_of (tV_0_226 List.mem_cons_self) (by decide +kernel)
theorem mw_257 : Jvm.Cond.instanceMethod ({ cls := "java/lang/Throwable", name := "<init>", desc := "()V" } : Jvm.MethodName) ∈ mGw := mGw_of (tV_0_227 List.mem_cons_self) (by decide +kernel)
theorem mw_258 : Jvm.Cond.code ({ cls := "java/lang/Throwable", name := "<init>", desc := "()V" } : Jvm.MethodName) prog_20_method_1_code (1 : Nat) (Option.none : Option Jvm.ClassFile.FieldType) ∈ mGw := mGw_of (tV_0_228 List.mem_cons_self) (by decide +kernel)
theorem mw_259 : Jvm.Cond.methodLink "java/lang/Throwable" (1 : Nat) ({ cls := "java/lang/Object", name := "<init>", desc := "()V" } : Jvm.MethodName) ∈ mGw := mGw_of (tV_0_229 List.mem_cons_self) (by decide +kernel)
theorem mw_260 : Jvm.Cond.fieldLink "java/lang/Throwable" (13 : Nat) "java/lang/Throwable" "UNASSIGNED_STACK" "[Ljava/lang/StackTraceElement;" ∈ mGw := mGw_of (tV_0_230 List.mem_cons_self) (by decide +kernel)
theorem mw_262 : Jvm.Cond.fieldLink "java/lang/Throwable" (20 : Nat) "java/lang/Throwable" "SUPPRESSED_SENTINEL" "Ljava/util/List;" ∈ mGw := mGw_of (tV_0_232 List.mem_cons_self) (by decide +kernel)
theorem mw_264 : Jvm.Cond.methodLink "java/lang/Throwable" (27 : Nat) ({ cls := "java/lang/Throwable", name := "fillInStackTrace", desc := "()Ljava/lang/Throwable;" } : Jvm.MethodName) ∈ mGw := mGw_of (tV_0_234 List.mem_cons_self) (by decide +kernel)
theorem mw_265 : Jvm.Cond.instanceMethod ({ cls := "java/lang/Throwable", name := "fillInStackTrace", desc := "()Ljava/lang/Throwable;" } : Jvm.MethodName) ∈ mGw := mGw_of (tV_0_235 List.mem_cons_self) (by decide +kernel)
theorem mw_266 : Jvm.Cond.sameMethod "java/lang/Throwable" "java/lang/Throwable" "fillInStackTrace" "()Ljava/lang/Throwable;" ∈ mGw := mGw_of (tV_0_236 List.mem_cons_self) (by decide +kernel)
theorem mw_267 : Jvm.Cond.selects "java/lang/IllegalArgumentException" ({ cls := "java/lang/Throwable", name := "fillInStackTrace", desc := "()Ljava/lang/Throwable;" } : Jvm.MethodName) ({ cls := "java/lang/Throwable", name := "fillInStackTrace", desc := "()Ljava/lang/Throwable;" } : Jvm.MethodName) ∈ mGw := mGw_of (tV_0_237 List.mem_cons_self) (by decide +kernel)
theorem mw_269 : Jvm.Cond.methodLink "java/lang/Throwable" (202 : Nat) ({ cls := "java/lang/Throwable", name := "fillInStackTrace", desc := "(I)Ljava/lang/Throwable;" } : Jvm.MethodName) ∈ mGw := mGw_of (tV_0_239 List.mem_cons_self) (by decide +kernel)
theorem mw_271 : Jvm.Cond.instanceMethod ({ cls := "java/lang/Throwable", name := "fillInStackTrace", desc := "(I)Ljava/lang/Throwable;" } : Jvm.MethodName) ∈ mGw := mGw_of (tV_1_241 List.mem_cons_self) (by decide +kernel)
theorem mw_272 : Jvm.Cond.instantiable "java/lang/Throwable" (6 : Nat) ∈ mGw := mGw_of (tV_1_242 List.mem_cons_self) (by decide +kernel)
theorem mw_273 : Jvm.Cond.native ({ cls := "java/lang/Throwable", name := "fillInStackTrace", desc := "(I)Ljava/lang/Throwable;" } : Jvm.MethodName) ∈ mGw := mGw_of (tV_1_243 List.mem_cons_self) (by decide +kernel)
theorem mw_275 : Jvm.Cond.methodLink "Runweaver" (289 : Nat) ({ cls := "java/lang/IndexOutOfBoundsException", name := "<init>", desc := "(Ljava/lang/String;)V" } : Jvm.MethodName) ∈ mGw := mGw_of (tV_1_245 List.mem_cons_self) (by decide +kernel)
theorem mw_276 : Jvm.Cond.instanceMethod ({ cls := "java/lang/IndexOutOfBoundsException", name := "<init>", desc := "(Ljava/lang/String;)V" } : Jvm.MethodName) ∈ mGw := mGw_of (tV_1_246 List.mem_cons_self) (by decide +kernel)
theorem mw_277 : Jvm.Cond.code ({ cls := "java/lang/IndexOutOfBoundsException", name := "<init>", desc := "(Ljava/lang/String;)V" } : Jvm.MethodName) prog_11_method_2_code (2 : Nat) (Option.none : Option Jvm.ClassFile.FieldType) ∈ mGw := mGw_of (tV_1_247 List.mem_cons_self) (by decide +kernel)
theorem mw_278 : Jvm.Cond.methodLink "java/lang/IndexOutOfBoundsException" (7 : Nat) ({ cls := "java/lang/RuntimeException", name := "<init>", desc := "(Ljava/lang/String;)V" } : Jvm.MethodName) ∈ mGw := mGw_of (tV_1_248 List.mem_cons_self) (by decide +kernel)
theorem mw_279 : Jvm.Cond.instanceMethod ({ cls := "java/lang/RuntimeException", name := "<init>", desc := "(Ljava/lang/String;)V" } : Jvm.MethodName) ∈ mGw := mGw_of (tV_1_249 List.mem_cons_self) (by decide +kernel)
theorem mw_280 : Jvm.Cond.code ({ cls := "java/lang/RuntimeException", name := "<init>", desc := "(Ljava/lang/String;)V" } : Jvm.MethodName) prog_14_method_2_code (2 : Nat) (Option.none : Option Jvm.ClassFile.FieldType) ∈ mGw := mGw_of (tV_1_250 List.mem_cons_self) (by decide +kernel)
theorem mw_281 : Jvm.Cond.methodLink "java/lang/RuntimeException" (7 : Nat) ({ cls := "java/lang/Exception", name := "<init>", desc := "(Ljava/lang/String;)V" } : Jvm.MethodName) ∈ mGw := mGw_of (tV_1_251 List.mem_cons_self) (by decide +kernel)
theorem mw_282 : Jvm.Cond.instanceMethod ({ cls := "java/lang/Exception", name := "<init>", desc := "(Ljava/lang/String;)V" } : Jvm.MethodName) ∈ mGw := mGw_of (tV_1_252 List.mem_cons_self) (by decide +kernel)
theorem mw_283 : Jvm.Cond.code ({ cls := "java/lang/Exception", name := "<init>", desc := "(Ljava/lang/String;)V" } : Jvm.MethodName) prog_9_method_2_code (2 : Nat) (Option.none : Option Jvm.ClassFile.FieldType) ∈ mGw := mGw_of (tV_1_253 List.mem_cons_self) (by decide +kernel)
theorem mw_284 : Jvm.Cond.methodLink "java/lang/Exception" (7 : Nat) ({ cls := "java/lang/Throwable", name := "<init>", desc := "(Ljava/lang/String;)V" } : Jvm.MethodName) ∈ mGw := mGw_of (tV_1_254 List.mem_cons_self) (by decide +kernel)
theorem mw_285 : Jvm.Cond.instanceMethod ({ cls := "java/lang/Throwable", name := "<init>", desc := "(Ljava/lang/String;)V" } : Jvm.MethodName) ∈ mGw := mGw_of (tV_1_255 List.mem_cons_self) (by decide +kernel)
theorem mw_286 : Jvm.Cond.code ({ cls := "java/lang/Throwable", name := "<init>", desc := "(Ljava/lang/String;)V" } : Jvm.MethodName) prog_20_method_2_code (2 : Nat) (Option.none : Option Jvm.ClassFile.FieldType) ∈ mGw := mGw_of (tV_1_256 List.mem_cons_self) (by decide +kernel)
theorem mw_287 : Jvm.Cond.fieldLink "java/lang/Throwable" (198 : Nat) "java/lang/Throwable" "backtrace" "Ljava/lang/Object;" ∈ mGw := mGw_of (tV_1_257 List.mem_cons_self) (by decide +kernel)
theorem mw_288 : Jvm.Cond.fieldLink "java/lang/Throwable" (31 : Nat) "java/lang/Throwable" "detailMessage" "Ljava/lang/String;" ∈ mGw := mGw_of (tV_1_258 List.mem_cons_self) (by decide +kernel)
theorem mw_289 : Jvm.Cond.fieldLink "java/lang/Throwable" (7 : Nat) "java/lang/Throwable" "cause" "Ljava/lang/Throwable;" ∈ mGw := mGw_of (tV_1_259 List.mem_cons_self) (by decide +kernel)
theorem mw_290 : Jvm.Cond.fieldLink "java/lang/Throwable" (17 : Nat) "java/lang/Throwable" "stackTrace" "[Ljava/lang/StackTraceElement;" ∈ mGw := mGw_of (tV_1_260 List.mem_cons_self) (by decide +kernel)
theorem mw_291 : Jvm.Cond.fieldLink "java/lang/Throwable" (24 : Nat) "java/lang/Throwable" "suppressedExceptions" "Ljava/util/List;" ∈ mGw := mGw_of (tV_1_261 List.mem_cons_self) (by decide +kernel)
theorem mw_299 : Jvm.Cond.superclass "java/lang/IndexOutOfBoundsException" "java/lang/RuntimeException" ∈ mGw := mGw_of (tV_1_269 List.mem_cons_self) (by decide +kernel)
theorem mw_300 : Jvm.Cond.arrayClass Jvm.ClassFile.FieldType.byte ∈ mGw := mGw_of (tV_1_270 List.mem_cons_self) (by decide +kernel)
theorem mw_301 : Jvm.Cond.methodLink "Runweaver" (257 : Nat) ({ cls := "Runweaver", name := "mark", desc := "(IZ)I" } : Jvm.MethodName) ∈ mGw := mGw_of (tV_1_271 List.mem_cons_self) (by decide +kernel)
theorem mw_302 : Jvm.Cond.instanceMethod ({ cls := "Runweaver", name := "mark", desc := "(IZ)I" } : Jvm.MethodName) ∈ mGw := mGw_of (tV_1_272 List.mem_cons_self) (by decide +kernel)
theorem mw_303 : Jvm.Cond.selects "Runweaver" ({ cls := "Runweaver", name := "mark", desc := "(IZ)I" } : Jvm.MethodName) ({ cls := "Runweaver", name := "mark", desc := "(IZ)I" } : Jvm.MethodName) ∈ mGw := mGw_of (tV_1_273 List.mem_cons_self) (by decide +kernel)
theorem mw_304 : Jvm.Cond.code ({ cls := "Runweaver", name := "mark", desc := "(IZ)I" } : Jvm.MethodName) prog_1_method_43_code (6 : Nat) (Option.some Jvm.ClassFile.FieldType.int) ∈ mGw := mGw_of (tV_1_274 List.mem_cons_self) (by decide +kernel)
theorem mw_305 : Jvm.Cond.methodLink "Runweaver" (261 : Nat) ({ cls := "Runweaver", name := "wrong", desc := "(II)I" } : Jvm.MethodName) ∈ mGw := mGw_of (tV_1_275 List.mem_cons_self) (by decide +kernel)
theorem mw_306 : Jvm.Cond.instanceMethod ({ cls := "Runweaver", name := "wrong", desc := "(II)I" } : Jvm.MethodName) ∈ mGw := mGw_of (tV_1_276 List.mem_cons_self) (by decide +kernel)
theorem mw_307 : Jvm.Cond.selects "Runweaver" ({ cls := "Runweaver", name := "wrong", desc := "(II)I" } : Jvm.MethodName) ({ cls := "Runweaver", name := "wrong", desc := "(II)I" } : Jvm.MethodName) ∈ mGw := mGw_of (tV_1_277 List.mem_cons_self) (by decide +kernel)
theorem mw_308 : Jvm.Cond.code ({ cls := "Runweaver", name := "wrong", desc := "(II)I" } : Jvm.MethodName) prog_1_method_29_code (4 : Nat) (Option.some Jvm.ClassFile.FieldType.int) ∈ mGw := mGw_of (tV_1_278 List.mem_cons_self) (by decide +kernel)
theorem mw_309 : Jvm.Cond.methodLink "Runweaver" (35 : Nat) ({ cls := "Runweaver", name := "demand", desc := "(Z)V" } : Jvm.MethodName) ∈ mGw := mGw_of (tV_1_279 List.mem_cons_self) (by decide +kernel)
theorem mw_310 : Jvm.Cond.static ({ cls := "Runweaver", name := "demand", desc := "(Z)V" } : Jvm.MethodName) ∈ mGw := mGw_of (tV_1_280 List.mem_cons_self) (by decide +kernel)
theorem mw_311 : Jvm.Cond.code ({ cls := "Runweaver", name := "demand", desc := "(Z)V" } : Jvm.MethodName) prog_1_method_49_code (1 : Nat) (Option.none : Option Jvm.ClassFile.FieldType) ∈ mGw := mGw_of (tV_1_281 List.mem_cons_self) (by decide +kernel)
theorem mw_312 : Jvm.Cond.classLink "Runweaver" (235 : Nat) "java/lang/IllegalArgumentException" ∈ mGw := mGw_of (tV_1_282 List.mem_cons_self) (by decide +kernel)
theorem mw_313 : Jvm.Cond.instantiable "java/lang/IllegalArgumentException" (6 : Nat) ∈ mGw := mGw_of (tV_1_283 List.mem_cons_self) (by decide +kernel)
theorem mw_314 : Jvm.Cond.castable "java/lang/IllegalArgumentException" "java/lang/IllegalArgumentException" ∈ mNw := List.mem_filter.mpr ⟨tV_1_284 List.mem_cons_self, rfl⟩
theorem mw_315 : Jvm.Cond.selects "java/lang/IllegalArgumentException" ({ cls := "java/lang/Throwable", name := "fillInStackTrace", desc := "(I)Ljava/lang/Throwable;" } : Jvm.MethodName) ({ cls := "java/lang/Throwable", name := "fillInStackTrace", desc := "(I)Ljava/lang/Throwable;" } : Jvm.MethodName) ∈ mGw := mGw_of (tV_1_285 List.mem_cons_self) (by decide +kernel)
theorem mw_322 : Jvm.Cond.methodLink "Runweaver" (239 : Nat) ({ cls := "java/lang/IllegalArgumentException", name := "<init>", desc := "(Ljava/lang/String;)V" } : Jvm.MethodName) ∈ mGw := mGw_of (tV_1_292 List.mem_cons_self) (by decide +kernel)
theorem mw_323 : Jvm.Cond.instanceMethod ({ cls := "java/lang/IllegalArgumentException", name := "<init>", desc := "(Ljava/lang/String;)V" } : Jvm.MethodName) ∈ mGw := mGw_of (tV_1_293 List.mem_cons_self) (by decide +kernel)
theorem mw_324 : Jvm.Cond.code ({ cls := "java/lang/IllegalArgumentException", name := "<init>", desc := "(Ljava/lang/String;)V" } : Jvm.MethodName) prog_10_method_2_code (2 : Nat) (Option.none : Option Jvm.ClassFile.FieldType) ∈ mGw := mGw_of (tV_1_294 List.mem_cons_self) (by decide +kernel)
theorem mw_325 : Jvm.Cond.methodLink "java/lang/IllegalArgumentException" (7 : Nat) ({ cls := "java/lang/RuntimeException", name := "<init>", desc := "(Ljava/lang/String;)V" } : Jvm.MethodName) ∈ mGw := mGw_of (tV_1_295 List.mem_cons_self) (by decide +kernel)
theorem mw_327 : Jvm.Cond.superclass "java/lang/IllegalArgumentException" "java/lang/RuntimeException" ∈ mGw := mGw_of (tV_1_297 List.mem_cons_self) (by decide +kernel)
theorem mw_328 : Jvm.Cond.methodLink "Runweaver" (264 : Nat) ({ cls := "Runweaver", name := "ties", desc := "(I)I" } : Jvm.MethodName) ∈ mGw := mGw_of (tV_1_298 List.mem_cons_self) (by decide +kernel)
theorem mw_329 : Jvm.Cond.instanceMethod ({ cls := "Runweaver", name := "ties", desc := "(I)I" } : Jvm.MethodName) ∈ mGw := mGw_of (tV_1_299 List.mem_cons_self) (by decide +kernel)
theorem mw_330 : Jvm.Cond.selects "Runweaver" ({ cls := "Runweaver", name := "ties", desc := "(I)I" } : Jvm.MethodName) ({ cls := "Runweaver", name := "ties", desc := "(I)I" } : Jvm.MethodName) ∈ mGw := mGw_of (tV_1_300 List.mem_cons_self) (by decide +kernel)
theorem mw_331 : Jvm.Cond.code ({ cls := "Runweaver", name := "ties", desc := "(I)I" } : Jvm.MethodName) prog_1_method_31_code (2 : Nat) (Option.some Jvm.ClassFile.FieldType.int) ∈ mGw := mGw_of (tV_1_301 List.mem_cons_self) (by decide +kernel)
theorem mw_332 : Jvm.Cond.methodLink "Runweaver" (267 : Nat) ({ cls := "Runweaver", name := "runs", desc := "(I)I" } : Jvm.MethodName) ∈ mGw := mGw_of (tV_1_302 List.mem_cons_self) (by decide +kernel)
theorem mw_333 : Jvm.Cond.instanceMethod ({ cls := "Runweaver", name := "runs", desc := "(I)I" } : Jvm.MethodName) ∈ mGw := mGw_of (tV_1_303 List.mem_cons_self) (by decide +kernel)
theorem mw_334 : Jvm.Cond.selects "Runweaver" ({ cls := "Runweaver", name := "runs", desc := "(I)I" } : Jvm.MethodName) ({ cls := "Runweaver", name := "runs", desc := "(I)I" } : Jvm.MethodName) ∈ mGw := mGw_of (tV_1_304 List.mem_cons_self) (by decide +kernel)
theorem mw_335 : Jvm.Cond.code ({ cls := "Runweaver", name := "runs", desc := "(I)I" } : Jvm.MethodName) prog_1_method_32_code (2 : Nat) (Option.some Jvm.ClassFile.FieldType.int) ∈ mGw := mGw_of (tV_1_305 List.mem_cons_self) (by decide +kernel)
theorem mw_336 : Jvm.Cond.methodLink "Runweaver" (184 : Nat) ({ cls := "Runweaver$Row", name := "runsInAll", desc := "()I" } : Jvm.MethodName) ∈ mGw := mGw_of (tV_1_306 List.mem_cons_self) (by decide +kernel)
theorem mw_337 : Jvm.Cond.instanceMethod ({ cls := "Runweaver$Row", name := "runsInAll", desc := "()I" } : Jvm.MethodName) ∈ mGw := mGw_of (tV_1_307 List.mem_cons_self) (by decide +kernel)
theorem mw_338 : Jvm.Cond.selects "Runweaver$Row" ({ cls := "Runweaver$Row", name := "runsInAll", desc := "()I" } : Jvm.MethodName) ({ cls := "Runweaver$Row", name := "runsInAll", desc := "()I" } : Jvm.MethodName) ∈ mGw := mGw_of (tV_1_308 List.mem_cons_self) (by decide +kernel)
theorem mw_339 : Jvm.Cond.code ({ cls := "Runweaver$Row", name := "runsInAll", desc := "()I" } : Jvm.MethodName) prog_3_method_21_code (3 : Nat) (Option.some Jvm.ClassFile.FieldType.int) ∈ mGw := mGw_of (tV_1_309 List.mem_cons_self) (by decide +kernel)
theorem mw_340 : Jvm.Cond.methodLink "Runweaver" (270 : Nat) ({ cls := "Runweaver", name := "longest", desc := "(I)I" } : Jvm.MethodName) ∈ mGw := mGw_of (tV_1_310 List.mem_cons_self) (by decide +kernel)
theorem mw_341 : Jvm.Cond.instanceMethod ({ cls := "Runweaver", name := "longest", desc := "(I)I" } : Jvm.MethodName) ∈ mGw := mGw_of (tV_1_311 List.mem_cons_self) (by decide +kernel)
theorem mw_342 : Jvm.Cond.selects "Runweaver" ({ cls := "Runweaver", name := "longest", desc := "(I)I" } : Jvm.MethodName) ({ cls := "Runweaver", name := "longest", desc := "(I)I" } : Jvm.MethodName) ∈ mGw := mGw_of (tV_1_312 List.mem_cons_self) (by decide +kernel)
theorem mw_343 : Jvm.Cond.code ({ cls := "Runweaver", name := "longest", desc := "(I)I" } : Jvm.MethodName) prog_1_method_33_code (2 : Nat) (Option.some Jvm.ClassFile.FieldType.int) ∈ mGw := mGw_of (tV_1_313 List.mem_cons_self) (by decide +kernel)
theorem mw_344 : Jvm.Cond.methodLink "Runweaver" (187 : Nat) ({ cls := "Runweaver$Row", name := "longestRun", desc := "()I" } : Jvm.MethodName) ∈ mGw := mGw_of (tV_1_314 List.mem_cons_self) (by decide +kernel)
theorem mw_345 : Jvm.Cond.instanceMethod ({ cls := "Runweaver$Row", name := "longestRun", desc := "()I" } : Jvm.MethodName) ∈ mGw := mGw_of (tV_1_315 List.mem_cons_self) (by decide +kernel)
theorem mw_346 : Jvm.Cond.selects "Runweaver$Row" ({ cls := "Runweaver$Row", name := "longestRun", desc := "()I" } : Jvm.MethodName) ({ cls := "Runweaver$Row", name := "longestRun", desc := "()I" } : Jvm.MethodName) ∈ mGw := mGw_of (tV_1_316 List.mem_cons_self) (by decide +kernel)
theorem mw_347 : Jvm.Cond.code ({ cls := "Runweaver$Row", name := "longestRun", desc := "()I" } : Jvm.MethodName) prog_3_method_22_code (4 : Nat) (Option.some Jvm.ClassFile.FieldType.int) ∈ mGw := mGw_of (tV_1_317 List.mem_cons_self) (by decide +kernel)
theorem mw_348 : Jvm.Cond.methodLink "Runweaver$Row" (46 : Nat) ({ cls := "java/lang/Math", name := "max", desc := "(II)I" } : Jvm.MethodName) ∈ mGw := mGw_of (tV_1_318 List.mem_cons_self) (by decide +kernel)
theorem mw_349 : Jvm.Cond.static ({ cls := "java/lang/Math", name := "max", desc := "(II)I" } : Jvm.MethodName) ∈ mGw := mGw_of (tV_1_319 List.mem_cons_self) (by decide +kernel)
theorem mw_350 : Jvm.Cond.code ({ cls := "java/lang/Math", name := "max", desc := "(II)I" } : Jvm.MethodName) prog_13_method_65_code (2 : Nat) (Option.some Jvm.ClassFile.FieldType.int) ∈ mGw := mGw_of (tV_1_320 List.mem_cons_self) (by decide +kernel)
theorem mw_351 : Jvm.Cond.methodLink "Runweaver" (273 : Nat) ({ cls := "Runweaver", name := "sum", desc := "(I)I" } : Jvm.MethodName) ∈ mGw := mGw_of (tV_1_321 List.mem_cons_self) (by decide +kernel)
theorem mw_352 : Jvm.Cond.instanceMethod ({ cls := "Runweaver", name := "sum", desc := "(I)I" } : Jvm.MethodName) ∈ mGw := mGw_of (tV_1_322 List.mem_cons_self) (by decide +kernel)
theorem mw_353 : Jvm.Cond.selects "Runweaver" ({ cls := "Runweaver", name := "sum", desc := "(I)I" } : Jvm.MethodName) ({ cls := "Runweaver", name := "sum", desc := "(I)I" } : Jvm.MethodName) ∈ mGw := mGw_of (tV_1_323 List.mem_cons_self) (by decide +kernel)
theorem mw_354 : Jvm.Cond.code ({ cls := "Runweaver", name := "sum", desc := "(I)I" } : Jvm.MethodName) prog_1_method_40_code (2 : Nat) (Option.some Jvm.ClassFile.FieldType.int) ∈ mGw := mGw_of (tV_1_324 List.mem_cons_self) (by decide +kernel)
theorem mw_355 : Jvm.Cond.methodLink "Runweaver" (214 : Nat) ({ cls := "Runweaver$Row", name := "keysTogether", desc := "()I" } : Jvm.MethodName) ∈ mGw := mGw_of (tV_1_325 List.mem_cons_self) (by decide +kernel)
theorem mw_356 : Jvm.Cond.instanceMethod ({ cls := "Runweaver$Row", name := "keysTogether", desc := "()I" } : Jvm.MethodName) ∈ mGw := mGw_of (tV_1_326 List.mem_cons_self) (by decide +kernel)
theorem mw_357 : Jvm.Cond.selects "Runweaver$Row" ({ cls := "Runweaver$Row", name := "keysTogether", desc := "()I" } : Jvm.MethodName) ({ cls := "Runweaver$Row", name := "keysTogether", desc := "()I" } : Jvm.MethodName) ∈ mGw := mGw_of (tV_1_327 List.mem_cons_self) (by decide +kernel)
theorem mw_358 : Jvm.Cond.code ({ cls := "Runweaver$Row", name := "keysTogether", desc := "()I" } : Jvm.MethodName) prog_3_method_29_code (3 : Nat) (Option.some Jvm.ClassFile.FieldType.int) ∈ mGw := mGw_of (tV_1_328 List.mem_cons_self) (by decide +kernel)
theorem mw_359 : Jvm.Cond.methodLink "Runweaver" (276 : Nat) ({ cls := "Runweaver", name := "unlike", desc := "(I)I" } : Jvm.MethodName) ∈ mGw := mGw_of (tV_1_329 List.mem_cons_self) (by decide +kernel)
theorem mw_360 : Jvm.Cond.instanceMethod ({ cls := "Runweaver", name := "unlike", desc := "(I)I" } : Jvm.MethodName) ∈ mGw := mGw_of (tV_1_330 List.mem_cons_self) (by decide +kernel)
theorem mw_361 : Jvm.Cond.selects "Runweaver" ({ cls := "Runweaver", name := "unlike", desc := "(I)I" } : Jvm.MethodName) ({ cls := "Runweaver", name := "unlike", desc := "(I)I" } : Jvm.MethodName) ∈ mGw := mGw_of (tV_1_331 List.mem_cons_self) (by decide +kernel)
theorem mw_362 : Jvm.Cond.code ({ cls := "Runweaver", name := "unlike", desc := "(I)I" } : Jvm.MethodName) prog_1_method_38_code (2 : Nat) (Option.some Jvm.ClassFile.FieldType.int) ∈ mGw := mGw_of (tV_1_332 List.mem_cons_self) (by decide +kernel)
theorem mw_363 : Jvm.Cond.methodLink "Runweaver" (208 : Nat) ({ cls := "Runweaver$Row", name := "unlikeKeysOfSorted", desc := "()I" } : Jvm.MethodName) ∈ mGw := mGw_of (tV_1_333 List.mem_cons_self) (by decide +kernel)
theorem mw_364 : Jvm.Cond.instanceMethod ({ cls := "Runweaver$Row", name := "unlikeKeysOfSorted", desc := "()I" } : Jvm.MethodName) ∈ mGw := mGw_of (tV_1_334 List.mem_cons_self) (by decide +kernel)
theorem mw_365 : Jvm.Cond.selects "Runweaver$Row" ({ cls := "Runweaver$Row", name := "unlikeKeysOfSorted", desc := "()I" } : Jvm.MethodName) ({ cls := "Runweaver$Row", name := "unlikeKeysOfSorted", desc := "()I" } : Jvm.MethodName) ∈ mGw := mGw_of (tV_1_335 List.mem_cons_self) (by decide +kernel)
theorem mw_366 : Jvm.Cond.code ({ cls := "Runweaver$Row", name := "unlikeKeysOfSorted", desc := "()I" } : Jvm.MethodName) prog_3_method_31_code (3 : Nat) (Option.some Jvm.ClassFile.FieldType.int) ∈ mGw := mGw_of (tV_1_336 List.mem_cons_self) (by decide +kernel)
theorem mw_367 : Jvm.Cond.methodLink "Runweaver" (279 : Nat) ({ cls := "Runweaver", name := "house", desc := "(I)I" } : Jvm.MethodName) ∈ mGw := mGw_of (tV_1_337 List.mem_cons_self) (by decide +kernel)
theorem mw_368 : Jvm.Cond.instanceMethod ({ cls := "Runweaver", name := "house", desc := "(I)I" } : Jvm.MethodName) ∈ mGw := mGw_of (tV_1_338 List.mem_cons_self) (by decide +kernel)
theorem mw_369 : Jvm.Cond.selects "Runweaver" ({ cls := "Runweaver", name := "house", desc := "(I)I" } : Jvm.MethodName) ({ cls := "Runweaver", name := "house", desc := "(I)I" } : Jvm.MethodName) ∈ mGw := mGw_of (tV_1_339 List.mem_cons_self) (by decide +kernel)
theorem mw_370 : Jvm.Cond.code ({ cls := "Runweaver", name := "house", desc := "(I)I" } : Jvm.MethodName) prog_1_method_44_code (2 : Nat) (Option.some Jvm.ClassFile.FieldType.int) ∈ mGw := mGw_of (tV_1_340 List.mem_cons_self) (by decide +kernel)
theorem mw_371 : Jvm.Cond.methodLink "Runweaver" (217 : Nat) ({ cls := "Runweaver", name := "itemsInAll", desc := "()I" } : Jvm.MethodName) ∈ mGw := mGw_of (tV_1_341 List.mem_cons_self) (by decide +kernel)
theorem mw_373 : Jvm.Cond.instanceMethod ({ cls := "Runweaver", name := "itemsInAll", desc := "()I" } : Jvm.MethodName) ∈ mGw := mGw_of (tV_1_343 List.mem_cons_self) (by decide +kernel)
theorem mw_374 : Jvm.Cond.code ({ cls := "Runweaver", name := "itemsInAll", desc := "()I" } : Jvm.MethodName) prog_1_method_63_code (3 : Nat) (Option.some Jvm.ClassFile.FieldType.int) ∈ mGw := mGw_of (tV_1_344 List.mem_cons_self) (by decide +kernel)
theorem mw_375 : Jvm.Cond.methodLink "Runweaver" (232 : Nat) ({ cls := "Runweaver", name := "sortedRows", desc := "()I" } : Jvm.MethodName) ∈ mGw := mGw_of (tV_1_345 List.mem_cons_self) (by decide +kernel)
theorem mw_377 : Jvm.Cond.instanceMethod ({ cls := "Runweaver", name := "sortedRows", desc := "()I" } : Jvm.MethodName) ∈ mGw := mGw_of (tV_1_347 List.mem_cons_self) (by decide +kernel)
theorem mw_378 : Jvm.Cond.code ({ cls := "Runweaver", name := "sortedRows", desc := "()I" } : Jvm.MethodName) prog_1_method_64_code (3 : Nat) (Option.some Jvm.ClassFile.FieldType.int) ∈ mGw := mGw_of (tV_1_348 List.mem_cons_self) (by decide +kernel)
theorem mw_380 : Jvm.Cond.methodLink "Runweaver" (282 : Nat) ({ cls := "Runweaver", name := "isSound", desc := "()Z" } : Jvm.MethodName) ∈ mGw := mGw_of (tV_1_350 List.mem_cons_self) (by decide +kernel)
theorem mw_381 : Jvm.Cond.classLink "RunweaverLaw" (14 : Nat) "RunweaverLaw$Out" ∈ mGw := mGw_of (tV_1_351 List.mem_cons_self) (by decide +kernel)
theorem mw_382 : Jvm.Cond.instantiable "RunweaverLaw$Out" (2 : Nat) ∈ mGw := mGw_of (tV_1_352 List.mem_cons_self) (by decide +kernel)
theorem mw_383 : Jvm.Cond.methodLinkNest "RunweaverLaw" (165 : Nat) ({ cls := "RunweaverLaw$Out", name := "<init>", desc := "()V" } : Jvm.MethodName) "RunweaverLaw" ∈ mNw := List.mem_filter.mpr ⟨tV_1_353 List.mem_cons_self, rfl⟩
theorem mw_384 : Jvm.Cond.instanceMethod ({ cls := "RunweaverLaw$Out", name := "<init>", desc := "()V" } : Jvm.MethodName) ∈ mGw := mGw_of (tV_1_354 List.mem_cons_self) (by decide +kernel)
theorem mw_385 : Jvm.Cond.code ({ cls := "RunweaverLaw$Out", name := "<init>", desc := "()V" } : Jvm.MethodName) prog_5_method_1_code (1 : Nat) (Option.none : Option Jvm.ClassFile.FieldType) ∈ mGw := mGw_of (tV_1_355 List.mem_cons_self) (by decide +kernel)
theorem mw_386 : Jvm.Cond.methodLink "RunweaverLaw$Out" (1 : Nat) ({ cls := "java/lang/Object", name := "<init>", desc := "()V" } : Jvm.MethodName) ∈ mGw := mGw_of (tV_1_356 List.mem_cons_self) (by decide +kernel)
theorem mw_387 : Jvm.Cond.fieldLinkNest "RunweaverLaw" (13 : Nat) "RunweaverLaw$Out" "n" "J" "RunweaverLaw" ∈ mNw := List.mem_filter.mpr ⟨tV_1_357 List.mem_cons_self, rfl⟩
theorem mw_388 : Jvm.Cond.fieldLinkNest "RunweaverLaw" (96 : Nat) "RunweaverLaw$Out" "s" "Ljava/lang/String;" "RunweaverLaw" ∈ mNw := List.mem_filter.mpr ⟨tV_1_358 List.mem_cons_self, rfl⟩
theorem mw_393 : Jvm.Cond.superclass "RunweaverLaw$Out" "java/lang/Object" ∈ mGw := mGw_of (tV_1_363 List.mem_cons_self) (by decide +kernel)
theorem mw_394 : Jvm.Cond.methodLink "RunweaverLaw" (166 : Nat) ({ cls := "RunweaverLaw", name := "fill", desc := "(LRunweaver;IIIIILRunweaverLaw$Out;)I" } : Jvm.MethodName) ∈ mGw := mGw_of (tV_1_364 List.mem_cons_self) (by decide +kernel)
theorem mw_395 : Jvm.Cond.static ({ cls := "RunweaverLaw", name := "fill", desc := "(LRunweaver;IIIIILRunweaverLaw$Out;)I" } : Jvm.MethodName) ∈ mGw := mGw_of (tV_1_365 List.mem_cons_self) (by decide +kernel)
theorem mw_396 : Jvm.Cond.codeWith ({ cls := "RunweaverLaw", name := "fill", desc := "(LRunweaver;IIIIILRunweaverLaw$Out;)I" } : Jvm.MethodName) method_2_code (8 : Nat) (Option.some Jvm.ClassFile.FieldType.int) [((0 : Nat), (17 : Nat), (20 : Nat), (19 : Nat)), ((0 : Nat), (17 : Nat), (24 : Nat), (21 : Nat))] ∈ mGw := mGw_of (tV_1_366 List.mem_cons_self) (by decide +kernel)
theorem mw_397 : Jvm.Cond.classLink "RunweaverLaw" (19 : Nat) "java/lang/IndexOutOfBoundsException" ∈ mGw := mGw_of (tV_1_367 List.mem_cons_self) (by decide +kernel)
theorem mw_398 : Jvm.Cond.classLink "RunweaverLaw" (21 : Nat) "java/lang/IllegalArgumentException" ∈ mGw := mGw_of (tV_1_368 List.mem_cons_self) (by decide +kernel)
theorem mw_399 : Jvm.Cond.methodLink "RunweaverLaw" (7 : Nat) ({ cls := "Runweaver", name := "fill", desc := "(IIIII)I" } : Jvm.MethodName) ∈ mGw := mGw_of (tV_1_369 List.mem_cons_self) (by decide +kernel)
theorem mw_400 : Jvm.Cond.instanceMethod ({ cls := "Runweaver", name := "fill", desc := "(IIIII)I" } : Jvm.MethodName) ∈ mGw := mGw_of (tV_1_370 List.mem_cons_self) (by decide +kernel)
theorem mw_401 : Jvm.Cond.selects "Runweaver" ({ cls := "Runweaver", name := "fill", desc := "(IIIII)I" } : Jvm.MethodName) ({ cls := "Runweaver", name := "fill", desc := "(IIIII)I" } : Jvm.MethodName) ∈ mGw := mGw_of (tV_1_371 List.mem_cons_self) (by decide +kernel)
theorem mw_402 : Jvm.Cond.code ({ cls := "Runweaver", name := "fill", desc := "(IIIII)I" } : Jvm.MethodName) prog_1_method_2_code (8 : Nat) (Option.some Jvm.ClassFile.FieldType.int) ∈ mGw := mGw_of (tV_1_372 List.mem_cons_self) (by decide +kernel)
theorem mw_403 : Jvm.Cond.methodLink "Runweaver" (31 : Nat) ({ cls := "Runweaver$Row", name := "room", desc := "()I" } : Jvm.MethodName) ∈ mGw := mGw_of (tV_1_373 List.mem_cons_self) (by decide +kernel)
theorem mw_404 : Jvm.Cond.instanceMethod ({ cls := "Runweaver$Row", name := "room", desc := "()I" } : Jvm.MethodName) ∈ mGw := mGw_of (tV_1_374 List.mem_cons_self) (by decide +kernel)
theorem mw_405 : Jvm.Cond.selects "Runweaver$Row" ({ cls := "Runweaver$Row", name := "room", desc := "()I" } : Jvm.MethodName) ({ cls := "Runweaver$Row", name := "room", desc := "()I" } : Jvm.MethodName) ∈ mGw := mGw_of (tV_1_375 List.mem_cons_self) (by decide +kernel)
theorem mw_406 : Jvm.Cond.code ({ cls := "Runweaver$Row", name := "room", desc := "()I" } : Jvm.MethodName) prog_3_method_2_code (1 : Nat) (Option.some Jvm.ClassFile.FieldType.int) ∈ mGw := mGw_of (tV_1_376 List.mem_cons_self) (by decide +kernel)
theorem mw_407 : Jvm.Cond.methodLink "Runweaver" (43 : Nat) ({ cls := "Runweaver$Row", name := "empty", desc := "()V" } : Jvm.MethodName) ∈ mGw := mGw_of (tV_1_377 List.mem_cons_self) (by decide +kernel)
theorem mw_408 : Jvm.Cond.methodLink "Runweaver" (46 : Nat) ({ cls := "Runweaver", name := "appendDrawn", desc := "(LRunweaver$Row;III)V" } : Jvm.MethodName) ∈ mGw := mGw_of (tV_1_378 List.mem_cons_self) (by decide +kernel)
theorem mw_410 : Jvm.Cond.instanceMethod ({ cls := "Runweaver", name := "appendDrawn", desc := "(LRunweaver$Row;III)V" } : Jvm.MethodName) ∈ mGw := mGw_of (tV_1_380 List.mem_cons_self) (by decide +kernel)
theorem mw_411 : Jvm.Cond.code ({ cls := "Runweaver", name := "appendDrawn", desc := "(LRunweaver$Row;III)V" } : Jvm.MethodName) prog_1_method_59_code (7 : Nat) (Option.none : Option Jvm.ClassFile.FieldType) ∈ mGw := mGw_of (tV_1_381 List.mem_cons_self) (by decide +kernel)
theorem mw_412 : Jvm.Cond.constant "Runweaver" (303 : Nat) (65536 : Int32) ∈ mGw := mGw_of (tV_1_382 List.mem_cons_self) (by decide +kernel)
theorem mw_413 : Jvm.Cond.methodLink "Runweaver" (67 : Nat) ({ cls := "Runweaver", name := "stampOfNew", desc := "(LRunweaver$Row;)I" } : Jvm.MethodName) ∈ mGw := mGw_of (tV_1_383 List.mem_cons_self) (by decide +kernel)
theorem mw_415 : Jvm.Cond.instanceMethod ({ cls := "Runweaver", name := "stampOfNew", desc := "(LRunweaver$Row;)I" } : Jvm.MethodName) ∈ mGw := mGw_of (tV_1_385 List.mem_cons_self) (by decide +kernel)
theorem mw_416 : Jvm.Cond.code ({ cls := "Runweaver", name := "stampOfNew", desc := "(LRunweaver$Row;)I" } : Jvm.MethodName) prog_1_method_57_code (2 : Nat) (Option.some Jvm.ClassFile.FieldType.int) ∈ mGw := mGw_of (tV_1_386 List.mem_cons_self) (by decide +kernel)
theorem mw_417 : Jvm.Cond.methodLink "Runweaver" (296 : Nat) ({ cls := "Runweaver", name := "nextStamp", desc := "()I" } : Jvm.MethodName) ∈ mGw := mGw_of (tV_1_387 List.mem_cons_self) (by decide +kernel)
theorem mw_419 : Jvm.Cond.instanceMethod ({ cls := "Runweaver", name := "nextStamp", desc := "()I" } : Jvm.MethodName) ∈ mGw := mGw_of (tV_1_389 List.mem_cons_self) (by decide +kernel)
theorem mw_420 : Jvm.Cond.code ({ cls := "Runweaver", name := "nextStamp", desc := "()I" } : Jvm.MethodName) prog_1_method_56_code (2 : Nat) (Option.some Jvm.ClassFile.FieldType.int) ∈ mGw := mGw_of (tV_1_390 List.mem_cons_self) (by decide +kernel)
theorem mw_421 : Jvm.Cond.methodLink "Runweaver" (71 : Nat) ({ cls := "Runweaver$Row", name := "append", desc := "(II)V" } : Jvm.MethodName) ∈ mGw := mGw_of (tV_1_391 List.mem_cons_self) (by decide +kernel)
theorem mw_422 : Jvm.Cond.methodLink "Runweaver" (50 : Nat) ({ cls := "Runweaver", name := "appendPattern", desc := "(LRunweaver$Row;IIII)V" } : Jvm.MethodName) ∈ mGw := mGw_of (tV_1_392 List.mem_cons_self) (by decide +kernel)
theorem mw_424 : Jvm.Cond.instanceMethod ({ cls := "Runweaver", name := "appendPattern", desc := "(LRunweaver$Row;IIII)V" } : Jvm.MethodName) ∈ mGw := mGw_of (tV_1_394 List.mem_cons_self) (by decide +kernel)
theorem mw_425 : Jvm.Cond.code ({ cls := "Runweaver", name := "appendPattern", desc := "(LRunweaver$Row;IIII)V" } : Jvm.MethodName) prog_1_method_58_code (7 : Nat) (Option.none : Option Jvm.ClassFile.FieldType) ∈ mGw := mGw_of (tV_1_395 List.mem_cons_self) (by decide +kernel)
theorem mw_426 : Jvm.Cond.methodLink "Runweaver" (299 : Nat) ({ cls := "Runweaver", name := "patternKey", desc := "(IIIII)I" } : Jvm.MethodName) ∈ mGw := mGw_of (tV_1_396 List.mem_cons_self) (by decide +kernel)
theorem mw_427 : Jvm.Cond.static ({ cls := "Runweaver", name := "patternKey", desc := "(IIIII)I" } : Jvm.MethodName) ∈ mGw := mGw_of (tV_1_397 List.mem_cons_self) (by decide +kernel)
theorem mw_428 : Jvm.Cond.code ({ cls := "Runweaver", name := "patternKey", desc := "(IIIII)I" } : Jvm.MethodName) prog_1_method_60_code (5 : Nat) (Option.some Jvm.ClassFile.FieldType.int) ∈ mGw := mGw_of (tV_1_398 List.mem_cons_self) (by decide +kernel)
theorem mw_429 : Jvm.Cond.methodLink "Runweaver" (150 : Nat) ({ cls := "java/lang/Math", name := "min", desc := "(II)I" } : Jvm.MethodName) ∈ mGw := mGw_of (tV_1_399 List.mem_cons_self) (by decide +kernel)
theorem mw_430 : Jvm.Cond.methodLink "Runweaver" (54 : Nat) ({ cls := "Runweaver", name := "done", desc := "(I)I" } : Jvm.MethodName) ∈ mGw := mGw_of (tV_1_400 List.mem_cons_self) (by decide +kernel)
theorem mw_432 : Jvm.Cond.instanceMethod ({ cls := "Runweaver", name := "done", desc := "(I)I" } : Jvm.MethodName) ∈ mGw := mGw_of (tV_1_402 List.mem_cons_self) (by decide +kernel)
theorem mw_433 : Jvm.Cond.code ({ cls := "Runweaver", name := "done", desc := "(I)I" } : Jvm.MethodName) prog_1_method_54_code (2 : Nat) (Option.some Jvm.ClassFile.FieldType.int) ∈ mGw := mGw_of (tV_1_403 List.mem_cons_self) (by decide +kernel)
theorem mw_434 : Jvm.Cond.methodLink "RunweaverLaw" (172 : Nat) ({ cls := "RunweaverLaw", name := "add", desc := "(LRunweaver;IILRunweaverLaw$Out;)I" } : Jvm.MethodName) ∈ mGw := mGw_of (tV_1_404 List.mem_cons_self) (by decide +kernel)
theorem mw_435 : Jvm.Cond.static ({ cls := "RunweaverLaw", name := "add", desc := "(LRunweaver;IILRunweaverLaw$Out;)I" } : Jvm.MethodName) ∈ mGw := mGw_of (tV_1_405 List.mem_cons_self) (by decide +kernel)
theorem mw_436 : Jvm.Cond.codeWith ({ cls := "RunweaverLaw", name := "add", desc := "(LRunweaver;IILRunweaverLaw$Out;)I" } : Jvm.MethodName) method_3_code (5 : Nat) (Option.some Jvm.ClassFile.FieldType.int) [((0 : Nat), (11 : Nat), (14 : Nat), (19 : Nat)), ((0 : Nat), (11 : Nat), (18 : Nat), (21 : Nat))] ∈ mGw := mGw_of (tV_1_406 List.mem_cons_self) (by decide +kernel)
theorem mw_437 : Jvm.Cond.methodLink "RunweaverLaw" (23 : Nat) ({ cls := "Runweaver", name := "add", desc := "(II)I" } : Jvm.MethodName) ∈ mGw := mGw_of (tV_1_407 List.mem_cons_self) (by decide +kernel)
theorem mw_438 : Jvm.Cond.instanceMethod ({ cls := "Runweaver", name := "add", desc := "(II)I" } : Jvm.MethodName) ∈ mGw := mGw_of (tV_1_408 List.mem_cons_self) (by decide +kernel)
theorem mw_439 : Jvm.Cond.selects "Runweaver" ({ cls := "Runweaver", name := "add", desc := "(II)I" } : Jvm.MethodName) ({ cls := "Runweaver", name := "add", desc := "(II)I" } : Jvm.MethodName) ∈ mGw := mGw_of (tV_1_409 List.mem_cons_self) (by decide +kernel)
theorem mw_440 : Jvm.Cond.code ({ cls := "Runweaver", name := "add", desc := "(II)I" } : Jvm.MethodName) prog_1_method_3_code (4 : Nat) (Option.some Jvm.ClassFile.FieldType.int) ∈ mGw := mGw_of (tV_1_410 List.mem_cons_self) (by decide +kernel)
theorem mw_441 : Jvm.Cond.methodLink "Runweaver" (58 : Nat) ({ cls := "Runweaver", name := "demandKey", desc := "(I)V" } : Jvm.MethodName) ∈ mGw := mGw_of (tV_1_411 List.mem_cons_self) (by decide +kernel)
theorem mw_442 : Jvm.Cond.static ({ cls := "Runweaver", name := "demandKey", desc := "(I)V" } : Jvm.MethodName) ∈ mGw := mGw_of (tV_1_412 List.mem_cons_self) (by decide +kernel)
theorem mw_443 : Jvm.Cond.code ({ cls := "Runweaver", name := "demandKey", desc := "(I)V" } : Jvm.MethodName) prog_1_method_50_code (1 : Nat) (Option.none : Option Jvm.ClassFile.FieldType) ∈ mGw := mGw_of (tV_1_413 List.mem_cons_self) (by decide +kernel)
theorem mw_444 : Jvm.Cond.constant "Runweaver" (292 : Nat) (-99999 : Int32) ∈ mGw := mGw_of (tV_1_414 List.mem_cons_self) (by decide +kernel)
theorem mw_445 : Jvm.Cond.constant "Runweaver" (293 : Nat) (99999 : Int32) ∈ mGw := mGw_of (tV_1_415 List.mem_cons_self) (by decide +kernel)
theorem mw_446 : Jvm.Cond.methodLink "Runweaver" (64 : Nat) ({ cls := "Runweaver", name := "refused", desc := "()I" } : Jvm.MethodName) ∈ mGw := mGw_of (tV_1_416 List.mem_cons_self) (by decide +kernel)
theorem mw_448 : Jvm.Cond.instanceMethod ({ cls := "Runweaver", name := "refused", desc := "()I" } : Jvm.MethodName) ∈ mGw := mGw_of (tV_1_418 List.mem_cons_self) (by decide +kernel)
theorem mw_449 : Jvm.Cond.code ({ cls := "Runweaver", name := "refused", desc := "()I" } : Jvm.MethodName) prog_1_method_55_code (1 : Nat) (Option.some Jvm.ClassFile.FieldType.int) ∈ mGw := mGw_of (tV_1_419 List.mem_cons_self) (by decide +kernel)
theorem mw_450 : Jvm.Cond.methodLink "RunweaverLaw" (176 : Nat) ({ cls := "RunweaverLaw", name := "put", desc := "(LRunweaver;IIILRunweaverLaw$Out;)I" } : Jvm.MethodName) ∈ mGw := mGw_of (tV_1_420 List.mem_cons_self) (by decide +kernel)
theorem mw_451 : Jvm.Cond.static ({ cls := "RunweaverLaw", name := "put", desc := "(LRunweaver;IIILRunweaverLaw$Out;)I" } : Jvm.MethodName) ∈ mGw := mGw_of (tV_1_421 List.mem_cons_self) (by decide +kernel)
theorem mw_452 : Jvm.Cond.codeWith ({ cls := "RunweaverLaw", name := "put", desc := "(LRunweaver;IIILRunweaverLaw$Out;)I" } : Jvm.MethodName) method_4_code (6 : Nat) (Option.some Jvm.ClassFile.FieldType.int) [((0 : Nat), (13 : Nat), (16 : Nat), (19 : Nat)), ((0 : Nat), (13 : Nat), (20 : Nat), (21 : Nat))] ∈ mGw := mGw_of (tV_1_422 List.mem_cons_self) (by decide +kernel)
theorem mw_453 : Jvm.Cond.methodLink "RunweaverLaw" (27 : Nat) ({ cls := "Runweaver", name := "put", desc := "(III)I" } : Jvm.MethodName) ∈ mGw := mGw_of (tV_1_423 List.mem_cons_self) (by decide +kernel)
theorem mw_454 : Jvm.Cond.instanceMethod ({ cls := "Runweaver", name := "put", desc := "(III)I" } : Jvm.MethodName) ∈ mGw := mGw_of (tV_1_424 List.mem_cons_self) (by decide +kernel)
theorem mw_455 : Jvm.Cond.selects "Runweaver" ({ cls := "Runweaver", name := "put", desc := "(III)I" } : Jvm.MethodName) ({ cls := "Runweaver", name := "put", desc := "(III)I" } : Jvm.MethodName) ∈ mGw := mGw_of (tV_1_425 List.mem_cons_self) (by decide +kernel)
theorem mw_456 : Jvm.Cond.code ({ cls := "Runweaver", name := "put", desc := "(III)I" } : Jvm.MethodName) prog_1_method_4_code (6 : Nat) (Option.some Jvm.ClassFile.FieldType.int) ∈ mGw := mGw_of (tV_1_426 List.mem_cons_self) (by decide +kernel)
theorem mw_457 : Jvm.Cond.methodLink "Runweaver" (75 : Nat) ({ cls := "Runweaver", name := "demandPlace", desc := "(LRunweaver$Row;I)V" } : Jvm.MethodName) ∈ mGw := mGw_of (tV_1_427 List.mem_cons_self) (by decide +kernel)
theorem mw_458 : Jvm.Cond.static ({ cls := "Runweaver", name := "demandPlace", desc := "(LRunweaver$Row;I)V" } : Jvm.MethodName) ∈ mGw := mGw_of (tV_1_428 List.mem_cons_self) (by decide +kernel)
theorem mw_459 : Jvm.Cond.code ({ cls := "Runweaver", name := "demandPlace", desc := "(LRunweaver$Row;I)V" } : Jvm.MethodName) prog_1_method_52_code (2 : Nat) (Option.none : Option Jvm.ClassFile.FieldType) ∈ mGw := mGw_of (tV_1_429 List.mem_cons_self) (by decide +kernel)
theorem mw_460 : Jvm.Cond.methodLink "Runweaver" (110 : Nat) ({ cls := "Runweaver", name := "demandWithin", desc := "(Z)V" } : Jvm.MethodName) ∈ mGw := mGw_of (tV_1_430 List.mem_cons_self) (by decide +kernel)
theorem mw_461 : Jvm.Cond.static ({ cls := "Runweaver", name := "demandWithin", desc := "(Z)V" } : Jvm.MethodName) ∈ mGw := mGw_of (tV_1_431 List.mem_cons_self) (by decide +kernel)
theorem mw_462 : Jvm.Cond.code ({ cls := "Runweaver", name := "demandWithin", desc := "(Z)V" } : Jvm.MethodName) prog_1_method_51_code (1 : Nat) (Option.none : Option Jvm.ClassFile.FieldType) ∈ mGw := mGw_of (tV_1_432 List.mem_cons_self) (by decide +kernel)
theorem mw_464 : Jvm.Cond.methodLink "RunweaverLaw" (180 : Nat) ({ cls := "RunweaverLaw", name := "drop", desc := "(LRunweaver;IILRunweaverLaw$Out;)I" } : Jvm.MethodName) ∈ mGw := mGw_of (tV_1_434 List.mem_cons_self) (by decide +kernel)
theorem mw_465 : Jvm.Cond.static ({ cls := "RunweaverLaw", name := "drop", desc := "(LRunweaver;IILRunweaverLaw$Out;)I" } : Jvm.MethodName) ∈ mGw := mGw_of (tV_1_435 List.mem_cons_self) (by decide +kernel)
theorem mw_466 : Jvm.Cond.codeWith ({ cls := "RunweaverLaw", name := "drop", desc := "(LRunweaver;IILRunweaverLaw$Out;)I" } : Jvm.MethodName) method_5_code (5 : Nat) (Option.some Jvm.ClassFile.FieldType.int) [((0 : Nat), (11 : Nat), (14 : Nat), (19 : Nat))] ∈ mGw := mGw_of (tV_1_436 List.mem_cons_self) (by decide +kernel)
theorem mw_467 : Jvm.Cond.methodLink "RunweaverLaw" (31 : Nat) ({ cls := "Runweaver", name := "drop", desc := "(II)I" } : Jvm.MethodName) ∈ mGw := mGw_of (tV_1_437 List.mem_cons_self) (by decide +kernel)
theorem mw_468 : Jvm.Cond.instanceMethod ({ cls := "Runweaver", name := "drop", desc := "(II)I" } : Jvm.MethodName) ∈ mGw := mGw_of (tV_1_438 List.mem_cons_self) (by decide +kernel)
theorem mw_469 : Jvm.Cond.selects "Runweaver" ({ cls := "Runweaver", name := "drop", desc := "(II)I" } : Jvm.MethodName) ({ cls := "Runweaver", name := "drop", desc := "(II)I" } : Jvm.MethodName) ∈ mGw := mGw_of (tV_1_439 List.mem_cons_self) (by decide +kernel)
theorem mw_470 : Jvm.Cond.code ({ cls := "Runweaver", name := "drop", desc := "(II)I" } : Jvm.MethodName) prog_1_method_5_code (6 : Nat) (Option.some Jvm.ClassFile.FieldType.int) ∈ mGw := mGw_of (tV_1_440 List.mem_cons_self) (by decide +kernel)
theorem mw_471 : Jvm.Cond.methodLink "RunweaverLaw" (183 : Nat) ({ cls := "RunweaverLaw", name := "clear", desc := "(LRunweaver;ILRunweaverLaw$Out;)I" } : Jvm.MethodName) ∈ mGw := mGw_of (tV_1_441 List.mem_cons_self) (by decide +kernel)
theorem mw_472 : Jvm.Cond.static ({ cls := "RunweaverLaw", name := "clear", desc := "(LRunweaver;ILRunweaverLaw$Out;)I" } : Jvm.MethodName) ∈ mGw := mGw_of (tV_1_442 List.mem_cons_self) (by decide +kernel)
theorem mw_473 : Jvm.Cond.codeWith ({ cls := "RunweaverLaw", name := "clear", desc := "(LRunweaver;ILRunweaverLaw$Out;)I" } : Jvm.MethodName) method_6_code (4 : Nat) (Option.some Jvm.ClassFile.FieldType.int) [((0 : Nat), (10 : Nat), (13 : Nat), (19 : Nat))] ∈ mGw := mGw_of (tV_1_443 List.mem_cons_self) (by decide +kernel)
theorem mw_474 : Jvm.Cond.methodLink "RunweaverLaw" (34 : Nat) ({ cls := "Runweaver", name := "clear", desc := "(I)I" } : Jvm.MethodName) ∈ mGw := mGw_of (tV_1_444 List.mem_cons_self) (by decide +kernel)
theorem mw_475 : Jvm.Cond.instanceMethod ({ cls := "Runweaver", name := "clear", desc := "(I)I" } : Jvm.MethodName) ∈ mGw := mGw_of (tV_1_445 List.mem_cons_self) (by decide +kernel)
theorem mw_476 : Jvm.Cond.selects "Runweaver" ({ cls := "Runweaver", name := "clear", desc := "(I)I" } : Jvm.MethodName) ({ cls := "Runweaver", name := "clear", desc := "(I)I" } : Jvm.MethodName) ∈ mGw := mGw_of (tV_1_446 List.mem_cons_self) (by decide +kernel)
theorem mw_477 : Jvm.Cond.code ({ cls := "Runweaver", name := "clear", desc := "(I)I" } : Jvm.MethodName) prog_1_method_6_code (4 : Nat) (Option.some Jvm.ClassFile.FieldType.int) ∈ mGw := mGw_of (tV_1_447 List.mem_cons_self) (by decide +kernel)
theorem mw_478 : Jvm.Cond.methodLink "RunweaverLaw" (187 : Nat) ({ cls := "RunweaverLaw", name := "exchange", desc := "(LRunweaver;IILRunweaverLaw$Out;)I" } : Jvm.MethodName) ∈ mGw := mGw_of (tV_1_448 List.mem_cons_self) (by decide +kernel)
theorem mw_479 : Jvm.Cond.static ({ cls := "RunweaverLaw", name := "exchange", desc := "(LRunweaver;IILRunweaverLaw$Out;)I" } : Jvm.MethodName) ∈ mGw := mGw_of (tV_1_449 List.mem_cons_self) (by decide +kernel)
theorem mw_480 : Jvm.Cond.codeWith ({ cls := "RunweaverLaw", name := "exchange", desc := "(LRunweaver;IILRunweaverLaw$Out;)I" } : Jvm.MethodName) method_7_code (5 : Nat) (Option.some Jvm.ClassFile.FieldType.int) [((0 : Nat), (11 : Nat), (14 : Nat), (19 : Nat))] ∈ mGw := mGw_of (tV_1_450 List.mem_cons_self) (by decide +kernel)
theorem mw_481 : Jvm.Cond.methodLink "RunweaverLaw" (38 : Nat) ({ cls := "Runweaver", name := "exchange", desc := "(II)I" } : Jvm.MethodName) ∈ mGw := mGw_of (tV_1_451 List.mem_cons_self) (by decide +kernel)
theorem mw_482 : Jvm.Cond.instanceMethod ({ cls := "Runweaver", name := "exchange", desc := "(II)I" } : Jvm.MethodName) ∈ mGw := mGw_of (tV_1_452 List.mem_cons_self) (by decide +kernel)
theorem mw_483 : Jvm.Cond.selects "Runweaver" ({ cls := "Runweaver", name := "exchange", desc := "(II)I" } : Jvm.MethodName) ({ cls := "Runweaver", name := "exchange", desc := "(II)I" } : Jvm.MethodName) ∈ mGw := mGw_of (tV_1_453 List.mem_cons_self) (by decide +kernel)
theorem mw_484 : Jvm.Cond.code ({ cls := "Runweaver", name := "exchange", desc := "(II)I" } : Jvm.MethodName) prog_1_method_7_code (5 : Nat) (Option.some Jvm.ClassFile.FieldType.int) ∈ mGw := mGw_of (tV_1_454 List.mem_cons_self) (by decide +kernel)
theorem mw_485 : Jvm.Cond.methodLink "Runweaver" (98 : Nat) ({ cls := "Runweaver", name := "demandPlaceWithNext", desc := "(LRunweaver$Row;I)V" } : Jvm.MethodName) ∈ mGw := mGw_of (tV_1_455 List.mem_cons_self) (by decide +kernel)
theorem mw_486 : Jvm.Cond.static ({ cls := "Runweaver", name := "demandPlaceWithNext", desc := "(LRunweaver$Row;I)V" } : Jvm.MethodName) ∈ mGw := mGw_of (tV_1_456 List.mem_cons_self) (by decide +kernel)
theorem mw_487 : Jvm.Cond.code ({ cls := "Runweaver", name := "demandPlaceWithNext", desc := "(LRunweaver$Row;I)V" } : Jvm.MethodName) prog_1_method_53_code (2 : Nat) (Option.none : Option Jvm.ClassFile.FieldType) ∈ mGw := mGw_of (tV_1_457 List.mem_cons_self) (by decide +kernel)
theorem mw_488 : Jvm.Cond.methodLink "Runweaver" (101 : Nat) ({ cls := "Runweaver$Row", name := "wrongerByExchange", desc := "(I)I" } : Jvm.MethodName) ∈ mGw := mGw_of (tV_1_458 List.mem_cons_self) (by decide +kernel)
theorem mw_489 : Jvm.Cond.instanceMethod ({ cls := "Runweaver$Row", name := "wrongerByExchange", desc := "(I)I" } : Jvm.MethodName) ∈ mGw := mGw_of (tV_1_459 List.mem_cons_self) (by decide +kernel)
theorem mw_490 : Jvm.Cond.selects "Runweaver$Row" ({ cls := "Runweaver$Row", name := "wrongerByExchange", desc := "(I)I" } : Jvm.MethodName) ({ cls := "Runweaver$Row", name := "wrongerByExchange", desc := "(I)I" } : Jvm.MethodName) ∈ mGw := mGw_of (tV_1_460 List.mem_cons_self) (by decide +kernel)
theorem mw_491 : Jvm.Cond.code ({ cls := "Runweaver$Row", name := "wrongerByExchange", desc := "(I)I" } : Jvm.MethodName) prog_3_method_9_code (2 : Nat) (Option.some Jvm.ClassFile.FieldType.int) ∈ mGw := mGw_of (tV_1_461 List.mem_cons_self) (by decide +kernel)
theorem mw_492 : Jvm.Cond.methodLink "Runweaver" (104 : Nat) ({ cls := "Runweaver$Row", name := "trade", desc := "(II)V" } : Jvm.MethodName) ∈ mGw := mGw_of (tV_1_462 List.mem_cons_self) (by decide +kernel)
theorem mw_493 : Jvm.Cond.instanceMethod ({ cls := "Runweaver$Row", name := "trade", desc := "(II)V" } : Jvm.MethodName) ∈ mGw := mGw_of (tV_1_463 List.mem_cons_self) (by decide +kernel)
theorem mw_494 : Jvm.Cond.selects "Runweaver$Row" ({ cls := "Runweaver$Row", name := "trade", desc := "(II)V" } : Jvm.MethodName) ({ cls := "Runweaver$Row", name := "trade", desc := "(II)V" } : Jvm.MethodName) ∈ mGw := mGw_of (tV_1_464 List.mem_cons_self) (by decide +kernel)
theorem mw_495 : Jvm.Cond.code ({ cls := "Runweaver$Row", name := "trade", desc := "(II)V" } : Jvm.MethodName) prog_3_method_8_code (5 : Nat) (Option.none : Option Jvm.ClassFile.FieldType) ∈ mGw := mGw_of (tV_1_465 List.mem_cons_self) (by decide +kernel)
theorem mw_496 : Jvm.Cond.methodLink "RunweaverLaw" (190 : Nat) ({ cls := "RunweaverLaw", name := "swap", desc := "(LRunweaver;IIILRunweaverLaw$Out;)I" } : Jvm.MethodName) ∈ mGw := mGw_of (tV_1_466 List.mem_cons_self) (by decide +kernel)
theorem mw_497 : Jvm.Cond.static ({ cls := "RunweaverLaw", name := "swap", desc := "(LRunweaver;IIILRunweaverLaw$Out;)I" } : Jvm.MethodName) ∈ mGw := mGw_of (tV_1_467 List.mem_cons_self) (by decide +kernel)
theorem mw_498 : Jvm.Cond.codeWith ({ cls := "RunweaverLaw", name := "swap", desc := "(LRunweaver;IIILRunweaverLaw$Out;)I" } : Jvm.MethodName) method_8_code (6 : Nat) (Option.some Jvm.ClassFile.FieldType.int) [((0 : Nat), (13 : Nat), (16 : Nat), (19 : Nat))] ∈ mGw := mGw_of (tV_1_468 List.mem_cons_self) (by decide +kernel)
theorem mw_499 : Jvm.Cond.methodLink "RunweaverLaw" (41 : Nat) ({ cls := "Runweaver", name := "swap", desc := "(III)I" } : Jvm.MethodName) ∈ mGw := mGw_of (tV_1_469 List.mem_cons_self) (by decide +kernel)
theorem mw_500 : Jvm.Cond.instanceMethod ({ cls := "Runweaver", name := "swap", desc := "(III)I" } : Jvm.MethodName) ∈ mGw := mGw_of (tV_1_470 List.mem_cons_self) (by decide +kernel)
theorem mw_501 : Jvm.Cond.selects "Runweaver" ({ cls := "Runweaver", name := "swap", desc := "(III)I" } : Jvm.MethodName) ({ cls := "Runweaver", name := "swap", desc := "(III)I" } : Jvm.MethodName) ∈ mGw := mGw_of (tV_1_471 List.mem_cons_self) (by decide +kernel)
theorem mw_502 : Jvm.Cond.code ({ cls := "Runweaver", name := "swap", desc := "(III)I" } : Jvm.MethodName) prog_1_method_8_code (6 : Nat) (Option.some Jvm.ClassFile.FieldType.int) ∈ mGw := mGw_of (tV_1_472 List.mem_cons_self) (by decide +kernel)
theorem mw_503 : Jvm.Cond.methodLink "RunweaverLaw" (193 : Nat) ({ cls := "RunweaverLaw", name := "turn", desc := "(LRunweaver;ILRunweaverLaw$Out;)I" } : Jvm.MethodName) ∈ mGw := mGw_of (tV_1_473 List.mem_cons_self) (by decide +kernel)
theorem mw_504 : Jvm.Cond.static ({ cls := "RunweaverLaw", name := "turn", desc := "(LRunweaver;ILRunweaverLaw$Out;)I" } : Jvm.MethodName) ∈ mGw := mGw_of (tV_1_474 List.mem_cons_self) (by decide +kernel)
theorem mw_505 : Jvm.Cond.codeWith ({ cls := "RunweaverLaw", name := "turn", desc := "(LRunweaver;ILRunweaverLaw$Out;)I" } : Jvm.MethodName) method_9_code (4 : Nat) (Option.some Jvm.ClassFile.FieldType.int) [((0 : Nat), (10 : Nat), (13 : Nat), (19 : Nat))] ∈ mGw := mGw_of (tV_1_475 List.mem_cons_self) (by decide +kernel)
theorem mw_506 : Jvm.Cond.methodLink "RunweaverLaw" (44 : Nat) ({ cls := "Runweaver", name := "turn", desc := "(I)I" } : Jvm.MethodName) ∈ mGw := mGw_of (tV_1_476 List.mem_cons_self) (by decide +kernel)
theorem mw_507 : Jvm.Cond.instanceMethod ({ cls := "Runweaver", name := "turn", desc := "(I)I" } : Jvm.MethodName) ∈ mGw := mGw_of (tV_1_477 List.mem_cons_self) (by decide +kernel)
theorem mw_508 : Jvm.Cond.selects "Runweaver" ({ cls := "Runweaver", name := "turn", desc := "(I)I" } : Jvm.MethodName) ({ cls := "Runweaver", name := "turn", desc := "(I)I" } : Jvm.MethodName) ∈ mGw := mGw_of (tV_1_478 List.mem_cons_self) (by decide +kernel)
theorem mw_509 : Jvm.Cond.code ({ cls := "Runweaver", name := "turn", desc := "(I)I" } : Jvm.MethodName) prog_1_method_9_code (5 : Nat) (Option.some Jvm.ClassFile.FieldType.int) ∈ mGw := mGw_of (tV_1_479 List.mem_cons_self) (by decide +kernel)
theorem mw_510 : Jvm.Cond.methodLink "Runweaver" (107 : Nat) ({ cls := "Runweaver$Row", name := "otherKeys", desc := "(LRunweaver$Row;)I" } : Jvm.MethodName) ∈ mGw := mGw_of (tV_2_480 List.mem_cons_self) (by decide +kernel)
theorem mw_511 : Jvm.Cond.instanceMethod ({ cls := "Runweaver$Row", name := "otherKeys", desc := "(LRunweaver$Row;)I" } : Jvm.MethodName) ∈ mGw := mGw_of (tV_2_481 List.mem_cons_self) (by decide +kernel)
theorem mw_512 : Jvm.Cond.selects "Runweaver$Row" ({ cls := "Runweaver$Row", name := "otherKeys", desc := "(LRunweaver$Row;)I" } : Jvm.MethodName) ({ cls := "Runweaver$Row", name := "otherKeys", desc := "(LRunweaver$Row;)I" } : Jvm.MethodName) ∈ mGw := mGw_of (tV_2_482 List.mem_cons_self) (by decide +kernel)
theorem mw_513 : Jvm.Cond.code ({ cls := "Runweaver$Row", name := "otherKeys", desc := "(LRunweaver$Row;)I" } : Jvm.MethodName) prog_3_method_10_code (5 : Nat) (Option.some Jvm.ClassFile.FieldType.int) ∈ mGw := mGw_of (tV_2_483 List.mem_cons_self) (by decide +kernel)
theorem mw_514 : Jvm.Cond.methodLink "RunweaverLaw" (196 : Nat) ({ cls := "RunweaverLaw", name := "roll", desc := "(LRunweaver;IILRunweaverLaw$Out;)I" } : Jvm.MethodName) ∈ mGw := mGw_of (tV_2_484 List.mem_cons_self) (by decide +kernel)
theorem mw_515 : Jvm.Cond.static ({ cls := "RunweaverLaw", name := "roll", desc := "(LRunweaver;IILRunweaverLaw$Out;)I" } : Jvm.MethodName) ∈ mGw := mGw_of (tV_2_485 List.mem_cons_self) (by decide +kernel)
theorem mw_516 : Jvm.Cond.codeWith ({ cls := "RunweaverLaw", name := "roll", desc := "(LRunweaver;IILRunweaverLaw$Out;)I" } : Jvm.MethodName) method_10_code (5 : Nat) (Option.some Jvm.ClassFile.FieldType.int) [((0 : Nat), (11 : Nat), (14 : Nat), (19 : Nat)), ((0 : Nat), (11 : Nat), (18 : Nat), (21 : Nat))] ∈ mGw := mGw_of (tV_2_486 List.mem_cons_self) (by decide +kernel)
theorem mw_517 : Jvm.Cond.methodLink "RunweaverLaw" (47 : Nat) ({ cls := "Runweaver", name := "roll", desc := "(II)I" } : Jvm.MethodName) ∈ mGw := mGw_of (tV_2_487 List.mem_cons_self) (by decide +kernel)
theorem mw_518 : Jvm.Cond.instanceMethod ({ cls := "Runweaver", name := "roll", desc := "(II)I" } : Jvm.MethodName) ∈ mGw := mGw_of (tV_2_488 List.mem_cons_self) (by decide +kernel)
theorem mw_519 : Jvm.Cond.selects "Runweaver" ({ cls := "Runweaver", name := "roll", desc := "(II)I" } : Jvm.MethodName) ({ cls := "Runweaver", name := "roll", desc := "(II)I" } : Jvm.MethodName) ∈ mGw := mGw_of (tV_2_489 List.mem_cons_self) (by decide +kernel)
theorem mw_520 : Jvm.Cond.code ({ cls := "Runweaver", name := "roll", desc := "(II)I" } : Jvm.MethodName) prog_1_method_10_code (6 : Nat) (Option.some Jvm.ClassFile.FieldType.int) ∈ mGw := mGw_of (tV_2_490 List.mem_cons_self) (by decide +kernel)
theorem mw_521 : Jvm.Cond.methodLink "RunweaverLaw" (199 : Nat) ({ cls := "RunweaverLaw", name := "keep", desc := "(LRunweaver;IIILRunweaverLaw$Out;)I" } : Jvm.MethodName) ∈ mGw := mGw_of (tV_2_491 List.mem_cons_self) (by decide +kernel)
theorem mw_522 : Jvm.Cond.static ({ cls := "RunweaverLaw", name := "keep", desc := "(LRunweaver;IIILRunweaverLaw$Out;)I" } : Jvm.MethodName) ∈ mGw := mGw_of (tV_2_492 List.mem_cons_self) (by decide +kernel)
theorem mw_523 : Jvm.Cond.codeWith ({ cls := "RunweaverLaw", name := "keep", desc := "(LRunweaver;IIILRunweaverLaw$Out;)I" } : Jvm.MethodName) method_11_code (6 : Nat) (Option.some Jvm.ClassFile.FieldType.int) [((0 : Nat), (13 : Nat), (16 : Nat), (19 : Nat))] ∈ mGw := mGw_of (tV_2_493 List.mem_cons_self) (by decide +kernel)
theorem mw_524 : Jvm.Cond.methodLink "RunweaverLaw" (50 : Nat) ({ cls := "Runweaver", name := "keep", desc := "(III)I" } : Jvm.MethodName) ∈ mGw := mGw_of (tV_2_494 List.mem_cons_self) (by decide +kernel)
theorem mw_525 : Jvm.Cond.instanceMethod ({ cls := "Runweaver", name := "keep", desc := "(III)I" } : Jvm.MethodName) ∈ mGw := mGw_of (tV_2_495 List.mem_cons_self) (by decide +kernel)
theorem mw_526 : Jvm.Cond.selects "Runweaver" ({ cls := "Runweaver", name := "keep", desc := "(III)I" } : Jvm.MethodName) ({ cls := "Runweaver", name := "keep", desc := "(III)I" } : Jvm.MethodName) ∈ mGw := mGw_of (tV_2_496 List.mem_cons_self) (by decide +kernel)
theorem mw_527 : Jvm.Cond.code ({ cls := "Runweaver", name := "keep", desc := "(III)I" } : Jvm.MethodName) prog_1_method_11_code (6 : Nat) (Option.some Jvm.ClassFile.FieldType.int) ∈ mGw := mGw_of (tV_2_497 List.mem_cons_self) (by decide +kernel)
theorem mw_528 : Jvm.Cond.methodLink "RunweaverLaw" (202 : Nat) ({ cls := "RunweaverLaw", name := "sort", desc := "(LRunweaver;ILRunweaverLaw$Out;)I" } : Jvm.MethodName) ∈ mGw := mGw_of (tV_2_498 List.mem_cons_self) (by decide +kernel)
theorem mw_529 : Jvm.Cond.static ({ cls := "RunweaverLaw", name := "sort", desc := "(LRunweaver;ILRunweaverLaw$Out;)I" } : Jvm.MethodName) ∈ mGw := mGw_of (tV_2_499 List.mem_cons_self) (by decide +kernel)
theorem mw_530 : Jvm.Cond.codeWith ({ cls := "RunweaverLaw", name := "sort", desc := "(LRunweaver;ILRunweaverLaw$Out;)I" } : Jvm.MethodName) method_12_code (4 : Nat) (Option.some Jvm.ClassFile.FieldType.int) [((0 : Nat), (10 : Nat), (13 : Nat), (19 : Nat))] ∈ mGw := mGw_of (tV_2_500 List.mem_cons_self) (by decide +kernel)
theorem mw_531 : Jvm.Cond.methodLink "RunweaverLaw" (53 : Nat) ({ cls := "Runweaver", name := "sort", desc := "(I)I" } : Jvm.MethodName) ∈ mGw := mGw_of (tV_2_501 List.mem_cons_self) (by decide +kernel)
theorem mw_532 : Jvm.Cond.instanceMethod ({ cls := "Runweaver", name := "sort", desc := "(I)I" } : Jvm.MethodName) ∈ mGw := mGw_of (tV_2_502 List.mem_cons_self) (by decide +kernel)
theorem mw_533 : Jvm.Cond.selects "Runweaver" ({ cls := "Runweaver", name := "sort", desc := "(I)I" } : Jvm.MethodName) ({ cls := "Runweaver", name := "sort", desc := "(I)I" } : Jvm.MethodName) ∈ mGw := mGw_of (tV_2_503 List.mem_cons_self) (by decide +kernel)
theorem mw_534 : Jvm.Cond.code ({ cls := "Runweaver", name := "sort", desc := "(I)I" } : Jvm.MethodName) prog_1_method_12_code (4 : Nat) (Option.some Jvm.ClassFile.FieldType.int) ∈ mGw := mGw_of (tV_2_504 List.mem_cons_self) (by decide +kernel)
theorem mw_535 : Jvm.Cond.methodLink "RunweaverLaw" (205 : Nat) ({ cls := "RunweaverLaw", name := "copy", desc := "(LRunweaver;IILRunweaverLaw$Out;)I" } : Jvm.MethodName) ∈ mGw := mGw_of (tV_2_505 List.mem_cons_self) (by decide +kernel)
theorem mw_536 : Jvm.Cond.static ({ cls := "RunweaverLaw", name := "copy", desc := "(LRunweaver;IILRunweaverLaw$Out;)I" } : Jvm.MethodName) ∈ mGw := mGw_of (tV_2_506 List.mem_cons_self) (by decide +kernel)
theorem mw_537 : Jvm.Cond.codeWith ({ cls := "RunweaverLaw", name := "copy", desc := "(LRunweaver;IILRunweaverLaw$Out;)I" } : Jvm.MethodName) method_13_code (5 : Nat) (Option.some Jvm.ClassFile.FieldType.int) [((0 : Nat), (11 : Nat), (14 : Nat), (19 : Nat))] ∈ mGw := mGw_of (tV_2_507 List.mem_cons_self) (by decide +kernel)
theorem mw_538 : Jvm.Cond.methodLink "RunweaverLaw" (56 : Nat) ({ cls := "Runweaver", name := "copy", desc := "(II)I" } : Jvm.MethodName) ∈ mGw := mGw_of (tV_2_508 List.mem_cons_self) (by decide +kernel)
theorem mw_539 : Jvm.Cond.instanceMethod ({ cls := "Runweaver", name := "copy", desc := "(II)I" } : Jvm.MethodName) ∈ mGw := mGw_of (tV_2_509 List.mem_cons_self) (by decide +kernel)
theorem mw_540 : Jvm.Cond.selects "Runweaver" ({ cls := "Runweaver", name := "copy", desc := "(II)I" } : Jvm.MethodName) ({ cls := "Runweaver", name := "copy", desc := "(II)I" } : Jvm.MethodName) ∈ mGw := mGw_of (tV_2_510 List.mem_cons_self) (by decide +kernel)
theorem mw_541 : Jvm.Cond.code ({ cls := "Runweaver", name := "copy", desc := "(II)I" } : Jvm.MethodName) prog_1_method_13_code (5 : Nat) (Option.some Jvm.ClassFile.FieldType.int) ∈ mGw := mGw_of (tV_2_511 List.mem_cons_self) (by decide +kernel)
theorem mw_542 : Jvm.Cond.methodLink "Runweaver" (127 : Nat) ({ cls := "Runweaver", name := "bring", desc := "(LRunweaver$Row;LRunweaver$Row;Z)V" } : Jvm.MethodName) ∈ mGw := mGw_of (tV_2_512 List.mem_cons_self) (by decide +kernel)
theorem mw_544 : Jvm.Cond.instanceMethod ({ cls := "Runweaver", name := "bring", desc := "(LRunweaver$Row;LRunweaver$Row;Z)V" } : Jvm.MethodName) ∈ mGw := mGw_of (tV_2_514 List.mem_cons_self) (by decide +kernel)
theorem mw_545 : Jvm.Cond.code ({ cls := "Runweaver", name := "bring", desc := "(LRunweaver$Row;LRunweaver$Row;Z)V" } : Jvm.MethodName) prog_1_method_61_code (6 : Nat) (Option.none : Option Jvm.ClassFile.FieldType) ∈ mGw := mGw_of (tV_2_515 List.mem_cons_self) (by decide +kernel)
theorem mw_546 : Jvm.Cond.methodLink "Runweaver" (304 : Nat) ({ cls := "Runweaver", name := "stampOfComer", desc := "(LRunweaver$Row;IZ)I" } : Jvm.MethodName) ∈ mGw := mGw_of (tV_2_516 List.mem_cons_self) (by decide +kernel)
theorem mw_548 : Jvm.Cond.instanceMethod ({ cls := "Runweaver", name := "stampOfComer", desc := "(LRunweaver$Row;IZ)I" } : Jvm.MethodName) ∈ mGw := mGw_of (tV_2_518 List.mem_cons_self) (by decide +kernel)
theorem mw_549 : Jvm.Cond.code ({ cls := "Runweaver", name := "stampOfComer", desc := "(LRunweaver$Row;IZ)I" } : Jvm.MethodName) prog_1_method_62_code (4 : Nat) (Option.some Jvm.ClassFile.FieldType.int) ∈ mGw := mGw_of (tV_2_519 List.mem_cons_self) (by decide +kernel)
theorem mw_550 : Jvm.Cond.methodLink "RunweaverLaw" (208 : Nat) ({ cls := "RunweaverLaw", name := "join", desc := "(LRunweaver;IILRunweaverLaw$Out;)I" } : Jvm.MethodName) ∈ mGw := mGw_of (tV_2_520 List.mem_cons_self) (by decide +kernel)
theorem mw_551 : Jvm.Cond.static ({ cls := "RunweaverLaw", name := "join", desc := "(LRunweaver;IILRunweaverLaw$Out;)I" } : Jvm.MethodName) ∈ mGw := mGw_of (tV_2_521 List.mem_cons_self) (by decide +kernel)
theorem mw_552 : Jvm.Cond.codeWith ({ cls := "RunweaverLaw", name := "join", desc := "(LRunweaver;IILRunweaverLaw$Out;)I" } : Jvm.MethodName) method_14_code (5 : Nat) (Option.some Jvm.ClassFile.FieldType.int) [((0 : Nat), (11 : Nat), (14 : Nat), (19 : Nat))] ∈ mGw := mGw_of (tV_2_522 List.mem_cons_self) (by decide +kernel)
theorem mw_553 : Jvm.Cond.methodLink "RunweaverLaw" (59 : Nat) ({ cls := "Runweaver", name := "join", desc := "(II)I" } : Jvm.MethodName) ∈ mGw := mGw_of (tV_2_523 List.mem_cons_self) (by decide +kernel)
theorem mw_554 : Jvm.Cond.instanceMethod ({ cls := "Runweaver", name := "join", desc := "(II)I" } : Jvm.MethodName) ∈ mGw := mGw_of (tV_2_524 List.mem_cons_self) (by decide +kernel)
theorem mw_555 : Jvm.Cond.selects "Runweaver" ({ cls := "Runweaver", name := "join", desc := "(II)I" } : Jvm.MethodName) ({ cls := "Runweaver", name := "join", desc := "(II)I" } : Jvm.MethodName) ∈ mGw := mGw_of (tV_2_525 List.mem_cons_self) (by decide +kernel)
theorem mw_556 : Jvm.Cond.code ({ cls := "Runweaver", name := "join", desc := "(II)I" } : Jvm.MethodName) prog_1_method_14_code (5 : Nat) (Option.some Jvm.ClassFile.FieldType.int) ∈ mGw := mGw_of (tV_2_526 List.mem_cons_self) (by decide +kernel)
theorem mw_557 : Jvm.Cond.methodLink "RunweaverLaw" (211 : Nat) ({ cls := "RunweaverLaw", name := "merge", desc := "(LRunweaver;IILRunweaverLaw$Out;)I" } : Jvm.MethodName) ∈ mGw := mGw_of (tV_2_527 List.mem_cons_self) (by decide +kernel)
theorem mw_558 : Jvm.Cond.static ({ cls := "RunweaverLaw", name := "merge", desc := "(LRunweaver;IILRunweaverLaw$Out;)I" } : Jvm.MethodName) ∈ mGw := mGw_of (tV_2_528 List.mem_cons_self) (by decide +kernel)
theorem mw_559 : Jvm.Cond.codeWith ({ cls := "RunweaverLaw", name := "merge", desc := "(LRunweaver;IILRunweaverLaw$Out;)I" } : Jvm.MethodName) method_15_code (5 : Nat) (Option.some Jvm.ClassFile.FieldType.int) [((0 : Nat), (11 : Nat), (14 : Nat), (19 : Nat))] ∈ mGw := mGw_of (tV_2_529 List.mem_cons_self) (by decide +kernel)
theorem mw_560 : Jvm.Cond.methodLink "RunweaverLaw" (62 : Nat) ({ cls := "Runweaver", name := "merge", desc := "(II)I" } : Jvm.MethodName) ∈ mGw := mGw_of (tV_2_530 List.mem_cons_self) (by decide +kernel)
theorem mw_561 : Jvm.Cond.instanceMethod ({ cls := "Runweaver", name := "merge", desc := "(II)I" } : Jvm.MethodName) ∈ mGw := mGw_of (tV_2_531 List.mem_cons_self) (by decide +kernel)
theorem mw_562 : Jvm.Cond.selects "Runweaver" ({ cls := "Runweaver", name := "merge", desc := "(II)I" } : Jvm.MethodName) ({ cls := "Runweaver", name := "merge", desc := "(II)I" } : Jvm.MethodName) ∈ mGw := mGw_of (tV_2_532 List.mem_cons_self) (by decide +kernel)
theorem mw_563 : Jvm.Cond.code ({ cls := "Runweaver", name := "merge", desc := "(II)I" } : Jvm.MethodName) prog_1_method_15_code (5 : Nat) (Option.some Jvm.ClassFile.FieldType.int) ∈ mGw := mGw_of (tV_2_533 List.mem_cons_self) (by decide +kernel)
theorem mw_564 : Jvm.Cond.methodLink "RunweaverLaw" (214 : Nat) ({ cls := "RunweaverLaw", name := "many", desc := "(LRunweaver;ILRunweaverLaw$Out;)I" } : Jvm.MethodName) ∈ mGw := mGw_of (tV_2_534 List.mem_cons_self) (by decide +kernel)
theorem mw_565 : Jvm.Cond.static ({ cls := "RunweaverLaw", name := "many", desc := "(LRunweaver;ILRunweaverLaw$Out;)I" } : Jvm.MethodName) ∈ mGw := mGw_of (tV_2_535 List.mem_cons_self) (by decide +kernel)
theorem mw_566 : Jvm.Cond.codeWith ({ cls := "RunweaverLaw", name := "many", desc := "(LRunweaver;ILRunweaverLaw$Out;)I" } : Jvm.MethodName) method_16_code (4 : Nat) (Option.some Jvm.ClassFile.FieldType.int) [((0 : Nat), (10 : Nat), (13 : Nat), (19 : Nat))] ∈ mGw := mGw_of (tV_2_536 List.mem_cons_self) (by decide +kernel)
theorem mw_567 : Jvm.Cond.methodLink "RunweaverLaw" (65 : Nat) ({ cls := "Runweaver", name := "many", desc := "(I)I" } : Jvm.MethodName) ∈ mGw := mGw_of (tV_2_537 List.mem_cons_self) (by decide +kernel)
theorem mw_568 : Jvm.Cond.methodLink "RunweaverLaw" (217 : Nat) ({ cls := "RunweaverLaw", name := "key", desc := "(LRunweaver;IILRunweaverLaw$Out;)I" } : Jvm.MethodName) ∈ mGw := mGw_of (tV_2_538 List.mem_cons_self) (by decide +kernel)
theorem mw_569 : Jvm.Cond.static ({ cls := "RunweaverLaw", name := "key", desc := "(LRunweaver;IILRunweaverLaw$Out;)I" } : Jvm.MethodName) ∈ mGw := mGw_of (tV_2_539 List.mem_cons_self) (by decide +kernel)
theorem mw_570 : Jvm.Cond.codeWith ({ cls := "RunweaverLaw", name := "key", desc := "(LRunweaver;IILRunweaverLaw$Out;)I" } : Jvm.MethodName) method_17_code (5 : Nat) (Option.some Jvm.ClassFile.FieldType.int) [((0 : Nat), (11 : Nat), (14 : Nat), (19 : Nat))] ∈ mGw := mGw_of (tV_2_540 List.mem_cons_self) (by decide +kernel)
theorem mw_571 : Jvm.Cond.methodLink "RunweaverLaw" (68 : Nat) ({ cls := "Runweaver", name := "key", desc := "(II)I" } : Jvm.MethodName) ∈ mGw := mGw_of (tV_2_541 List.mem_cons_self) (by decide +kernel)
theorem mw_572 : Jvm.Cond.instanceMethod ({ cls := "Runweaver", name := "key", desc := "(II)I" } : Jvm.MethodName) ∈ mGw := mGw_of (tV_2_542 List.mem_cons_self) (by decide +kernel)
theorem mw_573 : Jvm.Cond.selects "Runweaver" ({ cls := "Runweaver", name := "key", desc := "(II)I" } : Jvm.MethodName) ({ cls := "Runweaver", name := "key", desc := "(II)I" } : Jvm.MethodName) ∈ mGw := mGw_of (tV_2_543 List.mem_cons_self) (by decide +kernel)
theorem mw_574 : Jvm.Cond.code ({ cls := "Runweaver", name := "key", desc := "(II)I" } : Jvm.MethodName) prog_1_method_17_code (4 : Nat) (Option.some Jvm.ClassFile.FieldType.int) ∈ mGw := mGw_of (tV_2_544 List.mem_cons_self) (by decide +kernel)
theorem mw_575 : Jvm.Cond.methodLink "RunweaverLaw" (220 : Nat) ({ cls := "RunweaverLaw", name := "stamp", desc := "(LRunweaver;IILRunweaverLaw$Out;)I" } : Jvm.MethodName) ∈ mGw := mGw_of (tV_2_545 List.mem_cons_self) (by decide +kernel)
theorem mw_576 : Jvm.Cond.static ({ cls := "RunweaverLaw", name := "stamp", desc := "(LRunweaver;IILRunweaverLaw$Out;)I" } : Jvm.MethodName) ∈ mGw := mGw_of (tV_2_546 List.mem_cons_self) (by decide +kernel)
theorem mw_577 : Jvm.Cond.codeWith ({ cls := "RunweaverLaw", name := "stamp", desc := "(LRunweaver;IILRunweaverLaw$Out;)I" } : Jvm.MethodName) method_18_code (5 : Nat) (Option.some Jvm.ClassFile.FieldType.int) [((0 : Nat), (11 : Nat), (14 : Nat), (19 : Nat))] ∈ mGw := mGw_of (tV_2_547 List.mem_cons_self) (by decide +kernel)
theorem mw_578 : Jvm.Cond.methodLink "RunweaverLaw" (71 : Nat) ({ cls := "Runweaver", name := "stamp", desc := "(II)I" } : Jvm.MethodName) ∈ mGw := mGw_of (tV_2_548 List.mem_cons_self) (by decide +kernel)
theorem mw_579 : Jvm.Cond.instanceMethod ({ cls := "Runweaver", name := "stamp", desc := "(II)I" } : Jvm.MethodName) ∈ mGw := mGw_of (tV_2_549 List.mem_cons_self) (by decide +kernel)
theorem mw_580 : Jvm.Cond.selects "Runweaver" ({ cls := "Runweaver", name := "stamp", desc := "(II)I" } : Jvm.MethodName) ({ cls := "Runweaver", name := "stamp", desc := "(II)I" } : Jvm.MethodName) ∈ mGw := mGw_of (tV_2_550 List.mem_cons_self) (by decide +kernel)
theorem mw_581 : Jvm.Cond.code ({ cls := "Runweaver", name := "stamp", desc := "(II)I" } : Jvm.MethodName) prog_1_method_18_code (4 : Nat) (Option.some Jvm.ClassFile.FieldType.int) ∈ mGw := mGw_of (tV_2_551 List.mem_cons_self) (by decide +kernel)
theorem mw_582 : Jvm.Cond.methodLink "RunweaverLaw" (223 : Nat) ({ cls := "RunweaverLaw", name := "rank", desc := "(LRunweaver;IILRunweaverLaw$Out;)I" } : Jvm.MethodName) ∈ mGw := mGw_of (tV_2_552 List.mem_cons_self) (by decide +kernel)
theorem mw_583 : Jvm.Cond.static ({ cls := "RunweaverLaw", name := "rank", desc := "(LRunweaver;IILRunweaverLaw$Out;)I" } : Jvm.MethodName) ∈ mGw := mGw_of (tV_2_553 List.mem_cons_self) (by decide +kernel)
theorem mw_584 : Jvm.Cond.codeWith ({ cls := "RunweaverLaw", name := "rank", desc := "(LRunweaver;IILRunweaverLaw$Out;)I" } : Jvm.MethodName) method_19_code (5 : Nat) (Option.some Jvm.ClassFile.FieldType.int) [((0 : Nat), (11 : Nat), (14 : Nat), (19 : Nat))] ∈ mGw := mGw_of (tV_2_554 List.mem_cons_self) (by decide +kernel)
theorem mw_585 : Jvm.Cond.methodLink "RunweaverLaw" (74 : Nat) ({ cls := "Runweaver", name := "rank", desc := "(II)I" } : Jvm.MethodName) ∈ mGw := mGw_of (tV_2_555 List.mem_cons_self) (by decide +kernel)
theorem mw_586 : Jvm.Cond.instanceMethod ({ cls := "Runweaver", name := "rank", desc := "(II)I" } : Jvm.MethodName) ∈ mGw := mGw_of (tV_2_556 List.mem_cons_self) (by decide +kernel)
theorem mw_587 : Jvm.Cond.selects "Runweaver" ({ cls := "Runweaver", name := "rank", desc := "(II)I" } : Jvm.MethodName) ({ cls := "Runweaver", name := "rank", desc := "(II)I" } : Jvm.MethodName) ∈ mGw := mGw_of (tV_2_557 List.mem_cons_self) (by decide +kernel)
theorem mw_588 : Jvm.Cond.code ({ cls := "Runweaver", name := "rank", desc := "(II)I" } : Jvm.MethodName) prog_1_method_19_code (4 : Nat) (Option.some Jvm.ClassFile.FieldType.int) ∈ mGw := mGw_of (tV_2_558 List.mem_cons_self) (by decide +kernel)
theorem mw_589 : Jvm.Cond.methodLink "Runweaver" (141 : Nat) ({ cls := "Runweaver$Row", name := "rankAt", desc := "(I)I" } : Jvm.MethodName) ∈ mGw := mGw_of (tV_2_559 List.mem_cons_self) (by decide +kernel)
theorem mw_590 : Jvm.Cond.methodLink "RunweaverLaw" (226 : Nat) ({ cls := "RunweaverLaw", name := "would", desc := "(LRunweaver;IILRunweaverLaw$Out;)I" } : Jvm.MethodName) ∈ mGw := mGw_of (tV_2_560 List.mem_cons_self) (by decide +kernel)
theorem mw_591 : Jvm.Cond.static ({ cls := "RunweaverLaw", name := "would", desc := "(LRunweaver;IILRunweaverLaw$Out;)I" } : Jvm.MethodName) ∈ mGw := mGw_of (tV_2_561 List.mem_cons_self) (by decide +kernel)
theorem mw_592 : Jvm.Cond.codeWith ({ cls := "RunweaverLaw", name := "would", desc := "(LRunweaver;IILRunweaverLaw$Out;)I" } : Jvm.MethodName) method_20_code (5 : Nat) (Option.some Jvm.ClassFile.FieldType.int) [((0 : Nat), (11 : Nat), (14 : Nat), (19 : Nat))] ∈ mGw := mGw_of (tV_2_562 List.mem_cons_self) (by decide +kernel)
theorem mw_593 : Jvm.Cond.methodLink "RunweaverLaw" (77 : Nat) ({ cls := "Runweaver", name := "would", desc := "(II)I" } : Jvm.MethodName) ∈ mGw := mGw_of (tV_2_563 List.mem_cons_self) (by decide +kernel)
theorem mw_594 : Jvm.Cond.instanceMethod ({ cls := "Runweaver", name := "would", desc := "(II)I" } : Jvm.MethodName) ∈ mGw := mGw_of (tV_2_564 List.mem_cons_self) (by decide +kernel)
theorem mw_595 : Jvm.Cond.selects "Runweaver" ({ cls := "Runweaver", name := "would", desc := "(II)I" } : Jvm.MethodName) ({ cls := "Runweaver", name := "would", desc := "(II)I" } : Jvm.MethodName) ∈ mGw := mGw_of (tV_2_565 List.mem_cons_self) (by decide +kernel)
theorem mw_596 : Jvm.Cond.code ({ cls := "Runweaver", name := "would", desc := "(II)I" } : Jvm.MethodName) prog_1_method_20_code (4 : Nat) (Option.some Jvm.ClassFile.FieldType.int) ∈ mGw := mGw_of (tV_2_566 List.mem_cons_self) (by decide +kernel)
theorem mw_597 : Jvm.Cond.methodLink "RunweaverLaw" (229 : Nat) ({ cls := "RunweaverLaw", name := "wouldStamp", desc := "(LRunweaver;IILRunweaverLaw$Out;)I" } : Jvm.MethodName) ∈ mGw := mGw_of (tV_2_567 List.mem_cons_self) (by decide +kernel)
theorem mw_598 : Jvm.Cond.static ({ cls := "RunweaverLaw", name := "wouldStamp", desc := "(LRunweaver;IILRunweaverLaw$Out;)I" } : Jvm.MethodName) ∈ mGw := mGw_of (tV_2_568 List.mem_cons_self) (by decide +kernel)
theorem mw_599 : Jvm.Cond.codeWith ({ cls := "RunweaverLaw", name := "wouldStamp", desc := "(LRunweaver;IILRunweaverLaw$Out;)I" } : Jvm.MethodName) method_21_code (5 : Nat) (Option.some Jvm.ClassFile.FieldType.int) [((0 : Nat), (11 : Nat), (14 : Nat), (19 : Nat))] ∈ mGw := mGw_of (tV_2_569 List.mem_cons_self) (by decide +kernel)
theorem mw_600 : Jvm.Cond.methodLink "RunweaverLaw" (80 : Nat) ({ cls := "Runweaver", name := "wouldStamp", desc := "(II)I" } : Jvm.MethodName) ∈ mGw := mGw_of (tV_2_570 List.mem_cons_self) (by decide +kernel)
theorem mw_601 : Jvm.Cond.instanceMethod ({ cls := "Runweaver", name := "wouldStamp", desc := "(II)I" } : Jvm.MethodName) ∈ mGw := mGw_of (tV_2_571 List.mem_cons_self) (by decide +kernel)
theorem mw_602 : Jvm.Cond.selects "Runweaver" ({ cls := "Runweaver", name := "wouldStamp", desc := "(II)I" } : Jvm.MethodName) ({ cls := "Runweaver", name := "wouldStamp", desc := "(II)I" } : Jvm.MethodName) ∈ mGw := mGw_of (tV_2_572 List.mem_cons_self) (by decide +kernel)
theorem mw_603 : Jvm.Cond.code ({ cls := "Runweaver", name := "wouldStamp", desc := "(II)I" } : Jvm.MethodName) prog_1_method_21_code (4 : Nat) (Option.some Jvm.ClassFile.FieldType.int) ∈ mGw := mGw_of (tV_2_573 List.mem_cons_self) (by decide +kernel)
theorem mw_604 : Jvm.Cond.methodLink "RunweaverLaw" (232 : Nat) ({ cls := "RunweaverLaw", name := "wrongAt", desc := "(LRunweaver;IILRunweaverLaw$Out;)I" } : Jvm.MethodName) ∈ mGw := mGw_of (tV_2_574 List.mem_cons_self) (by decide +kernel)
theorem mw_605 : Jvm.Cond.static ({ cls := "RunweaverLaw", name := "wrongAt", desc := "(LRunweaver;IILRunweaverLaw$Out;)I" } : Jvm.MethodName) ∈ mGw := mGw_of (tV_2_575 List.mem_cons_self) (by decide +kernel)
theorem mw_606 : Jvm.Cond.codeWith ({ cls := "RunweaverLaw", name := "wrongAt", desc := "(LRunweaver;IILRunweaverLaw$Out;)I" } : Jvm.MethodName) method_22_code (5 : Nat) (Option.some Jvm.ClassFile.FieldType.int) [((0 : Nat), (11 : Nat), (14 : Nat), (19 : Nat))] ∈ mGw := mGw_of (tV_2_576 List.mem_cons_self) (by decide +kernel)
theorem mw_607 : Jvm.Cond.methodLink "RunweaverLaw" (83 : Nat) ({ cls := "Runweaver", name := "wrongAt", desc := "(II)I" } : Jvm.MethodName) ∈ mGw := mGw_of (tV_2_577 List.mem_cons_self) (by decide +kernel)
theorem mw_608 : Jvm.Cond.instanceMethod ({ cls := "Runweaver", name := "wrongAt", desc := "(II)I" } : Jvm.MethodName) ∈ mGw := mGw_of (tV_2_578 List.mem_cons_self) (by decide +kernel)
theorem mw_609 : Jvm.Cond.selects "Runweaver" ({ cls := "Runweaver", name := "wrongAt", desc := "(II)I" } : Jvm.MethodName) ({ cls := "Runweaver", name := "wrongAt", desc := "(II)I" } : Jvm.MethodName) ∈ mGw := mGw_of (tV_2_579 List.mem_cons_self) (by decide +kernel)
theorem mw_610 : Jvm.Cond.code ({ cls := "Runweaver", name := "wrongAt", desc := "(II)I" } : Jvm.MethodName) prog_1_method_22_code (4 : Nat) (Option.some Jvm.ClassFile.FieldType.int) ∈ mGw := mGw_of (tV_2_580 List.mem_cons_self) (by decide +kernel)
theorem mw_611 : Jvm.Cond.methodLink "Runweaver" (144 : Nat) ({ cls := "Runweaver$Row", name := "wrongPairsWith", desc := "(I)I" } : Jvm.MethodName) ∈ mGw := mGw_of (tV_2_581 List.mem_cons_self) (by decide +kernel)
theorem mw_612 : Jvm.Cond.instanceMethod ({ cls := "Runweaver$Row", name := "wrongPairsWith", desc := "(I)I" } : Jvm.MethodName) ∈ mGw := mGw_of (tV_2_582 List.mem_cons_self) (by decide +kernel)
theorem mw_613 : Jvm.Cond.selects "Runweaver$Row" ({ cls := "Runweaver$Row", name := "wrongPairsWith", desc := "(I)I" } : Jvm.MethodName) ({ cls := "Runweaver$Row", name := "wrongPairsWith", desc := "(I)I" } : Jvm.MethodName) ∈ mGw := mGw_of (tV_2_583 List.mem_cons_self) (by decide +kernel)
theorem mw_614 : Jvm.Cond.code ({ cls := "Runweaver$Row", name := "wrongPairsWith", desc := "(I)I" } : Jvm.MethodName) prog_3_method_17_code (5 : Nat) (Option.some Jvm.ClassFile.FieldType.int) ∈ mGw := mGw_of (tV_2_584 List.mem_cons_self) (by decide +kernel)
theorem mw_615 : Jvm.Cond.methodLink "RunweaverLaw" (235 : Nat) ({ cls := "RunweaverLaw", name := "after", desc := "(LRunweaver;IILRunweaverLaw$Out;)I" } : Jvm.MethodName) ∈ mGw := mGw_of (tV_2_585 List.mem_cons_self) (by decide +kernel)
theorem mw_616 : Jvm.Cond.static ({ cls := "RunweaverLaw", name := "after", desc := "(LRunweaver;IILRunweaverLaw$Out;)I" } : Jvm.MethodName) ∈ mGw := mGw_of (tV_2_586 List.mem_cons_self) (by decide +kernel)
theorem mw_617 : Jvm.Cond.codeWith ({ cls := "RunweaverLaw", name := "after", desc := "(LRunweaver;IILRunweaverLaw$Out;)I" } : Jvm.MethodName) method_23_code (5 : Nat) (Option.some Jvm.ClassFile.FieldType.int) [((0 : Nat), (11 : Nat), (14 : Nat), (19 : Nat))] ∈ mGw := mGw_of (tV_2_587 List.mem_cons_self) (by decide +kernel)
theorem mw_618 : Jvm.Cond.methodLink "RunweaverLaw" (86 : Nat) ({ cls := "Runweaver", name := "after", desc := "(II)I" } : Jvm.MethodName) ∈ mGw := mGw_of (tV_2_588 List.mem_cons_self) (by decide +kernel)
theorem mw_619 : Jvm.Cond.instanceMethod ({ cls := "Runweaver", name := "after", desc := "(II)I" } : Jvm.MethodName) ∈ mGw := mGw_of (tV_2_589 List.mem_cons_self) (by decide +kernel)
theorem mw_620 : Jvm.Cond.selects "Runweaver" ({ cls := "Runweaver", name := "after", desc := "(II)I" } : Jvm.MethodName) ({ cls := "Runweaver", name := "after", desc := "(II)I" } : Jvm.MethodName) ∈ mGw := mGw_of (tV_2_590 List.mem_cons_self) (by decide +kernel)
theorem mw_621 : Jvm.Cond.code ({ cls := "Runweaver", name := "after", desc := "(II)I" } : Jvm.MethodName) prog_1_method_23_code (4 : Nat) (Option.some Jvm.ClassFile.FieldType.int) ∈ mGw := mGw_of (tV_2_591 List.mem_cons_self) (by decide +kernel)
theorem mw_622 : Jvm.Cond.methodLink "RunweaverLaw" (238 : Nat) ({ cls := "RunweaverLaw", name := "runAt", desc := "(LRunweaver;IILRunweaverLaw$Out;)I" } : Jvm.MethodName) ∈ mGw := mGw_of (tV_2_592 List.mem_cons_self) (by decide +kernel)
theorem mw_623 : Jvm.Cond.static ({ cls := "RunweaverLaw", name := "runAt", desc := "(LRunweaver;IILRunweaverLaw$Out;)I" } : Jvm.MethodName) ∈ mGw := mGw_of (tV_2_593 List.mem_cons_self) (by decide +kernel)
theorem mw_624 : Jvm.Cond.codeWith ({ cls := "RunweaverLaw", name := "runAt", desc := "(LRunweaver;IILRunweaverLaw$Out;)I" } : Jvm.MethodName) method_24_code (5 : Nat) (Option.some Jvm.ClassFile.FieldType.int) [((0 : Nat), (11 : Nat), (14 : Nat), (19 : Nat))] ∈ mGw := mGw_of (tV_2_594 List.mem_cons_self) (by decide +kernel)
theorem mw_625 : Jvm.Cond.methodLink "RunweaverLaw" (89 : Nat) ({ cls := "Runweaver", name := "runAt", desc := "(II)I" } : Jvm.MethodName) ∈ mGw := mGw_of (tV_2_595 List.mem_cons_self) (by decide +kernel)
theorem mw_626 : Jvm.Cond.instanceMethod ({ cls := "Runweaver", name := "runAt", desc := "(II)I" } : Jvm.MethodName) ∈ mGw := mGw_of (tV_2_596 List.mem_cons_self) (by decide +kernel)
theorem mw_627 : Jvm.Cond.selects "Runweaver" ({ cls := "Runweaver", name := "runAt", desc := "(II)I" } : Jvm.MethodName) ({ cls := "Runweaver", name := "runAt", desc := "(II)I" } : Jvm.MethodName) ∈ mGw := mGw_of (tV_2_597 List.mem_cons_self) (by decide +kernel)
theorem mw_628 : Jvm.Cond.code ({ cls := "Runweaver", name := "runAt", desc := "(II)I" } : Jvm.MethodName) prog_1_method_24_code (4 : Nat) (Option.some Jvm.ClassFile.FieldType.int) ∈ mGw := mGw_of (tV_2_598 List.mem_cons_self) (by decide +kernel)
theorem mw_629 : Jvm.Cond.methodLink "Runweaver" (147 : Nat) ({ cls := "Runweaver$Row", name := "endOfRun", desc := "(I)I" } : Jvm.MethodName) ∈ mGw := mGw_of (tV_2_599 List.mem_cons_self) (by decide +kernel)
theorem mw_630 : Jvm.Cond.instanceMethod ({ cls := "Runweaver$Row", name := "endOfRun", desc := "(I)I" } : Jvm.MethodName) ∈ mGw := mGw_of (tV_2_600 List.mem_cons_self) (by decide +kernel)
theorem mw_631 : Jvm.Cond.selects "Runweaver$Row" ({ cls := "Runweaver$Row", name := "endOfRun", desc := "(I)I" } : Jvm.MethodName) ({ cls := "Runweaver$Row", name := "endOfRun", desc := "(I)I" } : Jvm.MethodName) ∈ mGw := mGw_of (tV_2_601 List.mem_cons_self) (by decide +kernel)
theorem mw_632 : Jvm.Cond.code ({ cls := "Runweaver$Row", name := "endOfRun", desc := "(I)I" } : Jvm.MethodName) prog_3_method_20_code (3 : Nat) (Option.some Jvm.ClassFile.FieldType.int) ∈ mGw := mGw_of (tV_2_602 List.mem_cons_self) (by decide +kernel)
theorem mw_633 : Jvm.Cond.methodLink "RunweaverLaw" (241 : Nat) ({ cls := "RunweaverLaw", name := "text", desc := "(LRunweaver;IIILRunweaverLaw$Out;)I" } : Jvm.MethodName) ∈ mGw := mGw_of (tV_2_603 List.mem_cons_self) (by decide +kernel)
theorem mw_634 : Jvm.Cond.static ({ cls := "RunweaverLaw", name := "text", desc := "(LRunweaver;IIILRunweaverLaw$Out;)I" } : Jvm.MethodName) ∈ mGw := mGw_of (tV_2_604 List.mem_cons_self) (by decide +kernel)
theorem mw_635 : Jvm.Cond.codeWith ({ cls := "RunweaverLaw", name := "text", desc := "(LRunweaver;IIILRunweaverLaw$Out;)I" } : Jvm.MethodName) method_25_code (6 : Nat) (Option.some Jvm.ClassFile.FieldType.int) [((0 : Nat), (12 : Nat), (15 : Nat), (19 : Nat)), ((0 : Nat), (12 : Nat), (19 : Nat), (21 : Nat))] ∈ mGw := mGw_of (tV_2_605 List.mem_cons_self) (by decide +kernel)
theorem mw_636 : Jvm.Cond.methodLink "RunweaverLaw" (92 : Nat) ({ cls := "Runweaver", name := "text", desc := "(III)Ljava/lang/String;" } : Jvm.MethodName) ∈ mGw := mGw_of (tV_2_606 List.mem_cons_self) (by decide +kernel)
theorem mw_637 : Jvm.Cond.instanceMethod ({ cls := "Runweaver", name := "text", desc := "(III)Ljava/lang/String;" } : Jvm.MethodName) ∈ mGw := mGw_of (tV_2_607 List.mem_cons_self) (by decide +kernel)
theorem mw_638 : Jvm.Cond.selects "Runweaver" ({ cls := "Runweaver", name := "text", desc := "(III)Ljava/lang/String;" } : Jvm.MethodName) ({ cls := "Runweaver", name := "text", desc := "(III)Ljava/lang/String;" } : Jvm.MethodName) ∈ mGw := mGw_of (tV_2_608 List.mem_cons_self) (by decide +kernel)
theorem mw_639 : Jvm.Cond.code ({ cls := "Runweaver", name := "text", desc := "(III)Ljava/lang/String;" } : Jvm.MethodName) prog_1_method_25_code (8 : Nat) (Option.some (Jvm.ClassFile.FieldType.object "java/lang/String")) ∈ mGw := mGw_of (tV_2_609 List.mem_cons_self) (by decide +kernel)
theorem mw_640 : Jvm.Cond.classLink "Runweaver" (156 : Nat) "java/lang/StringBuilder" ∈ mGw := mGw_of (tV_2_610 List.mem_cons_self) (by decide +kernel)
theorem mw_641 : Jvm.Cond.instantiable "java/lang/StringBuilder" (4 : Nat) ∈ mGw := mGw_of (tV_2_611 List.mem_cons_self) (by decide +kernel)
theorem mw_642 : Jvm.Cond.methodLink "Runweaver" (158 : Nat) ({ cls := "java/lang/StringBuilder", name := "<init>", desc := "()V" } : Jvm.MethodName) ∈ mGw := mGw_of (tV_2_612 List.mem_cons_self) (by decide +kernel)
theorem mw_643 : Jvm.Cond.instanceMethod ({ cls := "java/lang/StringBuilder", name := "<init>", desc := "()V" } : Jvm.MethodName) ∈ mGw := mGw_of (tV_2_613 List.mem_cons_self) (by decide +kernel)
theorem mw_644 : Jvm.Cond.code ({ cls := "java/lang/StringBuilder", name := "<init>", desc := "()V" } : Jvm.MethodName) prog_16_method_1_code (1 : Nat) (Option.none : Option Jvm.ClassFile.FieldType) ∈ mGw := mGw_of (tV_2_614 List.mem_cons_self) (by decide +kernel)
theorem mw_645 : Jvm.Cond.methodLink "java/lang/StringBuilder" (1 : Nat) ({ cls := "java/lang/AbstractStringBuilder", name := "<init>", desc := "(I)V" } : Jvm.MethodName) ∈ mGw := mGw_of (tV_2_615 List.mem_cons_self) (by decide +kernel)
theorem mw_646 : Jvm.Cond.instanceMethod ({ cls := "java/lang/AbstractStringBuilder", name := "<init>", desc := "(I)V" } : Jvm.MethodName) ∈ mGw := mGw_of (tV_2_616 List.mem_cons_self) (by decide +kernel)
theorem mw_647 : Jvm.Cond.code ({ cls := "java/lang/AbstractStringBuilder", name := "<init>", desc := "(I)V" } : Jvm.MethodName) prog_7_method_2_code (2 : Nat) (Option.none : Option Jvm.ClassFile.FieldType) ∈ mGw := mGw_of (tV_2_617 List.mem_cons_self) (by decide +kernel)
theorem mw_648 : Jvm.Cond.methodLink "java/lang/AbstractStringBuilder" (3 : Nat) ({ cls := "java/lang/Object", name := "<init>", desc := "()V" } : Jvm.MethodName) ∈ mGw := mGw_of (tV_2_618 List.mem_cons_self) (by decide +kernel)
theorem mw_649 : Jvm.Cond.fieldLink "java/lang/AbstractStringBuilder" (18 : Nat) "java/lang/String" "COMPACT_STRINGS" "Z" ∈ mGw := mGw_of (tV_2_619 List.mem_cons_self) (by decide +kernel)
theorem mw_651 : Jvm.Cond.methodLink "java/lang/AbstractStringBuilder" (26 : Nat) ({ cls := "java/lang/StringUTF16", name := "newBytesFor", desc := "(I)[B" } : Jvm.MethodName) ∈ mGw := mGw_of (tV_2_621 List.mem_cons_self) (by decide +kernel)
theorem mw_652 : Jvm.Cond.static ({ cls := "java/lang/StringUTF16", name := "newBytesFor", desc := "(I)[B" } : Jvm.MethodName) ∈ mGw := mGw_of (tV_2_622 List.mem_cons_self) (by decide +kernel)
theorem mw_653 : Jvm.Cond.code ({ cls := "java/lang/StringUTF16", name := "newBytesFor", desc := "(I)[B" } : Jvm.MethodName) prog_18_method_2_code (1 : Nat) (Option.some (Jvm.ClassFile.FieldType.array Jvm.ClassFile.FieldType.byte)) ∈ mGw := mGw_of (tV_2_623 List.mem_cons_self) (by decide +kernel)
theorem mw_654 : Jvm.Cond.methodLink "java/lang/StringUTF16" (11 : Nat) ({ cls := "java/lang/StringUTF16", name := "newBytesLength", desc := "(I)I" } : Jvm.MethodName) ∈ mGw := mGw_of (tV_2_624 List.mem_cons_self) (by decide +kernel)
theorem mw_655 : Jvm.Cond.static ({ cls := "java/lang/StringUTF16", name := "newBytesLength", desc := "(I)I" } : Jvm.MethodName) ∈ mGw := mGw_of (tV_2_625 List.mem_cons_self) (by decide +kernel)
theorem mw_656 : Jvm.Cond.code ({ cls := "java/lang/StringUTF16", name := "newBytesLength", desc := "(I)I" } : Jvm.MethodName) prog_18_method_3_code (1 : Nat) (Option.some Jvm.ClassFile.FieldType.int) ∈ mGw := mGw_of (tV_2_626 List.mem_cons_self) (by decide +kernel)
theorem mw_657 : Jvm.Cond.constant "java/lang/StringUTF16" (20 : Nat) (1073741823 : Int32) ∈ mGw := mGw_of (tV_2_627 List.mem_cons_self) (by decide +kernel)
theorem mw_658 : Jvm.Cond.fieldLink "java/lang/AbstractStringBuilder" (15 : Nat) "java/lang/AbstractStringBuilder" "value" "[B" ∈ mGw := mGw_of (tV_2_628 List.mem_cons_self) (by decide +kernel)
theorem mw_659 : Jvm.Cond.fieldLink "java/lang/AbstractStringBuilder" (22 : Nat) "java/lang/AbstractStringBuilder" "coder" "B" ∈ mGw := mGw_of (tV_2_629 List.mem_cons_self) (by decide +kernel)
theorem mw_660 : Jvm.Cond.fieldLink "java/lang/String" (1048 : Nat) "java/lang/AbstractStringBuilder" "maybeLatin1" "Z" ∈ mGw := mGw_of (tV_2_630 List.mem_cons_self) (by decide +kernel)
theorem mw_661 : Jvm.Cond.fieldLink "java/lang/AbstractStringBuilder" (79 : Nat) "java/lang/AbstractStringBuilder" "count" "I" ∈ mGw := mGw_of (tV_2_631 List.mem_cons_self) (by decide +kernel)
theorem mw_670 : Jvm.Cond.superclass "java/lang/StringBuilder" "java/lang/AbstractStringBuilder" ∈ mGw := mGw_of (tV_2_640 List.mem_cons_self) (by decide +kernel)
theorem mw_671 : Jvm.Cond.methodLink "Runweaver" (159 : Nat) ({ cls := "java/lang/StringBuilder", name := "append", desc := "(C)Ljava/lang/StringBuilder;" } : Jvm.MethodName) ∈ mGw := mGw_of (tV_2_641 List.mem_cons_self) (by decide +kernel)
theorem mw_672 : Jvm.Cond.instanceMethod ({ cls := "java/lang/StringBuilder", name := "append", desc := "(C)Ljava/lang/StringBuilder;" } : Jvm.MethodName) ∈ mGw := mGw_of (tV_2_642 List.mem_cons_self) (by decide +kernel)
theorem mw_673 : Jvm.Cond.selects "java/lang/StringBuilder" ({ cls := "java/lang/StringBuilder", name := "append", desc := "(C)Ljava/lang/StringBuilder;" } : Jvm.MethodName) ({ cls := "java/lang/StringBuilder", name := "append", desc := "(C)Ljava/lang/StringBuilder;" } : Jvm.MethodName) ∈ mGw := mGw_of (tV_2_643 List.mem_cons_self) (by decide +kernel)
theorem mw_674 : Jvm.Cond.code ({ cls := "java/lang/StringBuilder", name := "append", desc := "(C)Ljava/lang/StringBuilder;" } : Jvm.MethodName) prog_16_method_14_code (2 : Nat) (Option.some (Jvm.ClassFile.FieldType.object "java/lang/StringBuilder")) ∈ mGw := mGw_of (tV_2_644 List.mem_cons_self) (by decide +kernel)
theorem mw_675 : Jvm.Cond.methodLink "java/lang/StringBuilder" (50 : Nat) ({ cls := "java/lang/AbstractStringBuilder", name := "append", desc := "(C)Ljava/lang/AbstractStringBuilder;" } : Jvm.MethodName) ∈ mGw := mGw_of (tV_2_645 List.mem_cons_self) (by decide +kernel)
theorem mw_676 : Jvm.Cond.instanceMethod ({ cls := "java/lang/AbstractStringBuilder", name := "append", desc := "(C)Ljava/lang/AbstractStringBuilder;" } : Jvm.MethodName) ∈ mGw := mGw_of (tV_2_646 List.mem_cons_self) (by decide +kernel)
theorem mw_677 : Jvm.Cond.code ({ cls := "java/lang/AbstractStringBuilder", name := "append", desc := "(C)Ljava/lang/AbstractStringBuilder;" } : Jvm.MethodName) prog_7_method_31_code (2 : Nat) (Option.some (Jvm.ClassFile.FieldType.object "java/lang/AbstractStringBuilder")) ∈ mGw := mGw_of (tV_2_647 List.mem_cons_self) (by decide +kernel)
theorem mw_678 : Jvm.Cond.methodLink "java/lang/AbstractStringBuilder" (100 : Nat) ({ cls := "java/lang/AbstractStringBuilder", name := "ensureCapacityInternal", desc := "(I)V" } : Jvm.MethodName) ∈ mGw := mGw_of (tV_2_648 List.mem_cons_self) (by decide +kernel)
theorem mw_680 : Jvm.Cond.instanceMethod ({ cls := "java/lang/AbstractStringBuilder", name := "ensureCapacityInternal", desc := "(I)V" } : Jvm.MethodName) ∈ mGw := mGw_of (tV_2_650 List.mem_cons_self) (by decide +kernel)
theorem mw_681 : Jvm.Cond.code ({ cls := "java/lang/AbstractStringBuilder", name := "ensureCapacityInternal", desc := "(I)V" } : Jvm.MethodName) prog_7_method_9_code (3 : Nat) (Option.none : Option Jvm.ClassFile.FieldType) ∈ mGw := mGw_of (tV_2_651 List.mem_cons_self) (by decide +kernel)
theorem mw_682 : Jvm.Cond.methodLink "java/lang/AbstractStringBuilder" (104 : Nat) ({ cls := "java/lang/AbstractStringBuilder", name := "newCapacity", desc := "(I)I" } : Jvm.MethodName) ∈ mGw := mGw_of (tV_2_652 List.mem_cons_self) (by decide +kernel)
theorem mw_684 : Jvm.Cond.instanceMethod ({ cls := "java/lang/AbstractStringBuilder", name := "newCapacity", desc := "(I)I" } : Jvm.MethodName) ∈ mGw := mGw_of (tV_2_654 List.mem_cons_self) (by decide +kernel)
theorem mw_685 : Jvm.Cond.code ({ cls := "java/lang/AbstractStringBuilder", name := "newCapacity", desc := "(I)I" } : Jvm.MethodName) prog_7_method_10_code (6 : Nat) (Option.some Jvm.ClassFile.FieldType.int) ∈ mGw := mGw_of (tV_2_655 List.mem_cons_self) (by decide +kernel)
theorem mw_686 : Jvm.Cond.methodLink "java/lang/AbstractStringBuilder" (114 : Nat) ({ cls := "jdk/internal/util/ArraysSupport", name := "newLength", desc := "(III)I" } : Jvm.MethodName) ∈ mGw := mGw_of (tV_2_656 List.mem_cons_self) (by decide +kernel)
theorem mw_687 : Jvm.Cond.static ({ cls := "jdk/internal/util/ArraysSupport", name := "newLength", desc := "(III)I" } : Jvm.MethodName) ∈ mGw := mGw_of (tV_2_657 List.mem_cons_self) (by decide +kernel)
theorem mw_688 : Jvm.Cond.code ({ cls := "jdk/internal/util/ArraysSupport", name := "newLength", desc := "(III)I" } : Jvm.MethodName) prog_22_method_27_code (4 : Nat) (Option.some Jvm.ClassFile.FieldType.int) ∈ mGw := mGw_of (tV_2_658 List.mem_cons_self) (by decide +kernel)
theorem mw_689 : Jvm.Cond.methodLink "jdk/internal/util/ArraysSupport" (194 : Nat) ({ cls := "java/lang/Math", name := "max", desc := "(II)I" } : Jvm.MethodName) ∈ mGw := mGw_of (tV_2_659 List.mem_cons_self) (by decide +kernel)
theorem mw_690 : Jvm.Cond.constant "jdk/internal/util/ArraysSupport" (200 : Nat) (2147483639 : Int32) ∈ mGw := mGw_of (tV_2_660 List.mem_cons_self) (by decide +kernel)
theorem mw_691 : Jvm.Cond.methodLink "jdk/internal/util/ArraysSupport" (201 : Nat) ({ cls := "jdk/internal/util/ArraysSupport", name := "hugeLength", desc := "(II)I" } : Jvm.MethodName) ∈ mGw := mGw_of (tV_2_661 List.mem_cons_self) (by decide +kernel)
theorem mw_692 : Jvm.Cond.static ({ cls := "jdk/internal/util/ArraysSupport", name := "hugeLength", desc := "(II)I" } : Jvm.MethodName) ∈ mGw := mGw_of (tV_2_662 List.mem_cons_self) (by decide +kernel)
theorem mw_693 : Jvm.Cond.code ({ cls := "jdk/internal/util/ArraysSupport", name := "hugeLength", desc := "(II)I" } : Jvm.MethodName) prog_22_method_28_code (3 : Nat) (Option.some Jvm.ClassFile.FieldType.int) ∈ mGw := mGw_of (tV_2_663 List.mem_cons_self) (by decide +kernel)
theorem mw_694 : Jvm.Cond.constant "java/lang/AbstractStringBuilder" (39 : Nat) (2147483647 : Int32) ∈ mGw := mGw_of (tV_2_664 List.mem_cons_self) (by decide +kernel)
theorem mw_695 : Jvm.Cond.methodLink "java/lang/AbstractStringBuilder" (108 : Nat) ({ cls := "java/util/Arrays", name := "copyOf", desc := "([BI)[B" } : Jvm.MethodName) ∈ mGw := mGw_of (tV_2_665 List.mem_cons_self) (by decide +kernel)
theorem mw_696 : Jvm.Cond.static ({ cls := "java/util/Arrays", name := "copyOf", desc := "([BI)[B" } : Jvm.MethodName) ∈ mGw := mGw_of (tV_2_666 List.mem_cons_self) (by decide +kernel)
theorem mw_697 : Jvm.Cond.code ({ cls := "java/util/Arrays", name := "copyOf", desc := "([BI)[B" } : Jvm.MethodName) prog_21_method_121_code (3 : Nat) (Option.some (Jvm.ClassFile.FieldType.array Jvm.ClassFile.FieldType.byte)) ∈ mGw := mGw_of (tV_2_667 List.mem_cons_self) (by decide +kernel)
theorem mw_698 : Jvm.Cond.methodLink "java/util/Arrays" (310 : Nat) ({ cls := "[B", name := "clone", desc := "()Ljava/lang/Object;" } : Jvm.MethodName) ∈ mGw := mGw_of (tV_2_668 List.mem_cons_self) (by decide +kernel)
theorem mw_699 : Jvm.Cond.sameMethod "[B" "java/lang/Object" "clone" "()Ljava/lang/Object;" ∈ mGw := mGw_of (tV_2_669 List.mem_cons_self) (by decide +kernel)
theorem mw_700 : Jvm.Cond.native ({ cls := "java/lang/Object", name := "clone", desc := "()Ljava/lang/Object;" } : Jvm.MethodName) ∈ mGw := mGw_of (tV_2_670 List.mem_cons_self) (by decide +kernel)
theorem mw_701 : Jvm.Cond.instanceMethod ({ cls := "java/lang/Object", name := "clone", desc := "()Ljava/lang/Object;" } : Jvm.MethodName) ∈ mGw := mGw_of (tV_2_671 List.mem_cons_self) (by decide +kernel)
theorem mw_702 : Jvm.Cond.selects "[B" ({ cls := "[B", name := "clone", desc := "()Ljava/lang/Object;" } : Jvm.MethodName) ({ cls := "java/lang/Object", name := "clone", desc := "()Ljava/lang/Object;" } : Jvm.MethodName) ∈ mGw := mGw_of (tV_2_672 List.mem_cons_self) (by decide +kernel)
theorem mw_703 : Jvm.Cond.castable "[B" "java/lang/Cloneable" ∈ mNw := List.mem_filter.mpr ⟨tV_2_673 List.mem_cons_self, rfl⟩
theorem mw_704 : Jvm.Cond.classLink "java/util/Arrays" (311 : Nat) "[B" ∈ mGw := mGw_of (tV_2_674 List.mem_cons_self) (by decide +kernel)
theorem mw_705 : Jvm.Cond.methodLink "java/util/Arrays" (304 : Nat) ({ cls := "java/lang/Math", name := "min", desc := "(II)I" } : Jvm.MethodName) ∈ mGw := mGw_of (tV_2_675 List.mem_cons_self) (by decide +kernel)
theorem mw_706 : Jvm.Cond.methodLink "java/util/Arrays" (150 : Nat) ({ cls := "java/lang/System", name := "arraycopy", desc := "(Ljava/lang/Object;ILjava/lang/Object;II)V" } : Jvm.MethodName) ∈ mGw := mGw_of (tV_2_676 List.mem_cons_self) (by decide +kernel)
theorem mw_707 : Jvm.Cond.methodLink "java/lang/AbstractStringBuilder" (83 : Nat) ({ cls := "java/lang/AbstractStringBuilder", name := "isLatin1", desc := "()Z" } : Jvm.MethodName) ∈ mGw := mGw_of (tV_2_677 List.mem_cons_self) (by decide +kernel)
theorem mw_708 : Jvm.Cond.instanceMethod ({ cls := "java/lang/AbstractStringBuilder", name := "isLatin1", desc := "()Z" } : Jvm.MethodName) ∈ mGw := mGw_of (tV_2_678 List.mem_cons_self) (by decide +kernel)
theorem mw_709 : Jvm.Cond.sameMethod "java/lang/AbstractStringBuilder" "java/lang/AbstractStringBuilder" "isLatin1" "()Z" ∈ mGw := mGw_of (tV_2_679 List.mem_cons_self) (by decide +kernel)
theorem mw_710 : Jvm.Cond.selects "java/lang/StringBuilder" ({ cls := "java/lang/AbstractStringBuilder", name := "isLatin1", desc := "()Z" } : Jvm.MethodName) ({ cls := "java/lang/AbstractStringBuilder", name := "isLatin1", desc := "()Z" } : Jvm.MethodName) ∈ mGw := mGw_of (tV_2_680 List.mem_cons_self) (by decide +kernel)
theorem mw_711 : Jvm.Cond.code ({ cls := "java/lang/AbstractStringBuilder", name := "isLatin1", desc := "()Z" } : Jvm.MethodName) prog_7_method_68_code (1 : Nat) (Option.some Jvm.ClassFile.FieldType.boolean) ∈ mGw := mGw_of (tV_2_681 List.mem_cons_self) (by decide +kernel)
theorem mw_712 : Jvm.Cond.methodLink "java/lang/AbstractStringBuilder" (191 : Nat) ({ cls := "java/lang/StringLatin1", name := "canEncode", desc := "(C)Z" } : Jvm.MethodName) ∈ mGw := mGw_of (tV_2_682 List.mem_cons_self) (by decide +kernel)
theorem mw_713 : Jvm.Cond.static ({ cls := "java/lang/StringLatin1", name := "canEncode", desc := "(C)Z" } : Jvm.MethodName) ∈ mGw := mGw_of (tV_2_683 List.mem_cons_self) (by decide +kernel)
theorem mw_714 : Jvm.Cond.code ({ cls := "java/lang/StringLatin1", name := "canEncode", desc := "(C)Z" } : Jvm.MethodName) prog_17_method_3_code (1 : Nat) (Option.some Jvm.ClassFile.FieldType.boolean) ∈ mGw := mGw_of (tV_2_684 List.mem_cons_self) (by decide +kernel)
theorem mw_715 : Jvm.Cond.methodLink "java/lang/AbstractStringBuilder" (195 : Nat) ({ cls := "java/lang/AbstractStringBuilder", name := "inflate", desc := "()V" } : Jvm.MethodName) ∈ mGw := mGw_of (tV_2_685 List.mem_cons_self) (by decide +kernel)
theorem mw_717 : Jvm.Cond.instanceMethod ({ cls := "java/lang/AbstractStringBuilder", name := "inflate", desc := "()V" } : Jvm.MethodName) ∈ mGw := mGw_of (tV_2_687 List.mem_cons_self) (by decide +kernel)
theorem mw_718 : Jvm.Cond.code ({ cls := "java/lang/AbstractStringBuilder", name := "inflate", desc := "()V" } : Jvm.MethodName) prog_7_method_11_code (2 : Nat) (Option.none : Option Jvm.ClassFile.FieldType) ∈ mGw := mGw_of (tV_2_688 List.mem_cons_self) (by decide +kernel)
theorem mw_719 : Jvm.Cond.methodLink "java/lang/AbstractStringBuilder" (125 : Nat) ({ cls := "java/lang/StringLatin1", name := "inflate", desc := "([BI[BII)V" } : Jvm.MethodName) ∈ mGw := mGw_of (tV_2_689 List.mem_cons_self) (by decide +kernel)
theorem mw_720 : Jvm.Cond.static ({ cls := "java/lang/StringLatin1", name := "inflate", desc := "([BI[BII)V" } : Jvm.MethodName) ∈ mGw := mGw_of (tV_2_690 List.mem_cons_self) (by decide +kernel)
theorem mw_721 : Jvm.Cond.code ({ cls := "java/lang/StringLatin1", name := "inflate", desc := "([BI[BII)V" } : Jvm.MethodName) prog_17_method_50_code (5 : Nat) (Option.none : Option Jvm.ClassFile.FieldType) ∈ mGw := mGw_of (tV_2_691 List.mem_cons_self) (by decide +kernel)
theorem mw_722 : Jvm.Cond.methodLink "java/lang/StringLatin1" (240 : Nat) ({ cls := "java/lang/StringUTF16", name := "inflate", desc := "([BI[BII)V" } : Jvm.MethodName) ∈ mGw := mGw_of (tV_2_692 List.mem_cons_self) (by decide +kernel)
theorem mw_723 : Jvm.Cond.static ({ cls := "java/lang/StringUTF16", name := "inflate", desc := "([BI[BII)V" } : Jvm.MethodName) ∈ mGw := mGw_of (tV_2_693 List.mem_cons_self) (by decide +kernel)
theorem mw_724 : Jvm.Cond.code ({ cls := "java/lang/StringUTF16", name := "inflate", desc := "([BI[BII)V" } : Jvm.MethodName) prog_18_method_86_code (6 : Nat) (Option.none : Option Jvm.ClassFile.FieldType) ∈ mGw := mGw_of (tV_2_694 List.mem_cons_self) (by decide +kernel)
theorem mw_725 : Jvm.Cond.methodLink "java/lang/StringUTF16" (173 : Nat) ({ cls := "java/lang/StringUTF16", name := "checkBoundsOffCount", desc := "(II[B)V" } : Jvm.MethodName) ∈ mGw := mGw_of (tV_2_695 List.mem_cons_self) (by decide +kernel)
theorem mw_726 : Jvm.Cond.static ({ cls := "java/lang/StringUTF16", name := "checkBoundsOffCount", desc := "(II[B)V" } : Jvm.MethodName) ∈ mGw := mGw_of (tV_2_696 List.mem_cons_self) (by decide +kernel)
theorem mw_727 : Jvm.Cond.code ({ cls := "java/lang/StringUTF16", name := "checkBoundsOffCount", desc := "(II[B)V" } : Jvm.MethodName) prog_18_method_94_code (3 : Nat) (Option.none : Option Jvm.ClassFile.FieldType) ∈ mGw := mGw_of (tV_2_697 List.mem_cons_self) (by decide +kernel)
theorem mw_728 : Jvm.Cond.methodLink "java/lang/StringUTF16" (48 : Nat) ({ cls := "java/lang/StringUTF16", name := "length", desc := "([B)I" } : Jvm.MethodName) ∈ mGw := mGw_of (tV_2_698 List.mem_cons_self) (by decide +kernel)
theorem mw_729 : Jvm.Cond.static ({ cls := "java/lang/StringUTF16", name := "length", desc := "([B)I" } : Jvm.MethodName) ∈ mGw := mGw_of (tV_2_699 List.mem_cons_self) (by decide +kernel)
theorem mw_730 : Jvm.Cond.code ({ cls := "java/lang/StringUTF16", name := "length", desc := "([B)I" } : Jvm.MethodName) prog_18_method_6_code (1 : Nat) (Option.some Jvm.ClassFile.FieldType.int) ∈ mGw := mGw_of (tV_2_700 List.mem_cons_self) (by decide +kernel)
theorem mw_731 : Jvm.Cond.methodLink "java/lang/StringUTF16" (419 : Nat) ({ cls := "java/lang/String", name := "checkBoundsOffCount", desc := "(III)I" } : Jvm.MethodName) ∈ mGw := mGw_of (tV_2_701 List.mem_cons_self) (by decide +kernel)
theorem mw_732 : Jvm.Cond.static ({ cls := "java/lang/String", name := "checkBoundsOffCount", desc := "(III)I" } : Jvm.MethodName) ∈ mGw := mGw_of (tV_2_702 List.mem_cons_self) (by decide +kernel)
theorem mw_733 : Jvm.Cond.code ({ cls := "java/lang/String", name := "checkBoundsOffCount", desc := "(III)I" } : Jvm.MethodName) prog_15_method_157_code (3 : Nat) (Option.some Jvm.ClassFile.FieldType.int) ∈ mGw := mGw_of (tV_2_703 List.mem_cons_self) (by decide +kernel)
theorem mw_734 : Jvm.Cond.fieldLink "java/lang/String" (1053 : Nat) "jdk/internal/util/Preconditions" "SIOOBE_FORMATTER" "Ljava/util/function/BiFunction;" ∈ mGw := mGw_of (tV_2_704 List.mem_cons_self) (by decide +kernel)
theorem mw_736 : Jvm.Cond.methodLink "java/lang/String" (1065 : Nat) ({ cls := "jdk/internal/util/Preconditions", name := "checkFromIndexSize", desc := "(IIILjava/util/function/BiFunction;)I" } : Jvm.MethodName) ∈ mGw := mGw_of (tV_2_706 List.mem_cons_self) (by decide +kernel)
theorem mw_737 : Jvm.Cond.static ({ cls := "jdk/internal/util/Preconditions", name := "checkFromIndexSize", desc := "(IIILjava/util/function/BiFunction;)I" } : Jvm.MethodName) ∈ mGw := mGw_of (tV_2_707 List.mem_cons_self) (by decide +kernel)
theorem mw_738 : Jvm.Cond.code ({ cls := "jdk/internal/util/Preconditions", name := "checkFromIndexSize", desc := "(IIILjava/util/function/BiFunction;)I" } : Jvm.MethodName) prog_23_method_13_code (4 : Nat) (Option.some Jvm.ClassFile.FieldType.int) ∈ mGw := mGw_of (tV_2_708 List.mem_cons_self) (by decide +kernel)
theorem mw_739 : Jvm.Cond.methodLink "java/lang/StringUTF16" (111 : Nat) ({ cls := "java/lang/StringUTF16", name := "putChar", desc := "([BII)V" } : Jvm.MethodName) ∈ mGw := mGw_of (tV_2_709 List.mem_cons_self) (by decide +kernel)
theorem mw_740 : Jvm.Cond.static ({ cls := "java/lang/StringUTF16", name := "putChar", desc := "([BII)V" } : Jvm.MethodName) ∈ mGw := mGw_of (tV_2_710 List.mem_cons_self) (by decide +kernel)
theorem mw_741 : Jvm.Cond.code ({ cls := "java/lang/StringUTF16", name := "putChar", desc := "([BII)V" } : Jvm.MethodName) prog_18_method_4_code (3 : Nat) (Option.none : Option Jvm.ClassFile.FieldType) ∈ mGw := mGw_of (tV_2_711 List.mem_cons_self) (by decide +kernel)
theorem mw_742 : Jvm.Cond.fieldLink "java/lang/StringUTF16" (44 : Nat) "java/lang/StringUTF16" "$assertionsDisabled" "Z" ∈ mGw := mGw_of (tV_2_712 List.mem_cons_self) (by decide +kernel)
theorem mw_744 : Jvm.Cond.fieldLink "java/lang/StringUTF16" (59 : Nat) "java/lang/StringUTF16" "HI_BYTE_SHIFT" "I" ∈ mGw := mGw_of (tV_2_714 List.mem_cons_self) (by decide +kernel)
theorem mw_746 : Jvm.Cond.fieldLink "java/lang/StringUTF16" (63 : Nat) "java/lang/StringUTF16" "LO_BYTE_SHIFT" "I" ∈ mGw := mGw_of (tV_2_716 List.mem_cons_self) (by decide +kernel)
theorem mw_748 : Jvm.Cond.methodLink "java/lang/AbstractStringBuilder" (197 : Nat) ({ cls := "java/lang/StringUTF16", name := "putCharSB", desc := "([BII)V" } : Jvm.MethodName) ∈ mGw := mGw_of (tV_2_718 List.mem_cons_self) (by decide +kernel)
theorem mw_749 : Jvm.Cond.static ({ cls := "java/lang/StringUTF16", name := "putCharSB", desc := "([BII)V" } : Jvm.MethodName) ∈ mGw := mGw_of (tV_2_719 List.mem_cons_self) (by decide +kernel)
theorem mw_750 : Jvm.Cond.code ({ cls := "java/lang/StringUTF16", name := "putCharSB", desc := "([BII)V" } : Jvm.MethodName) prog_18_method_71_code (3 : Nat) (Option.none : Option Jvm.ClassFile.FieldType) ∈ mGw := mGw_of (tV_3_720 List.mem_cons_self) (by decide +kernel)
theorem mw_751 : Jvm.Cond.methodLink "java/lang/StringUTF16" (67 : Nat) ({ cls := "java/lang/StringUTF16", name := "checkIndex", desc := "(I[B)V" } : Jvm.MethodName) ∈ mGw := mGw_of (tV_3_721 List.mem_cons_self) (by decide +kernel)
theorem mw_752 : Jvm.Cond.static ({ cls := "java/lang/StringUTF16", name := "checkIndex", desc := "(I[B)V" } : Jvm.MethodName) ∈ mGw := mGw_of (tV_3_722 List.mem_cons_self) (by decide +kernel)
theorem mw_753 : Jvm.Cond.code ({ cls := "java/lang/StringUTF16", name := "checkIndex", desc := "(I[B)V" } : Jvm.MethodName) prog_18_method_91_code (2 : Nat) (Option.none : Option Jvm.ClassFile.FieldType) ∈ mGw := mGw_of (tV_3_723 List.mem_cons_self) (by decide +kernel)
theorem mw_754 : Jvm.Cond.methodLink "java/lang/StringUTF16" (414 : Nat) ({ cls := "java/lang/String", name := "checkIndex", desc := "(II)V" } : Jvm.MethodName) ∈ mGw := mGw_of (tV_3_724 List.mem_cons_self) (by decide +kernel)
theorem mw_755 : Jvm.Cond.static ({ cls := "java/lang/String", name := "checkIndex", desc := "(II)V" } : Jvm.MethodName) ∈ mGw := mGw_of (tV_3_725 List.mem_cons_self) (by decide +kernel)
theorem mw_756 : Jvm.Cond.code ({ cls := "java/lang/String", name := "checkIndex", desc := "(II)V" } : Jvm.MethodName) prog_15_method_155_code (2 : Nat) (Option.none : Option Jvm.ClassFile.FieldType) ∈ mGw := mGw_of (tV_3_726 List.mem_cons_self) (by decide +kernel)
theorem mw_757 : Jvm.Cond.methodLink "java/lang/String" (1059 : Nat) ({ cls := "jdk/internal/util/Preconditions", name := "checkIndex", desc := "(IILjava/util/function/BiFunction;)I" } : Jvm.MethodName) ∈ mGw := mGw_of (tV_3_727 List.mem_cons_self) (by decide +kernel)
theorem mw_758 : Jvm.Cond.static ({ cls := "jdk/internal/util/Preconditions", name := "checkIndex", desc := "(IILjava/util/function/BiFunction;)I" } : Jvm.MethodName) ∈ mGw := mGw_of (tV_3_728 List.mem_cons_self) (by decide +kernel)
theorem mw_759 : Jvm.Cond.code ({ cls := "jdk/internal/util/Preconditions", name := "checkIndex", desc := "(IILjava/util/function/BiFunction;)I" } : Jvm.MethodName) prog_23_method_11_code (3 : Nat) (Option.some Jvm.ClassFile.FieldType.int) ∈ mGw := mGw_of (tV_3_729 List.mem_cons_self) (by decide +kernel)
theorem mw_760 : Jvm.Cond.methodLink "Runweaver" (162 : Nat) ({ cls := "java/lang/StringBuilder", name := "append", desc := "(I)Ljava/lang/StringBuilder;" } : Jvm.MethodName) ∈ mGw := mGw_of (tV_3_730 List.mem_cons_self) (by decide +kernel)
theorem mw_761 : Jvm.Cond.instanceMethod ({ cls := "java/lang/StringBuilder", name := "append", desc := "(I)Ljava/lang/StringBuilder;" } : Jvm.MethodName) ∈ mGw := mGw_of (tV_3_731 List.mem_cons_self) (by decide +kernel)
theorem mw_762 : Jvm.Cond.selects "java/lang/StringBuilder" ({ cls := "java/lang/StringBuilder", name := "append", desc := "(I)Ljava/lang/StringBuilder;" } : Jvm.MethodName) ({ cls := "java/lang/StringBuilder", name := "append", desc := "(I)Ljava/lang/StringBuilder;" } : Jvm.MethodName) ∈ mGw := mGw_of (tV_3_732 List.mem_cons_self) (by decide +kernel)
theorem mw_763 : Jvm.Cond.code ({ cls := "java/lang/StringBuilder", name := "append", desc := "(I)Ljava/lang/StringBuilder;" } : Jvm.MethodName) prog_16_method_15_code (2 : Nat) (Option.some (Jvm.ClassFile.FieldType.object "java/lang/StringBuilder")) ∈ mGw := mGw_of (tV_3_733 List.mem_cons_self) (by decide +kernel)
theorem mw_764 : Jvm.Cond.methodLink "java/lang/StringBuilder" (53 : Nat) ({ cls := "java/lang/AbstractStringBuilder", name := "append", desc := "(I)Ljava/lang/AbstractStringBuilder;" } : Jvm.MethodName) ∈ mGw := mGw_of (tV_3_734 List.mem_cons_self) (by decide +kernel)
theorem mw_765 : Jvm.Cond.instanceMethod ({ cls := "java/lang/AbstractStringBuilder", name := "append", desc := "(I)Ljava/lang/AbstractStringBuilder;" } : Jvm.MethodName) ∈ mGw := mGw_of (tV_3_735 List.mem_cons_self) (by decide +kernel)
theorem mw_766 : Jvm.Cond.code ({ cls := "java/lang/AbstractStringBuilder", name := "append", desc := "(I)Ljava/lang/AbstractStringBuilder;" } : Jvm.MethodName) prog_7_method_32_code (4 : Nat) (Option.some (Jvm.ClassFile.FieldType.object "java/lang/AbstractStringBuilder")) ∈ mGw := mGw_of (tV_3_736 List.mem_cons_self) (by decide +kernel)
theorem mw_767 : Jvm.Cond.methodLink "java/lang/AbstractStringBuilder" (245 : Nat) ({ cls := "java/lang/Integer", name := "stringSize", desc := "(I)I" } : Jvm.MethodName) ∈ mGw := mGw_of (tV_3_737 List.mem_cons_self) (by decide +kernel)
theorem mw_768 : Jvm.Cond.static ({ cls := "java/lang/Integer", name := "stringSize", desc := "(I)I" } : Jvm.MethodName) ∈ mGw := mGw_of (tV_3_738 List.mem_cons_self) (by decide +kernel)
theorem mw_769 : Jvm.Cond.code ({ cls := "java/lang/Integer", name := "stringSize", desc := "(I)I" } : Jvm.MethodName) prog_12_method_13_code (4 : Nat) (Option.some Jvm.ClassFile.FieldType.int) ∈ mGw := mGw_of (tV_3_739 List.mem_cons_self) (by decide +kernel)
theorem mw_770 : Jvm.Cond.methodLink "java/lang/AbstractStringBuilder" (248 : Nat) ({ cls := "java/lang/Integer", name := "getChars", desc := "(II[B)I" } : Jvm.MethodName) ∈ mGw := mGw_of (tV_3_740 List.mem_cons_self) (by decide +kernel)
theorem mw_771 : Jvm.Cond.static ({ cls := "java/lang/Integer", name := "getChars", desc := "(II[B)I" } : Jvm.MethodName) ∈ mGw := mGw_of (tV_3_741 List.mem_cons_self) (by decide +kernel)
theorem mw_772 : Jvm.Cond.code ({ cls := "java/lang/Integer", name := "getChars", desc := "(II[B)I" } : Jvm.MethodName) prog_12_method_12_code (7 : Nat) (Option.some Jvm.ClassFile.FieldType.int) ∈ mGw := mGw_of (tV_3_742 List.mem_cons_self) (by decide +kernel)
theorem mw_773 : Jvm.Cond.fieldLink "java/lang/Integer" (83 : Nat) "java/lang/Integer" "DigitOnes" "[B" ∈ mGw := mGw_of (tV_3_743 List.mem_cons_self) (by decide +kernel)
theorem mw_775 : Jvm.Cond.fieldLink "java/lang/Integer" (87 : Nat) "java/lang/Integer" "DigitTens" "[B" ∈ mGw := mGw_of (tV_3_745 List.mem_cons_self) (by decide +kernel)
theorem mw_777 : Jvm.Cond.methodLink "java/lang/AbstractStringBuilder" (251 : Nat) ({ cls := "java/lang/StringUTF16", name := "getChars", desc := "(III[B)I" } : Jvm.MethodName) ∈ mGw := mGw_of (tV_3_747 List.mem_cons_self) (by decide +kernel)
theorem mw_778 : Jvm.Cond.static ({ cls := "java/lang/StringUTF16", name := "getChars", desc := "(III[B)I" } : Jvm.MethodName) ∈ mGw := mGw_of (tV_3_748 List.mem_cons_self) (by decide +kernel)
theorem mw_779 : Jvm.Cond.code ({ cls := "java/lang/StringUTF16", name := "getChars", desc := "(III[B)I" } : Jvm.MethodName) prog_18_method_77_code (5 : Nat) (Option.some Jvm.ClassFile.FieldType.int) ∈ mGw := mGw_of (tV_3_749 List.mem_cons_self) (by decide +kernel)
theorem mw_780 : Jvm.Cond.methodLink "java/lang/StringUTF16" (96 : Nat) ({ cls := "java/lang/StringUTF16", name := "checkBoundsBeginEnd", desc := "(II[B)V" } : Jvm.MethodName) ∈ mGw := mGw_of (tV_3_750 List.mem_cons_self) (by decide +kernel)
theorem mw_781 : Jvm.Cond.static ({ cls := "java/lang/StringUTF16", name := "checkBoundsBeginEnd", desc := "(II[B)V" } : Jvm.MethodName) ∈ mGw := mGw_of (tV_3_751 List.mem_cons_self) (by decide +kernel)
theorem mw_782 : Jvm.Cond.code ({ cls := "java/lang/StringUTF16", name := "checkBoundsBeginEnd", desc := "(II[B)V" } : Jvm.MethodName) prog_18_method_93_code (3 : Nat) (Option.none : Option Jvm.ClassFile.FieldType) ∈ mGw := mGw_of (tV_3_752 List.mem_cons_self) (by decide +kernel)
theorem mw_783 : Jvm.Cond.methodLink "java/lang/StringUTF16" (241 : Nat) ({ cls := "java/lang/String", name := "checkBoundsBeginEnd", desc := "(III)V" } : Jvm.MethodName) ∈ mGw := mGw_of (tV_3_753 List.mem_cons_self) (by decide +kernel)
theorem mw_784 : Jvm.Cond.static ({ cls := "java/lang/String", name := "checkBoundsBeginEnd", desc := "(III)V" } : Jvm.MethodName) ∈ mGw := mGw_of (tV_3_754 List.mem_cons_self) (by decide +kernel)
theorem mw_785 : Jvm.Cond.code ({ cls := "java/lang/String", name := "checkBoundsBeginEnd", desc := "(III)V" } : Jvm.MethodName) prog_15_method_158_code (3 : Nat) (Option.none : Option Jvm.ClassFile.FieldType) ∈ mGw := mGw_of (tV_3_755 List.mem_cons_self) (by decide +kernel)
theorem mw_786 : Jvm.Cond.methodLink "java/lang/String" (1062 : Nat) ({ cls := "jdk/internal/util/Preconditions", name := "checkFromToIndex", desc := "(IIILjava/util/function/BiFunction;)I" } : Jvm.MethodName) ∈ mGw := mGw_of (tV_3_756 List.mem_cons_self) (by decide +kernel)
theorem mw_787 : Jvm.Cond.static ({ cls := "jdk/internal/util/Preconditions", name := "checkFromToIndex", desc := "(IIILjava/util/function/BiFunction;)I" } : Jvm.MethodName) ∈ mGw := mGw_of (tV_3_757 List.mem_cons_self) (by decide +kernel)
theorem mw_788 : Jvm.Cond.code ({ cls := "jdk/internal/util/Preconditions", name := "checkFromToIndex", desc := "(IIILjava/util/function/BiFunction;)I" } : Jvm.MethodName) prog_23_method_12_code (4 : Nat) (Option.some Jvm.ClassFile.FieldType.int) ∈ mGw := mGw_of (tV_3_758 List.mem_cons_self) (by decide +kernel)
theorem mw_789 : Jvm.Cond.methodLink "java/lang/StringUTF16" (393 : Nat) ({ cls := "java/lang/StringUTF16", name := "getChars", desc := "(II[B)I" } : Jvm.MethodName) ∈ mGw := mGw_of (tV_3_759 List.mem_cons_self) (by decide +kernel)
theorem mw_790 : Jvm.Cond.static ({ cls := "java/lang/StringUTF16", name := "getChars", desc := "(II[B)I" } : Jvm.MethodName) ∈ mGw := mGw_of (tV_3_760 List.mem_cons_self) (by decide +kernel)
theorem mw_791 : Jvm.Cond.code ({ cls := "java/lang/StringUTF16", name := "getChars", desc := "(II[B)I" } : Jvm.MethodName) prog_18_method_89_code (7 : Nat) (Option.some Jvm.ClassFile.FieldType.int) ∈ mGw := mGw_of (tV_3_761 List.mem_cons_self) (by decide +kernel)
theorem mw_792 : Jvm.Cond.fieldLink "java/lang/StringUTF16" (403 : Nat) "java/lang/Integer" "DigitOnes" "[B" ∈ mGw := mGw_of (tV_3_762 List.mem_cons_self) (by decide +kernel)
theorem mw_793 : Jvm.Cond.fieldLink "java/lang/StringUTF16" (407 : Nat) "java/lang/Integer" "DigitTens" "[B" ∈ mGw := mGw_of (tV_3_763 List.mem_cons_self) (by decide +kernel)
theorem mw_794 : Jvm.Cond.methodLink "Runweaver" (165 : Nat) ({ cls := "java/lang/StringBuilder", name := "toString", desc := "()Ljava/lang/String;" } : Jvm.MethodName) ∈ mGw := mGw_of (tV_3_764 List.mem_cons_self) (by decide +kernel)
theorem mw_795 : Jvm.Cond.instanceMethod ({ cls := "java/lang/StringBuilder", name := "toString", desc := "()Ljava/lang/String;" } : Jvm.MethodName) ∈ mGw := mGw_of (tV_3_765 List.mem_cons_self) (by decide +kernel)
theorem mw_796 : Jvm.Cond.selects "java/lang/StringBuilder" ({ cls := "java/lang/StringBuilder", name := "toString", desc := "()Ljava/lang/String;" } : Jvm.MethodName) ({ cls := "java/lang/StringBuilder", name := "toString", desc := "()Ljava/lang/String;" } : Jvm.MethodName) ∈ mGw := mGw_of (tV_3_766 List.mem_cons_self) (by decide +kernel)
theorem mw_797 : Jvm.Cond.code ({ cls := "java/lang/StringBuilder", name := "toString", desc := "()Ljava/lang/String;" } : Jvm.MethodName) prog_16_method_42_code (1 : Nat) (Option.some (Jvm.ClassFile.FieldType.object "java/lang/String")) ∈ mGw := mGw_of (tV_3_767 List.mem_cons_self) (by decide +kernel)
theorem mw_798 : Jvm.Cond.classLink "java/lang/StringBuilder" (18 : Nat) "java/lang/String" ∈ mGw := mGw_of (tV_3_768 List.mem_cons_self) (by decide +kernel)
theorem mw_799 : Jvm.Cond.instantiable "java/lang/String" (4 : Nat) ∈ mGw := mGw_of (tV_3_769 List.mem_cons_self) (by decide +kernel)
theorem mw_800 : Jvm.Cond.methodLink "java/lang/StringBuilder" (137 : Nat) ({ cls := "java/lang/String", name := "<init>", desc := "(Ljava/lang/StringBuilder;)V" } : Jvm.MethodName) ∈ mGw := mGw_of (tV_3_770 List.mem_cons_self) (by decide +kernel)
theorem mw_801 : Jvm.Cond.instanceMethod ({ cls := "java/lang/String", name := "<init>", desc := "(Ljava/lang/StringBuilder;)V" } : Jvm.MethodName) ∈ mGw := mGw_of (tV_3_771 List.mem_cons_self) (by decide +kernel)
theorem mw_802 : Jvm.Cond.code ({ cls := "java/lang/String", name := "<init>", desc := "(Ljava/lang/StringBuilder;)V" } : Jvm.MethodName) prog_15_method_53_code (2 : Nat) (Option.none : Option Jvm.ClassFile.FieldType) ∈ mGw := mGw_of (tV_3_772 List.mem_cons_self) (by decide +kernel)
theorem mw_803 : Jvm.Cond.methodLink "java/lang/String" (489 : Nat) ({ cls := "java/lang/String", name := "<init>", desc := "(Ljava/lang/AbstractStringBuilder;Ljava/lang/Void;)V" } : Jvm.MethodName) ∈ mGw := mGw_of (tV_3_773 List.mem_cons_self) (by decide +kernel)
theorem mw_804 : Jvm.Cond.instanceMethod ({ cls := "java/lang/String", name := "<init>", desc := "(Ljava/lang/AbstractStringBuilder;Ljava/lang/Void;)V" } : Jvm.MethodName) ∈ mGw := mGw_of (tV_3_774 List.mem_cons_self) (by decide +kernel)
theorem mw_805 : Jvm.Cond.code ({ cls := "java/lang/String", name := "<init>", desc := "(Ljava/lang/AbstractStringBuilder;Ljava/lang/Void;)V" } : Jvm.MethodName) prog_15_method_150_code (5 : Nat) (Option.none : Option Jvm.ClassFile.FieldType) ∈ mGw := mGw_of (tV_3_775 List.mem_cons_self) (by decide +kernel)
theorem mw_806 : Jvm.Cond.methodLink "java/lang/String" (1 : Nat) ({ cls := "java/lang/Object", name := "<init>", desc := "()V" } : Jvm.MethodName) ∈ mGw := mGw_of (tV_3_776 List.mem_cons_self) (by decide +kernel)
theorem mw_807 : Jvm.Cond.methodLink "java/lang/String" (552 : Nat) ({ cls := "java/lang/AbstractStringBuilder", name := "getValue", desc := "()[B" } : Jvm.MethodName) ∈ mGw := mGw_of (tV_3_777 List.mem_cons_self) (by decide +kernel)
theorem mw_808 : Jvm.Cond.instanceMethod ({ cls := "java/lang/AbstractStringBuilder", name := "getValue", desc := "()[B" } : Jvm.MethodName) ∈ mGw := mGw_of (tV_3_778 List.mem_cons_self) (by decide +kernel)
theorem mw_809 : Jvm.Cond.sameMethod "java/lang/AbstractStringBuilder" "java/lang/AbstractStringBuilder" "getValue" "()[B" ∈ mGw := mGw_of (tV_3_779 List.mem_cons_self) (by decide +kernel)
theorem mw_810 : Jvm.Cond.selects "java/lang/StringBuilder" ({ cls := "java/lang/AbstractStringBuilder", name := "getValue", desc := "()[B" } : Jvm.MethodName) ({ cls := "java/lang/AbstractStringBuilder", name := "getValue", desc := "()[B" } : Jvm.MethodName) ∈ mGw := mGw_of (tV_3_780 List.mem_cons_self) (by decide +kernel)
theorem mw_811 : Jvm.Cond.code ({ cls := "java/lang/AbstractStringBuilder", name := "getValue", desc := "()[B" } : Jvm.MethodName) prog_7_method_64_code (1 : Nat) (Option.some (Jvm.ClassFile.FieldType.array Jvm.ClassFile.FieldType.byte)) ∈ mGw := mGw_of (tV_3_781 List.mem_cons_self) (by decide +kernel)
theorem mw_812 : Jvm.Cond.methodLink "java/lang/String" (549 : Nat) ({ cls := "java/lang/AbstractStringBuilder", name := "length", desc := "()I" } : Jvm.MethodName) ∈ mGw := mGw_of (tV_3_782 List.mem_cons_self) (by decide +kernel)
theorem mw_813 : Jvm.Cond.instanceMethod ({ cls := "java/lang/AbstractStringBuilder", name := "length", desc := "()I" } : Jvm.MethodName) ∈ mGw := mGw_of (tV_3_783 List.mem_cons_self) (by decide +kernel)
theorem mw_814 : Jvm.Cond.sameMethod "java/lang/AbstractStringBuilder" "java/lang/AbstractStringBuilder" "length" "()I" ∈ mGw := mGw_of (tV_3_784 List.mem_cons_self) (by decide +kernel)
theorem mw_815 : Jvm.Cond.selects "java/lang/StringBuilder" ({ cls := "java/lang/AbstractStringBuilder", name := "length", desc := "()I" } : Jvm.MethodName) ({ cls := "java/lang/StringBuilder", name := "length", desc := "()I" } : Jvm.MethodName) ∈ mGw := mGw_of (tV_3_785 List.mem_cons_self) (by decide +kernel)
theorem mw_816 : Jvm.Cond.instanceMethod ({ cls := "java/lang/StringBuilder", name := "length", desc := "()I" } : Jvm.MethodName) ∈ mGw := mGw_of (tV_3_786 List.mem_cons_self) (by decide +kernel)
theorem mw_817 : Jvm.Cond.code ({ cls := "java/lang/StringBuilder", name := "length", desc := "()I" } : Jvm.MethodName) prog_16_method_93_code (1 : Nat) (Option.some Jvm.ClassFile.FieldType.int) ∈ mGw := mGw_of (tV_3_787 List.mem_cons_self) (by decide +kernel)
theorem mw_818 : Jvm.Cond.methodLink "java/lang/StringBuilder" (343 : Nat) ({ cls := "java/lang/AbstractStringBuilder", name := "length", desc := "()I" } : Jvm.MethodName) ∈ mGw := mGw_of (tV_3_788 List.mem_cons_self) (by decide +kernel)
theorem mw_819 : Jvm.Cond.code ({ cls := "java/lang/AbstractStringBuilder", name := "length", desc := "()I" } : Jvm.MethodName) prog_7_method_6_code (1 : Nat) (Option.some Jvm.ClassFile.FieldType.int) ∈ mGw := mGw_of (tV_3_789 List.mem_cons_self) (by decide +kernel)
theorem mw_820 : Jvm.Cond.methodLink "java/lang/String" (1047 : Nat) ({ cls := "java/lang/AbstractStringBuilder", name := "isLatin1", desc := "()Z" } : Jvm.MethodName) ∈ mGw := mGw_of (tV_3_790 List.mem_cons_self) (by decide +kernel)
theorem mw_821 : Jvm.Cond.methodLink "java/lang/String" (54 : Nat) ({ cls := "java/util/Arrays", name := "copyOfRange", desc := "([BII)[B" } : Jvm.MethodName) ∈ mGw := mGw_of (tV_3_791 List.mem_cons_self) (by decide +kernel)
theorem mw_822 : Jvm.Cond.static ({ cls := "java/util/Arrays", name := "copyOfRange", desc := "([BII)[B" } : Jvm.MethodName) ∈ mGw := mGw_of (tV_3_792 List.mem_cons_self) (by decide +kernel)
theorem mw_823 : Jvm.Cond.code ({ cls := "java/util/Arrays", name := "copyOfRange", desc := "([BII)[B" } : Jvm.MethodName) prog_21_method_132_code (3 : Nat) (Option.some (Jvm.ClassFile.FieldType.array Jvm.ClassFile.FieldType.byte)) ∈ mGw := mGw_of (tV_3_793 List.mem_cons_self) (by decide +kernel)
theorem mw_824 : Jvm.Cond.methodLink "java/util/Arrays" (339 : Nat) ({ cls := "java/util/Arrays", name := "copyOfRangeByte", desc := "([BII)[B" } : Jvm.MethodName) ∈ mGw := mGw_of (tV_3_794 List.mem_cons_self) (by decide +kernel)
theorem mw_825 : Jvm.Cond.static ({ cls := "java/util/Arrays", name := "copyOfRangeByte", desc := "([BII)[B" } : Jvm.MethodName) ∈ mGw := mGw_of (tV_3_795 List.mem_cons_self) (by decide +kernel)
theorem mw_826 : Jvm.Cond.code ({ cls := "java/util/Arrays", name := "copyOfRangeByte", desc := "([BII)[B" } : Jvm.MethodName) prog_21_method_133_code (5 : Nat) (Option.some (Jvm.ClassFile.FieldType.array Jvm.ClassFile.FieldType.byte)) ∈ mGw := mGw_of (tV_3_796 List.mem_cons_self) (by decide +kernel)
theorem mw_827 : Jvm.Cond.methodLink "java/util/Arrays" (343 : Nat) ({ cls := "java/util/Arrays", name := "checkLength", desc := "(II)V" } : Jvm.MethodName) ∈ mGw := mGw_of (tV_3_797 List.mem_cons_self) (by decide +kernel)
theorem mw_828 : Jvm.Cond.static ({ cls := "java/util/Arrays", name := "checkLength", desc := "(II)V" } : Jvm.MethodName) ∈ mGw := mGw_of (tV_3_798 List.mem_cons_self) (by decide +kernel)
theorem mw_829 : Jvm.Cond.code ({ cls := "java/util/Arrays", name := "checkLength", desc := "(II)V" } : Jvm.MethodName) prog_21_method_131_code (2 : Nat) (Option.none : Option Jvm.ClassFile.FieldType) ∈ mGw := mGw_of (tV_3_799 List.mem_cons_self) (by decide +kernel)
theorem mw_830 : Jvm.Cond.classLink "java/util/Arrays" (43 : Nat) "java/lang/IllegalArgumentException" ∈ mGw := mGw_of (tV_3_800 List.mem_cons_self) (by decide +kernel)
theorem mw_831 : Jvm.Cond.classLink "java/util/Arrays" (45 : Nat) "java/lang/StringBuilder" ∈ mGw := mGw_of (tV_3_801 List.mem_cons_self) (by decide +kernel)
theorem mw_832 : Jvm.Cond.methodLink "java/util/Arrays" (47 : Nat) ({ cls := "java/lang/StringBuilder", name := "<init>", desc := "()V" } : Jvm.MethodName) ∈ mGw := mGw_of (tV_3_802 List.mem_cons_self) (by decide +kernel)
theorem mw_833 : Jvm.Cond.methodLink "java/util/Arrays" (54 : Nat) ({ cls := "java/lang/StringBuilder", name := "append", desc := "(I)Ljava/lang/StringBuilder;" } : Jvm.MethodName) ∈ mGw := mGw_of (tV_3_803 List.mem_cons_self) (by decide +kernel)
theorem mw_835 : Jvm.Cond.methodLink "java/util/Arrays" (50 : Nat) ({ cls := "java/lang/StringBuilder", name := "append", desc := "(Ljava/lang/String;)Ljava/lang/StringBuilder;" } : Jvm.MethodName) ∈ mGw := mGw_of (tV_3_805 List.mem_cons_self) (by decide +kernel)
theorem mw_836 : Jvm.Cond.instanceMethod ({ cls := "java/lang/StringBuilder", name := "append", desc := "(Ljava/lang/String;)Ljava/lang/StringBuilder;" } : Jvm.MethodName) ∈ mGw := mGw_of (tV_3_806 List.mem_cons_self) (by decide +kernel)
theorem mw_837 : Jvm.Cond.selects "java/lang/StringBuilder" ({ cls := "java/lang/StringBuilder", name := "append", desc := "(Ljava/lang/String;)Ljava/lang/StringBuilder;" } : Jvm.MethodName) ({ cls := "java/lang/StringBuilder", name := "append", desc := "(Ljava/lang/String;)Ljava/lang/StringBuilder;" } : Jvm.MethodName) ∈ mGw := mGw_of (tV_3_807 List.mem_cons_self) (by decide +kernel)
theorem mw_838 : Jvm.Cond.code ({ cls := "java/lang/StringBuilder", name := "append", desc := "(Ljava/lang/String;)Ljava/lang/StringBuilder;" } : Jvm.MethodName) prog_16_method_7_code (2 : Nat) (Option.some (Jvm.ClassFile.FieldType.object "java/lang/StringBuilder")) ∈ mGw := mGw_of (tV_3_808 List.mem_cons_self) (by decide +kernel)
theorem mw_839 : Jvm.Cond.methodLink "java/lang/StringBuilder" (29 : Nat) ({ cls := "java/lang/AbstractStringBuilder", name := "append", desc := "(Ljava/lang/String;)Ljava/lang/AbstractStringBuilder;" } : Jvm.MethodName) ∈ mGw := mGw_of (tV_3_809 List.mem_cons_self) (by decide +kernel)
theorem mw_840 : Jvm.Cond.instanceMethod ({ cls := "java/lang/AbstractStringBuilder", name := "append", desc := "(Ljava/lang/String;)Ljava/lang/AbstractStringBuilder;" } : Jvm.MethodName) ∈ mGw := mGw_of (tV_3_810 List.mem_cons_self) (by decide +kernel)
theorem mw_841 : Jvm.Cond.code ({ cls := "java/lang/AbstractStringBuilder", name := "append", desc := "(Ljava/lang/String;)Ljava/lang/AbstractStringBuilder;" } : Jvm.MethodName) prog_7_method_22_code (3 : Nat) (Option.some (Jvm.ClassFile.FieldType.object "java/lang/AbstractStringBuilder")) ∈ mGw := mGw_of (tV_3_811 List.mem_cons_self) (by decide +kernel)
theorem mw_842 : Jvm.Cond.methodLink "java/lang/AbstractStringBuilder" (204 : Nat) ({ cls := "java/lang/AbstractStringBuilder", name := "appendNull", desc := "()Ljava/lang/AbstractStringBuilder;" } : Jvm.MethodName) ∈ mGw := mGw_of (tV_3_812 List.mem_cons_self) (by decide +kernel)
theorem mw_844 : Jvm.Cond.instanceMethod ({ cls := "java/lang/AbstractStringBuilder", name := "appendNull", desc := "()Ljava/lang/AbstractStringBuilder;" } : Jvm.MethodName) ∈ mGw := mGw_of (tV_3_814 List.mem_cons_self) (by decide +kernel)
theorem mw_845 : Jvm.Cond.code ({ cls := "java/lang/AbstractStringBuilder", name := "appendNull", desc := "()Ljava/lang/AbstractStringBuilder;" } : Jvm.MethodName) prog_7_method_26_code (3 : Nat) (Option.some (Jvm.ClassFile.FieldType.object "java/lang/AbstractStringBuilder")) ∈ mGw := mGw_of (tV_3_815 List.mem_cons_self) (by decide +kernel)
theorem mw_846 : Jvm.Cond.methodLink "java/lang/AbstractStringBuilder" (226 : Nat) ({ cls := "java/lang/StringUTF16", name := "putCharsAt", desc := "([BICCCC)I" } : Jvm.MethodName) ∈ mGw := mGw_of (tV_3_816 List.mem_cons_self) (by decide +kernel)
theorem mw_847 : Jvm.Cond.static ({ cls := "java/lang/StringUTF16", name := "putCharsAt", desc := "([BICCCC)I" } : Jvm.MethodName) ∈ mGw := mGw_of (tV_3_817 List.mem_cons_self) (by decide +kernel)
theorem mw_848 : Jvm.Cond.code ({ cls := "java/lang/StringUTF16", name := "putCharsAt", desc := "([BICCCC)I" } : Jvm.MethodName) prog_18_method_81_code (7 : Nat) (Option.some Jvm.ClassFile.FieldType.int) ∈ mGw := mGw_of (tV_3_818 List.mem_cons_self) (by decide +kernel)
theorem mw_849 : Jvm.Cond.methodLink "java/lang/AbstractStringBuilder" (32 : Nat) ({ cls := "java/lang/String", name := "length", desc := "()I" } : Jvm.MethodName) ∈ mGw := mGw_of (tV_3_819 List.mem_cons_self) (by decide +kernel)
theorem mw_850 : Jvm.Cond.instanceMethod ({ cls := "java/lang/String", name := "length", desc := "()I" } : Jvm.MethodName) ∈ mGw := mGw_of (tV_3_820 List.mem_cons_self) (by decide +kernel)
theorem mw_851 : Jvm.Cond.selects "java/lang/String" ({ cls := "java/lang/String", name := "length", desc := "()I" } : Jvm.MethodName) ({ cls := "java/lang/String", name := "length", desc := "()I" } : Jvm.MethodName) ∈ mGw := mGw_of (tV_3_821 List.mem_cons_self) (by decide +kernel)
theorem mw_852 : Jvm.Cond.code ({ cls := "java/lang/String", name := "length", desc := "()I" } : Jvm.MethodName) prog_15_method_54_code (1 : Nat) (Option.some Jvm.ClassFile.FieldType.int) ∈ mGw := mGw_of (tV_3_822 List.mem_cons_self) (by decide +kernel)
theorem mw_853 : Jvm.Cond.methodLink "java/lang/String" (335 : Nat) ({ cls := "java/lang/String", name := "coder", desc := "()B" } : Jvm.MethodName) ∈ mGw := mGw_of (tV_3_823 List.mem_cons_self) (by decide +kernel)
theorem mw_854 : Jvm.Cond.instanceMethod ({ cls := "java/lang/String", name := "coder", desc := "()B" } : Jvm.MethodName) ∈ mGw := mGw_of (tV_3_824 List.mem_cons_self) (by decide +kernel)
theorem mw_855 : Jvm.Cond.selects "java/lang/String" ({ cls := "java/lang/String", name := "coder", desc := "()B" } : Jvm.MethodName) ({ cls := "java/lang/String", name := "coder", desc := "()B" } : Jvm.MethodName) ∈ mGw := mGw_of (tV_3_825 List.mem_cons_self) (by decide +kernel)
theorem mw_856 : Jvm.Cond.code ({ cls := "java/lang/String", name := "coder", desc := "()B" } : Jvm.MethodName) prog_15_method_152_code (1 : Nat) (Option.some Jvm.ClassFile.FieldType.byte) ∈ mGw := mGw_of (tV_3_826 List.mem_cons_self) (by decide +kernel)
theorem mw_857 : Jvm.Cond.fieldLink "java/lang/String" (38 : Nat) "java/lang/String" "COMPACT_STRINGS" "Z" ∈ mGw := mGw_of (tV_3_827 List.mem_cons_self) (by decide +kernel)
theorem mw_858 : Jvm.Cond.methodLink "java/lang/AbstractStringBuilder" (208 : Nat) ({ cls := "java/lang/AbstractStringBuilder", name := "putStringAt", desc := "(ILjava/lang/String;)V" } : Jvm.MethodName) ∈ mGw := mGw_of (tV_3_828 List.mem_cons_self) (by decide +kernel)
theorem mw_860 : Jvm.Cond.instanceMethod ({ cls := "java/lang/AbstractStringBuilder", name := "putStringAt", desc := "(ILjava/lang/String;)V" } : Jvm.MethodName) ∈ mGw := mGw_of (tV_3_830 List.mem_cons_self) (by decide +kernel)
theorem mw_861 : Jvm.Cond.code ({ cls := "java/lang/AbstractStringBuilder", name := "putStringAt", desc := "(ILjava/lang/String;)V" } : Jvm.MethodName) prog_7_method_73_code (3 : Nat) (Option.none : Option Jvm.ClassFile.FieldType) ∈ mGw := mGw_of (tV_3_831 List.mem_cons_self) (by decide +kernel)
theorem mw_862 : Jvm.Cond.methodLink "java/lang/AbstractStringBuilder" (397 : Nat) ({ cls := "java/lang/AbstractStringBuilder", name := "inflateIfNeededFor", desc := "(Ljava/lang/String;)V" } : Jvm.MethodName) ∈ mGw := mGw_of (tV_3_832 List.mem_cons_self) (by decide +kernel)
theorem mw_864 : Jvm.Cond.instanceMethod ({ cls := "java/lang/AbstractStringBuilder", name := "inflateIfNeededFor", desc := "(Ljava/lang/String;)V" } : Jvm.MethodName) ∈ mGw := mGw_of (tV_3_834 List.mem_cons_self) (by decide +kernel)
theorem mw_865 : Jvm.Cond.code ({ cls := "java/lang/AbstractStringBuilder", name := "inflateIfNeededFor", desc := "(Ljava/lang/String;)V" } : Jvm.MethodName) prog_7_method_71_code (2 : Nat) (Option.none : Option Jvm.ClassFile.FieldType) ∈ mGw := mGw_of (tV_3_835 List.mem_cons_self) (by decide +kernel)
theorem mw_866 : Jvm.Cond.methodLink "java/lang/AbstractStringBuilder" (40 : Nat) ({ cls := "java/lang/String", name := "coder", desc := "()B" } : Jvm.MethodName) ∈ mGw := mGw_of (tV_3_836 List.mem_cons_self) (by decide +kernel)
theorem mw_867 : Jvm.Cond.methodLink "java/lang/AbstractStringBuilder" (399 : Nat) ({ cls := "java/lang/String", name := "getBytes", desc := "([BIB)V" } : Jvm.MethodName) ∈ mGw := mGw_of (tV_3_837 List.mem_cons_self) (by decide +kernel)
theorem mw_868 : Jvm.Cond.instanceMethod ({ cls := "java/lang/String", name := "getBytes", desc := "([BIB)V" } : Jvm.MethodName) ∈ mGw := mGw_of (tV_3_838 List.mem_cons_self) (by decide +kernel)
theorem mw_869 : Jvm.Cond.selects "java/lang/String" ({ cls := "java/lang/String", name := "getBytes", desc := "([BIB)V" } : Jvm.MethodName) ({ cls := "java/lang/String", name := "getBytes", desc := "([BIB)V" } : Jvm.MethodName) ∈ mGw := mGw_of (tV_3_839 List.mem_cons_self) (by decide +kernel)
theorem mw_870 : Jvm.Cond.code ({ cls := "java/lang/String", name := "getBytes", desc := "([BIB)V" } : Jvm.MethodName) prog_15_method_147_code (4 : Nat) (Option.none : Option Jvm.ClassFile.FieldType) ∈ mGw := mGw_of (tV_3_840 List.mem_cons_self) (by decide +kernel)
theorem mw_871 : Jvm.Cond.methodLink "java/lang/String" (212 : Nat) ({ cls := "java/lang/System", name := "arraycopy", desc := "(Ljava/lang/Object;ILjava/lang/Object;II)V" } : Jvm.MethodName) ∈ mGw := mGw_of (tV_3_841 List.mem_cons_self) (by decide +kernel)
theorem mw_872 : Jvm.Cond.methodLink "java/lang/String" (106 : Nat) ({ cls := "java/lang/StringLatin1", name := "inflate", desc := "([BI[BII)V" } : Jvm.MethodName) ∈ mGw := mGw_of (tV_3_842 List.mem_cons_self) (by decide +kernel)
theorem mw_873 : Jvm.Cond.methodLink "java/util/Arrays" (61 : Nat) ({ cls := "java/lang/StringBuilder", name := "toString", desc := "()Ljava/lang/String;" } : Jvm.MethodName) ∈ mGw := mGw_of (tV_3_843 List.mem_cons_self) (by decide +kernel)
theorem mw_874 : Jvm.Cond.methodLink "java/util/Arrays" (65 : Nat) ({ cls := "java/lang/IllegalArgumentException", name := "<init>", desc := "(Ljava/lang/String;)V" } : Jvm.MethodName) ∈ mGw := mGw_of (tV_3_844 List.mem_cons_self) (by decide +kernel)
theorem mw_875 : Jvm.Cond.methodLink "java/lang/String" (1051 : Nat) ({ cls := "java/lang/StringUTF16", name := "compress", desc := "([BII)[B" } : Jvm.MethodName) ∈ mGw := mGw_of (tV_3_845 List.mem_cons_self) (by decide +kernel)
theorem mw_876 : Jvm.Cond.static ({ cls := "java/lang/StringUTF16", name := "compress", desc := "([BII)[B" } : Jvm.MethodName) ∈ mGw := mGw_of (tV_3_846 List.mem_cons_self) (by decide +kernel)
theorem mw_877 : Jvm.Cond.code ({ cls := "java/lang/StringUTF16", name := "compress", desc := "([BII)[B" } : Jvm.MethodName) prog_18_method_17_code (6 : Nat) (Option.some (Jvm.ClassFile.FieldType.array Jvm.ClassFile.FieldType.byte)) ∈ mGw := mGw_of (tV_3_847 List.mem_cons_self) (by decide +kernel)
theorem mw_878 : Jvm.Cond.methodLink "java/lang/StringUTF16" (123 : Nat) ({ cls := "java/lang/StringUTF16", name := "compress", desc := "([BI[BII)I" } : Jvm.MethodName) ∈ mGw := mGw_of (tV_3_848 List.mem_cons_self) (by decide +kernel)
theorem mw_879 : Jvm.Cond.static ({ cls := "java/lang/StringUTF16", name := "compress", desc := "([BI[BII)I" } : Jvm.MethodName) ∈ mGw := mGw_of (tV_3_849 List.mem_cons_self) (by decide +kernel)
theorem mw_880 : Jvm.Cond.code ({ cls := "java/lang/StringUTF16", name := "compress", desc := "([BI[BII)I" } : Jvm.MethodName) prog_18_method_22_code (7 : Nat) (Option.some Jvm.ClassFile.FieldType.int) ∈ mGw := mGw_of (tV_3_850 List.mem_cons_self) (by decide +kernel)
theorem mw_881 : Jvm.Cond.methodLink "java/lang/StringUTF16" (71 : Nat) ({ cls := "java/lang/StringUTF16", name := "getChar", desc := "([BI)C" } : Jvm.MethodName) ∈ mGw := mGw_of (tV_3_851 List.mem_cons_self) (by decide +kernel)
theorem mw_882 : Jvm.Cond.static ({ cls := "java/lang/StringUTF16", name := "getChar", desc := "([BI)C" } : Jvm.MethodName) ∈ mGw := mGw_of (tV_3_852 List.mem_cons_self) (by decide +kernel)
theorem mw_883 : Jvm.Cond.code ({ cls := "java/lang/StringUTF16", name := "getChar", desc := "([BI)C" } : Jvm.MethodName) prog_18_method_5_code (2 : Nat) (Option.some Jvm.ClassFile.FieldType.char) ∈ mGw := mGw_of (tV_3_853 List.mem_cons_self) (by decide +kernel)
theorem mw_884 : Jvm.Cond.methodLink "java/lang/StringUTF16" (126 : Nat) ({ cls := "java/util/Arrays", name := "copyOfRange", desc := "([BII)[B" } : Jvm.MethodName) ∈ mGw := mGw_of (tV_3_854 List.mem_cons_self) (by decide +kernel)
theorem mw_885 : Jvm.Cond.methodLink "java/lang/String" (47 : Nat) ({ cls := "java/lang/StringUTF16", name := "coderFromArrayLen", desc := "([BI)B" } : Jvm.MethodName) ∈ mGw := mGw_of (tV_3_855 List.mem_cons_self) (by decide +kernel)
theorem mw_886 : Jvm.Cond.static ({ cls := "java/lang/StringUTF16", name := "coderFromArrayLen", desc := "([BI)B" } : Jvm.MethodName) ∈ mGw := mGw_of (tV_3_856 List.mem_cons_self) (by decide +kernel)
theorem mw_887 : Jvm.Cond.code ({ cls := "java/lang/StringUTF16", name := "coderFromArrayLen", desc := "([BI)B" } : Jvm.MethodName) prog_18_method_15_code (2 : Nat) (Option.some Jvm.ClassFile.FieldType.byte) ∈ mGw := mGw_of (tV_3_857 List.mem_cons_self) (by decide +kernel)
theorem mw_888 : Jvm.Cond.fieldLink "java/lang/String" (9 : Nat) "java/lang/String" "value" "[B" ∈ mGw := mGw_of (tV_3_858 List.mem_cons_self) (by decide +kernel)
theorem mw_889 : Jvm.Cond.fieldLink "java/lang/String" (15 : Nat) "java/lang/String" "coder" "B" ∈ mGw := mGw_of (tV_3_859 List.mem_cons_self) (by decide +kernel)
theorem mw_898 : Jvm.Cond.superclass "java/lang/String" "java/lang/Object" ∈ mGw := mGw_of (tV_3_868 List.mem_cons_self) (by decide +kernel)
theorem mw_899 : Jvm.Cond.methodLink "RunweaverLaw" (244 : Nat) ({ cls := "RunweaverLaw", name := "isSorted", desc := "(LRunweaver;ILRunweaverLaw$Out;)I" } : Jvm.MethodName) ∈ mGw := mGw_of (tV_3_869 List.mem_cons_self) (by decide +kernel)
theorem mw_900 : Jvm.Cond.static ({ cls := "RunweaverLaw", name := "isSorted", desc := "(LRunweaver;ILRunweaverLaw$Out;)I" } : Jvm.MethodName) ∈ mGw := mGw_of (tV_3_870 List.mem_cons_self) (by decide +kernel)
theorem mw_901 : Jvm.Cond.codeWith ({ cls := "RunweaverLaw", name := "isSorted", desc := "(LRunweaver;ILRunweaverLaw$Out;)I" } : Jvm.MethodName) method_26_code (4 : Nat) (Option.some Jvm.ClassFile.FieldType.int) [((0 : Nat), (17 : Nat), (20 : Nat), (19 : Nat))] ∈ mGw := mGw_of (tV_3_871 List.mem_cons_self) (by decide +kernel)
theorem mw_902 : Jvm.Cond.methodLink "RunweaverLaw" (100 : Nat) ({ cls := "Runweaver", name := "isSorted", desc := "(I)Z" } : Jvm.MethodName) ∈ mGw := mGw_of (tV_3_872 List.mem_cons_self) (by decide +kernel)
theorem mw_903 : Jvm.Cond.instanceMethod ({ cls := "Runweaver", name := "isSorted", desc := "(I)Z" } : Jvm.MethodName) ∈ mGw := mGw_of (tV_3_873 List.mem_cons_self) (by decide +kernel)
theorem mw_904 : Jvm.Cond.selects "Runweaver" ({ cls := "Runweaver", name := "isSorted", desc := "(I)Z" } : Jvm.MethodName) ({ cls := "Runweaver", name := "isSorted", desc := "(I)Z" } : Jvm.MethodName) ∈ mGw := mGw_of (tV_3_874 List.mem_cons_self) (by decide +kernel)
theorem mw_905 : Jvm.Cond.code ({ cls := "Runweaver", name := "isSorted", desc := "(I)Z" } : Jvm.MethodName) prog_1_method_26_code (2 : Nat) (Option.some Jvm.ClassFile.FieldType.boolean) ∈ mGw := mGw_of (tV_3_875 List.mem_cons_self) (by decide +kernel)
theorem mw_906 : Jvm.Cond.methodLink "RunweaverLaw" (247 : Nat) ({ cls := "RunweaverLaw", name := "isFalling", desc := "(LRunweaver;ILRunweaverLaw$Out;)I" } : Jvm.MethodName) ∈ mGw := mGw_of (tV_3_876 List.mem_cons_self) (by decide +kernel)
theorem mw_907 : Jvm.Cond.static ({ cls := "RunweaverLaw", name := "isFalling", desc := "(LRunweaver;ILRunweaverLaw$Out;)I" } : Jvm.MethodName) ∈ mGw := mGw_of (tV_3_877 List.mem_cons_self) (by decide +kernel)
theorem mw_908 : Jvm.Cond.codeWith ({ cls := "RunweaverLaw", name := "isFalling", desc := "(LRunweaver;ILRunweaverLaw$Out;)I" } : Jvm.MethodName) method_27_code (4 : Nat) (Option.some Jvm.ClassFile.FieldType.int) [((0 : Nat), (17 : Nat), (20 : Nat), (19 : Nat))] ∈ mGw := mGw_of (tV_3_878 List.mem_cons_self) (by decide +kernel)
theorem mw_909 : Jvm.Cond.methodLink "RunweaverLaw" (104 : Nat) ({ cls := "Runweaver", name := "isFalling", desc := "(I)Z" } : Jvm.MethodName) ∈ mGw := mGw_of (tV_3_879 List.mem_cons_self) (by decide +kernel)
theorem mw_910 : Jvm.Cond.instanceMethod ({ cls := "Runweaver", name := "isFalling", desc := "(I)Z" } : Jvm.MethodName) ∈ mGw := mGw_of (tV_3_880 List.mem_cons_self) (by decide +kernel)
theorem mw_911 : Jvm.Cond.selects "Runweaver" ({ cls := "Runweaver", name := "isFalling", desc := "(I)Z" } : Jvm.MethodName) ({ cls := "Runweaver", name := "isFalling", desc := "(I)Z" } : Jvm.MethodName) ∈ mGw := mGw_of (tV_3_881 List.mem_cons_self) (by decide +kernel)
theorem mw_912 : Jvm.Cond.code ({ cls := "Runweaver", name := "isFalling", desc := "(I)Z" } : Jvm.MethodName) prog_1_method_27_code (2 : Nat) (Option.some Jvm.ClassFile.FieldType.boolean) ∈ mGw := mGw_of (tV_3_882 List.mem_cons_self) (by decide +kernel)
theorem mw_913 : Jvm.Cond.methodLink "Runweaver" (169 : Nat) ({ cls := "Runweaver$Row", name := "fallsThroughout", desc := "()Z" } : Jvm.MethodName) ∈ mGw := mGw_of (tV_3_883 List.mem_cons_self) (by decide +kernel)
theorem mw_914 : Jvm.Cond.instanceMethod ({ cls := "Runweaver$Row", name := "fallsThroughout", desc := "()Z" } : Jvm.MethodName) ∈ mGw := mGw_of (tV_3_884 List.mem_cons_self) (by decide +kernel)
theorem mw_915 : Jvm.Cond.selects "Runweaver$Row" ({ cls := "Runweaver$Row", name := "fallsThroughout", desc := "()Z" } : Jvm.MethodName) ({ cls := "Runweaver$Row", name := "fallsThroughout", desc := "()Z" } : Jvm.MethodName) ∈ mGw := mGw_of (tV_3_885 List.mem_cons_self) (by decide +kernel)
theorem mw_916 : Jvm.Cond.code ({ cls := "Runweaver$Row", name := "fallsThroughout", desc := "()Z" } : Jvm.MethodName) prog_3_method_13_code (2 : Nat) (Option.some Jvm.ClassFile.FieldType.boolean) ∈ mGw := mGw_of (tV_3_886 List.mem_cons_self) (by decide +kernel)
theorem mw_917 : Jvm.Cond.methodLink "RunweaverLaw" (250 : Nat) ({ cls := "RunweaverLaw", name := "isKept", desc := "(LRunweaver;ILRunweaverLaw$Out;)I" } : Jvm.MethodName) ∈ mGw := mGw_of (tV_3_887 List.mem_cons_self) (by decide +kernel)
theorem mw_918 : Jvm.Cond.static ({ cls := "RunweaverLaw", name := "isKept", desc := "(LRunweaver;ILRunweaverLaw$Out;)I" } : Jvm.MethodName) ∈ mGw := mGw_of (tV_3_888 List.mem_cons_self) (by decide +kernel)
theorem mw_919 : Jvm.Cond.codeWith ({ cls := "RunweaverLaw", name := "isKept", desc := "(LRunweaver;ILRunweaverLaw$Out;)I" } : Jvm.MethodName) method_28_code (4 : Nat) (Option.some Jvm.ClassFile.FieldType.int) [((0 : Nat), (17 : Nat), (20 : Nat), (19 : Nat))] ∈ mGw := mGw_of (tV_3_889 List.mem_cons_self) (by decide +kernel)
theorem mw_920 : Jvm.Cond.methodLink "RunweaverLaw" (107 : Nat) ({ cls := "Runweaver", name := "isKept", desc := "(I)Z" } : Jvm.MethodName) ∈ mGw := mGw_of (tV_3_890 List.mem_cons_self) (by decide +kernel)
theorem mw_921 : Jvm.Cond.instanceMethod ({ cls := "Runweaver", name := "isKept", desc := "(I)Z" } : Jvm.MethodName) ∈ mGw := mGw_of (tV_3_891 List.mem_cons_self) (by decide +kernel)
theorem mw_922 : Jvm.Cond.selects "Runweaver" ({ cls := "Runweaver", name := "isKept", desc := "(I)Z" } : Jvm.MethodName) ({ cls := "Runweaver", name := "isKept", desc := "(I)Z" } : Jvm.MethodName) ∈ mGw := mGw_of (tV_3_892 List.mem_cons_self) (by decide +kernel)
theorem mw_923 : Jvm.Cond.code ({ cls := "Runweaver", name := "isKept", desc := "(I)Z" } : Jvm.MethodName) prog_1_method_28_code (2 : Nat) (Option.some Jvm.ClassFile.FieldType.boolean) ∈ mGw := mGw_of (tV_3_893 List.mem_cons_self) (by decide +kernel)
theorem mw_924 : Jvm.Cond.methodLink "Runweaver" (172 : Nat) ({ cls := "Runweaver$Row", name := "keepsStamps", desc := "()Z" } : Jvm.MethodName) ∈ mGw := mGw_of (tV_3_894 List.mem_cons_self) (by decide +kernel)
theorem mw_925 : Jvm.Cond.instanceMethod ({ cls := "Runweaver$Row", name := "keepsStamps", desc := "()Z" } : Jvm.MethodName) ∈ mGw := mGw_of (tV_3_895 List.mem_cons_self) (by decide +kernel)
theorem mw_926 : Jvm.Cond.selects "Runweaver$Row" ({ cls := "Runweaver$Row", name := "keepsStamps", desc := "()Z" } : Jvm.MethodName) ({ cls := "Runweaver$Row", name := "keepsStamps", desc := "()Z" } : Jvm.MethodName) ∈ mGw := mGw_of (tV_3_896 List.mem_cons_self) (by decide +kernel)
theorem mw_927 : Jvm.Cond.code ({ cls := "Runweaver$Row", name := "keepsStamps", desc := "()Z" } : Jvm.MethodName) prog_3_method_14_code (2 : Nat) (Option.some Jvm.ClassFile.FieldType.boolean) ∈ mGw := mGw_of (tV_3_897 List.mem_cons_self) (by decide +kernel)
theorem mw_928 : Jvm.Cond.methodLink "RunweaverLaw" (253 : Nat) ({ cls := "RunweaverLaw", name := "wrong", desc := "(LRunweaver;IILRunweaverLaw$Out;)I" } : Jvm.MethodName) ∈ mGw := mGw_of (tV_3_898 List.mem_cons_self) (by decide +kernel)
theorem mw_929 : Jvm.Cond.static ({ cls := "RunweaverLaw", name := "wrong", desc := "(LRunweaver;IILRunweaverLaw$Out;)I" } : Jvm.MethodName) ∈ mGw := mGw_of (tV_3_899 List.mem_cons_self) (by decide +kernel)
theorem mw_930 : Jvm.Cond.codeWith ({ cls := "RunweaverLaw", name := "wrong", desc := "(LRunweaver;IILRunweaverLaw$Out;)I" } : Jvm.MethodName) method_29_code (5 : Nat) (Option.some Jvm.ClassFile.FieldType.int) [((0 : Nat), (11 : Nat), (14 : Nat), (19 : Nat)), ((0 : Nat), (11 : Nat), (18 : Nat), (21 : Nat))] ∈ mGw := mGw_of (tV_3_900 List.mem_cons_self) (by decide +kernel)
theorem mw_931 : Jvm.Cond.methodLink "RunweaverLaw" (110 : Nat) ({ cls := "Runweaver", name := "wrong", desc := "(II)I" } : Jvm.MethodName) ∈ mGw := mGw_of (tV_3_901 List.mem_cons_self) (by decide +kernel)
theorem mw_932 : Jvm.Cond.methodLink "RunweaverLaw" (256 : Nat) ({ cls := "RunweaverLaw", name := "right", desc := "(LRunweaver;ILRunweaverLaw$Out;)I" } : Jvm.MethodName) ∈ mGw := mGw_of (tV_3_902 List.mem_cons_self) (by decide +kernel)
theorem mw_933 : Jvm.Cond.static ({ cls := "RunweaverLaw", name := "right", desc := "(LRunweaver;ILRunweaverLaw$Out;)I" } : Jvm.MethodName) ∈ mGw := mGw_of (tV_3_903 List.mem_cons_self) (by decide +kernel)
theorem mw_934 : Jvm.Cond.codeWith ({ cls := "RunweaverLaw", name := "right", desc := "(LRunweaver;ILRunweaverLaw$Out;)I" } : Jvm.MethodName) method_30_code (4 : Nat) (Option.some Jvm.ClassFile.FieldType.int) [((0 : Nat), (10 : Nat), (13 : Nat), (19 : Nat))] ∈ mGw := mGw_of (tV_3_904 List.mem_cons_self) (by decide +kernel)
theorem mw_935 : Jvm.Cond.methodLink "RunweaverLaw" (113 : Nat) ({ cls := "Runweaver", name := "right", desc := "(I)I" } : Jvm.MethodName) ∈ mGw := mGw_of (tV_3_905 List.mem_cons_self) (by decide +kernel)
theorem mw_936 : Jvm.Cond.instanceMethod ({ cls := "Runweaver", name := "right", desc := "(I)I" } : Jvm.MethodName) ∈ mGw := mGw_of (tV_3_906 List.mem_cons_self) (by decide +kernel)
theorem mw_937 : Jvm.Cond.selects "Runweaver" ({ cls := "Runweaver", name := "right", desc := "(I)I" } : Jvm.MethodName) ({ cls := "Runweaver", name := "right", desc := "(I)I" } : Jvm.MethodName) ∈ mGw := mGw_of (tV_3_907 List.mem_cons_self) (by decide +kernel)
theorem mw_938 : Jvm.Cond.code ({ cls := "Runweaver", name := "right", desc := "(I)I" } : Jvm.MethodName) prog_1_method_30_code (2 : Nat) (Option.some Jvm.ClassFile.FieldType.int) ∈ mGw := mGw_of (tV_3_908 List.mem_cons_self) (by decide +kernel)
theorem mw_939 : Jvm.Cond.methodLink "RunweaverLaw" (259 : Nat) ({ cls := "RunweaverLaw", name := "ties", desc := "(LRunweaver;ILRunweaverLaw$Out;)I" } : Jvm.MethodName) ∈ mGw := mGw_of (tV_3_909 List.mem_cons_self) (by decide +kernel)
theorem mw_940 : Jvm.Cond.static ({ cls := "RunweaverLaw", name := "ties", desc := "(LRunweaver;ILRunweaverLaw$Out;)I" } : Jvm.MethodName) ∈ mGw := mGw_of (tV_3_910 List.mem_cons_self) (by decide +kernel)
theorem mw_941 : Jvm.Cond.codeWith ({ cls := "RunweaverLaw", name := "ties", desc := "(LRunweaver;ILRunweaverLaw$Out;)I" } : Jvm.MethodName) method_31_code (4 : Nat) (Option.some Jvm.ClassFile.FieldType.int) [((0 : Nat), (10 : Nat), (13 : Nat), (19 : Nat))] ∈ mGw := mGw_of (tV_3_911 List.mem_cons_self) (by decide +kernel)
theorem mw_942 : Jvm.Cond.methodLink "RunweaverLaw" (116 : Nat) ({ cls := "Runweaver", name := "ties", desc := "(I)I" } : Jvm.MethodName) ∈ mGw := mGw_of (tV_3_912 List.mem_cons_self) (by decide +kernel)
theorem mw_943 : Jvm.Cond.methodLink "RunweaverLaw" (262 : Nat) ({ cls := "RunweaverLaw", name := "runs", desc := "(LRunweaver;ILRunweaverLaw$Out;)I" } : Jvm.MethodName) ∈ mGw := mGw_of (tV_3_913 List.mem_cons_self) (by decide +kernel)
theorem mw_944 : Jvm.Cond.static ({ cls := "RunweaverLaw", name := "runs", desc := "(LRunweaver;ILRunweaverLaw$Out;)I" } : Jvm.MethodName) ∈ mGw := mGw_of (tV_3_914 List.mem_cons_self) (by decide +kernel)
theorem mw_945 : Jvm.Cond.codeWith ({ cls := "RunweaverLaw", name := "runs", desc := "(LRunweaver;ILRunweaverLaw$Out;)I" } : Jvm.MethodName) method_32_code (4 : Nat) (Option.some Jvm.ClassFile.FieldType.int) [((0 : Nat), (10 : Nat), (13 : Nat), (19 : Nat))] ∈ mGw := mGw_of (tV_3_915 List.mem_cons_self) (by decide +kernel)
theorem mw_946 : Jvm.Cond.methodLink "RunweaverLaw" (119 : Nat) ({ cls := "Runweaver", name := "runs", desc := "(I)I" } : Jvm.MethodName) ∈ mGw := mGw_of (tV_3_916 List.mem_cons_self) (by decide +kernel)
theorem mw_947 : Jvm.Cond.methodLink "RunweaverLaw" (265 : Nat) ({ cls := "RunweaverLaw", name := "longest", desc := "(LRunweaver;ILRunweaverLaw$Out;)I" } : Jvm.MethodName) ∈ mGw := mGw_of (tV_3_917 List.mem_cons_self) (by decide +kernel)
theorem mw_948 : Jvm.Cond.static ({ cls := "RunweaverLaw", name := "longest", desc := "(LRunweaver;ILRunweaverLaw$Out;)I" } : Jvm.MethodName) ∈ mGw := mGw_of (tV_3_918 List.mem_cons_self) (by decide +kernel)
theorem mw_949 : Jvm.Cond.codeWith ({ cls := "RunweaverLaw", name := "longest", desc := "(LRunweaver;ILRunweaverLaw$Out;)I" } : Jvm.MethodName) method_33_code (4 : Nat) (Option.some Jvm.ClassFile.FieldType.int) [((0 : Nat), (10 : Nat), (13 : Nat), (19 : Nat))] ∈ mGw := mGw_of (tV_3_919 List.mem_cons_self) (by decide +kernel)
theorem mw_950 : Jvm.Cond.methodLink "RunweaverLaw" (122 : Nat) ({ cls := "Runweaver", name := "longest", desc := "(I)I" } : Jvm.MethodName) ∈ mGw := mGw_of (tV_3_920 List.mem_cons_self) (by decide +kernel)
theorem mw_951 : Jvm.Cond.methodLink "RunweaverLaw" (268 : Nat) ({ cls := "RunweaverLaw", name := "count", desc := "(LRunweaver;IILRunweaverLaw$Out;)I" } : Jvm.MethodName) ∈ mGw := mGw_of (tV_3_921 List.mem_cons_self) (by decide +kernel)
theorem mw_952 : Jvm.Cond.static ({ cls := "RunweaverLaw", name := "count", desc := "(LRunweaver;IILRunweaverLaw$Out;)I" } : Jvm.MethodName) ∈ mGw := mGw_of (tV_3_922 List.mem_cons_self) (by decide +kernel)
theorem mw_953 : Jvm.Cond.codeWith ({ cls := "RunweaverLaw", name := "count", desc := "(LRunweaver;IILRunweaverLaw$Out;)I" } : Jvm.MethodName) method_34_code (5 : Nat) (Option.some Jvm.ClassFile.FieldType.int) [((0 : Nat), (11 : Nat), (14 : Nat), (19 : Nat)), ((0 : Nat), (11 : Nat), (18 : Nat), (21 : Nat))] ∈ mGw := mGw_of (tV_3_923 List.mem_cons_self) (by decide +kernel)
theorem mw_954 : Jvm.Cond.methodLink "RunweaverLaw" (125 : Nat) ({ cls := "Runweaver", name := "count", desc := "(II)I" } : Jvm.MethodName) ∈ mGw := mGw_of (tV_3_924 List.mem_cons_self) (by decide +kernel)
theorem mw_955 : Jvm.Cond.instanceMethod ({ cls := "Runweaver", name := "count", desc := "(II)I" } : Jvm.MethodName) ∈ mGw := mGw_of (tV_3_925 List.mem_cons_self) (by decide +kernel)
theorem mw_956 : Jvm.Cond.selects "Runweaver" ({ cls := "Runweaver", name := "count", desc := "(II)I" } : Jvm.MethodName) ({ cls := "Runweaver", name := "count", desc := "(II)I" } : Jvm.MethodName) ∈ mGw := mGw_of (tV_3_926 List.mem_cons_self) (by decide +kernel)
theorem mw_957 : Jvm.Cond.code ({ cls := "Runweaver", name := "count", desc := "(II)I" } : Jvm.MethodName) prog_1_method_34_code (4 : Nat) (Option.some Jvm.ClassFile.FieldType.int) ∈ mGw := mGw_of (tV_3_927 List.mem_cons_self) (by decide +kernel)
theorem mw_958 : Jvm.Cond.methodLink "Runweaver" (190 : Nat) ({ cls := "Runweaver$Row", name := "itemsWith", desc := "(I)I" } : Jvm.MethodName) ∈ mGw := mGw_of (tV_3_928 List.mem_cons_self) (by decide +kernel)
theorem mw_959 : Jvm.Cond.instanceMethod ({ cls := "Runweaver$Row", name := "itemsWith", desc := "(I)I" } : Jvm.MethodName) ∈ mGw := mGw_of (tV_3_929 List.mem_cons_self) (by decide +kernel)
theorem mw_960 : Jvm.Cond.selects "Runweaver$Row" ({ cls := "Runweaver$Row", name := "itemsWith", desc := "(I)I" } : Jvm.MethodName) ({ cls := "Runweaver$Row", name := "itemsWith", desc := "(I)I" } : Jvm.MethodName) ∈ mGw := mGw_of (tV_3_930 List.mem_cons_self) (by decide +kernel)
theorem mw_961 : Jvm.Cond.code ({ cls := "Runweaver$Row", name := "itemsWith", desc := "(I)I" } : Jvm.MethodName) prog_3_method_23_code (4 : Nat) (Option.some Jvm.ClassFile.FieldType.int) ∈ mGw := mGw_of (tV_3_931 List.mem_cons_self) (by decide +kernel)
theorem mw_962 : Jvm.Cond.methodLink "RunweaverLaw" (271 : Nat) ({ cls := "RunweaverLaw", name := "below", desc := "(LRunweaver;IILRunweaverLaw$Out;)I" } : Jvm.MethodName) ∈ mGw := mGw_of (tV_3_932 List.mem_cons_self) (by decide +kernel)
theorem mw_963 : Jvm.Cond.static ({ cls := "RunweaverLaw", name := "below", desc := "(LRunweaver;IILRunweaverLaw$Out;)I" } : Jvm.MethodName) ∈ mGw := mGw_of (tV_3_933 List.mem_cons_self) (by decide +kernel)
theorem mw_964 : Jvm.Cond.codeWith ({ cls := "RunweaverLaw", name := "below", desc := "(LRunweaver;IILRunweaverLaw$Out;)I" } : Jvm.MethodName) method_35_code (5 : Nat) (Option.some Jvm.ClassFile.FieldType.int) [((0 : Nat), (11 : Nat), (14 : Nat), (19 : Nat)), ((0 : Nat), (11 : Nat), (18 : Nat), (21 : Nat))] ∈ mGw := mGw_of (tV_3_934 List.mem_cons_self) (by decide +kernel)
theorem mw_965 : Jvm.Cond.methodLink "RunweaverLaw" (128 : Nat) ({ cls := "Runweaver", name := "below", desc := "(II)I" } : Jvm.MethodName) ∈ mGw := mGw_of (tV_3_935 List.mem_cons_self) (by decide +kernel)
theorem mw_966 : Jvm.Cond.instanceMethod ({ cls := "Runweaver", name := "below", desc := "(II)I" } : Jvm.MethodName) ∈ mGw := mGw_of (tV_3_936 List.mem_cons_self) (by decide +kernel)
theorem mw_967 : Jvm.Cond.selects "Runweaver" ({ cls := "Runweaver", name := "below", desc := "(II)I" } : Jvm.MethodName) ({ cls := "Runweaver", name := "below", desc := "(II)I" } : Jvm.MethodName) ∈ mGw := mGw_of (tV_3_937 List.mem_cons_self) (by decide +kernel)
theorem mw_968 : Jvm.Cond.code ({ cls := "Runweaver", name := "below", desc := "(II)I" } : Jvm.MethodName) prog_1_method_35_code (4 : Nat) (Option.some Jvm.ClassFile.FieldType.int) ∈ mGw := mGw_of (tV_3_938 List.mem_cons_self) (by decide +kernel)
theorem mw_969 : Jvm.Cond.methodLink "Runweaver" (193 : Nat) ({ cls := "Runweaver$Row", name := "itemsBelow", desc := "(I)I" } : Jvm.MethodName) ∈ mGw := mGw_of (tV_3_939 List.mem_cons_self) (by decide +kernel)
theorem mw_970 : Jvm.Cond.instanceMethod ({ cls := "Runweaver$Row", name := "itemsBelow", desc := "(I)I" } : Jvm.MethodName) ∈ mGw := mGw_of (tV_3_940 List.mem_cons_self) (by decide +kernel)
theorem mw_971 : Jvm.Cond.selects "Runweaver$Row" ({ cls := "Runweaver$Row", name := "itemsBelow", desc := "(I)I" } : Jvm.MethodName) ({ cls := "Runweaver$Row", name := "itemsBelow", desc := "(I)I" } : Jvm.MethodName) ∈ mGw := mGw_of (tV_3_941 List.mem_cons_self) (by decide +kernel)
theorem mw_972 : Jvm.Cond.code ({ cls := "Runweaver$Row", name := "itemsBelow", desc := "(I)I" } : Jvm.MethodName) prog_3_method_24_code (4 : Nat) (Option.some Jvm.ClassFile.FieldType.int) ∈ mGw := mGw_of (tV_3_942 List.mem_cons_self) (by decide +kernel)
theorem mw_973 : Jvm.Cond.methodLink "RunweaverLaw" (274 : Nat) ({ cls := "RunweaverLaw", name := "first", desc := "(LRunweaver;IIZLRunweaverLaw$Out;)I" } : Jvm.MethodName) ∈ mGw := mGw_of (tV_3_943 List.mem_cons_self) (by decide +kernel)
theorem mw_974 : Jvm.Cond.static ({ cls := "RunweaverLaw", name := "first", desc := "(LRunweaver;IIZLRunweaverLaw$Out;)I" } : Jvm.MethodName) ∈ mGw := mGw_of (tV_3_944 List.mem_cons_self) (by decide +kernel)
theorem mw_975 : Jvm.Cond.codeWith ({ cls := "RunweaverLaw", name := "first", desc := "(LRunweaver;IIZLRunweaverLaw$Out;)I" } : Jvm.MethodName) method_36_code (6 : Nat) (Option.some Jvm.ClassFile.FieldType.int) [((0 : Nat), (13 : Nat), (16 : Nat), (19 : Nat)), ((0 : Nat), (13 : Nat), (20 : Nat), (21 : Nat))] ∈ mGw := mGw_of (tV_3_945 List.mem_cons_self) (by decide +kernel)
theorem mw_976 : Jvm.Cond.methodLink "RunweaverLaw" (131 : Nat) ({ cls := "Runweaver", name := "first", desc := "(IIZ)I" } : Jvm.MethodName) ∈ mGw := mGw_of (tV_3_946 List.mem_cons_self) (by decide +kernel)
theorem mw_977 : Jvm.Cond.instanceMethod ({ cls := "Runweaver", name := "first", desc := "(IIZ)I" } : Jvm.MethodName) ∈ mGw := mGw_of (tV_3_947 List.mem_cons_self) (by decide +kernel)
theorem mw_978 : Jvm.Cond.selects "Runweaver" ({ cls := "Runweaver", name := "first", desc := "(IIZ)I" } : Jvm.MethodName) ({ cls := "Runweaver", name := "first", desc := "(IIZ)I" } : Jvm.MethodName) ∈ mGw := mGw_of (tV_3_948 List.mem_cons_self) (by decide +kernel)
theorem mw_979 : Jvm.Cond.code ({ cls := "Runweaver", name := "first", desc := "(IIZ)I" } : Jvm.MethodName) prog_1_method_36_code (5 : Nat) (Option.some Jvm.ClassFile.FieldType.int) ∈ mGw := mGw_of (tV_3_949 List.mem_cons_self) (by decide +kernel)
theorem mw_980 : Jvm.Cond.methodLink "Runweaver" (196 : Nat) ({ cls := "Runweaver$Row", name := "lastPlaceOf", desc := "(I)I" } : Jvm.MethodName) ∈ mGw := mGw_of (tV_3_950 List.mem_cons_self) (by decide +kernel)
theorem mw_981 : Jvm.Cond.instanceMethod ({ cls := "Runweaver$Row", name := "lastPlaceOf", desc := "(I)I" } : Jvm.MethodName) ∈ mGw := mGw_of (tV_3_951 List.mem_cons_self) (by decide +kernel)
theorem mw_982 : Jvm.Cond.selects "Runweaver$Row" ({ cls := "Runweaver$Row", name := "lastPlaceOf", desc := "(I)I" } : Jvm.MethodName) ({ cls := "Runweaver$Row", name := "lastPlaceOf", desc := "(I)I" } : Jvm.MethodName) ∈ mGw := mGw_of (tV_3_952 List.mem_cons_self) (by decide +kernel)
theorem mw_983 : Jvm.Cond.code ({ cls := "Runweaver$Row", name := "lastPlaceOf", desc := "(I)I" } : Jvm.MethodName) prog_3_method_26_code (3 : Nat) (Option.some Jvm.ClassFile.FieldType.int) ∈ mGw := mGw_of (tV_3_953 List.mem_cons_self) (by decide +kernel)
theorem mw_984 : Jvm.Cond.methodLink "Runweaver" (199 : Nat) ({ cls := "Runweaver$Row", name := "firstPlaceOf", desc := "(I)I" } : Jvm.MethodName) ∈ mGw := mGw_of (tV_3_954 List.mem_cons_self) (by decide +kernel)
theorem mw_985 : Jvm.Cond.instanceMethod ({ cls := "Runweaver$Row", name := "firstPlaceOf", desc := "(I)I" } : Jvm.MethodName) ∈ mGw := mGw_of (tV_3_955 List.mem_cons_self) (by decide +kernel)
theorem mw_986 : Jvm.Cond.selects "Runweaver$Row" ({ cls := "Runweaver$Row", name := "firstPlaceOf", desc := "(I)I" } : Jvm.MethodName) ({ cls := "Runweaver$Row", name := "firstPlaceOf", desc := "(I)I" } : Jvm.MethodName) ∈ mGw := mGw_of (tV_3_956 List.mem_cons_self) (by decide +kernel)
theorem mw_987 : Jvm.Cond.code ({ cls := "Runweaver$Row", name := "firstPlaceOf", desc := "(I)I" } : Jvm.MethodName) prog_3_method_25_code (3 : Nat) (Option.some Jvm.ClassFile.FieldType.int) ∈ mGw := mGw_of (tV_3_957 List.mem_cons_self) (by decide +kernel)
theorem mw_988 : Jvm.Cond.methodLink "RunweaverLaw" (278 : Nat) ({ cls := "RunweaverLaw", name := "end", desc := "(LRunweaver;IZLRunweaverLaw$Out;)I" } : Jvm.MethodName) ∈ mGw := mGw_of (tV_3_958 List.mem_cons_self) (by decide +kernel)
theorem mw_989 : Jvm.Cond.static ({ cls := "RunweaverLaw", name := "end", desc := "(LRunweaver;IZLRunweaverLaw$Out;)I" } : Jvm.MethodName) ∈ mGw := mGw_of (tV_3_959 List.mem_cons_self) (by decide +kernel)
theorem mw_990 : Jvm.Cond.codeWith ({ cls := "RunweaverLaw", name := "end", desc := "(LRunweaver;IZLRunweaverLaw$Out;)I" } : Jvm.MethodName) method_37_code (5 : Nat) (Option.some Jvm.ClassFile.FieldType.int) [((0 : Nat), (11 : Nat), (14 : Nat), (19 : Nat))] ∈ mGw := mGw_of (tV_4_960 List.mem_cons_self) (by decide +kernel)
theorem mw_991 : Jvm.Cond.methodLink "RunweaverLaw" (135 : Nat) ({ cls := "Runweaver", name := "end", desc := "(IZ)I" } : Jvm.MethodName) ∈ mGw := mGw_of (tV_4_961 List.mem_cons_self) (by decide +kernel)
theorem mw_992 : Jvm.Cond.instanceMethod ({ cls := "Runweaver", name := "end", desc := "(IZ)I" } : Jvm.MethodName) ∈ mGw := mGw_of (tV_4_962 List.mem_cons_self) (by decide +kernel)
theorem mw_993 : Jvm.Cond.selects "Runweaver" ({ cls := "Runweaver", name := "end", desc := "(IZ)I" } : Jvm.MethodName) ({ cls := "Runweaver", name := "end", desc := "(IZ)I" } : Jvm.MethodName) ∈ mGw := mGw_of (tV_4_963 List.mem_cons_self) (by decide +kernel)
theorem mw_994 : Jvm.Cond.code ({ cls := "Runweaver", name := "end", desc := "(IZ)I" } : Jvm.MethodName) prog_1_method_37_code (4 : Nat) (Option.some Jvm.ClassFile.FieldType.int) ∈ mGw := mGw_of (tV_4_964 List.mem_cons_self) (by decide +kernel)
theorem mw_995 : Jvm.Cond.methodLink "Runweaver" (202 : Nat) ({ cls := "Runweaver$Row", name := "greatestKey", desc := "()I" } : Jvm.MethodName) ∈ mGw := mGw_of (tV_4_965 List.mem_cons_self) (by decide +kernel)
theorem mw_996 : Jvm.Cond.instanceMethod ({ cls := "Runweaver$Row", name := "greatestKey", desc := "()I" } : Jvm.MethodName) ∈ mGw := mGw_of (tV_4_966 List.mem_cons_self) (by decide +kernel)
theorem mw_997 : Jvm.Cond.selects "Runweaver$Row" ({ cls := "Runweaver$Row", name := "greatestKey", desc := "()I" } : Jvm.MethodName) ({ cls := "Runweaver$Row", name := "greatestKey", desc := "()I" } : Jvm.MethodName) ∈ mGw := mGw_of (tV_4_967 List.mem_cons_self) (by decide +kernel)
theorem mw_998 : Jvm.Cond.code ({ cls := "Runweaver$Row", name := "greatestKey", desc := "()I" } : Jvm.MethodName) prog_3_method_28_code (3 : Nat) (Option.some Jvm.ClassFile.FieldType.int) ∈ mGw := mGw_of (tV_4_968 List.mem_cons_self) (by decide +kernel)
theorem mw_999 : Jvm.Cond.constant "Runweaver$Row" (49 : Nat) (-100000 : Int32) ∈ mGw := mGw_of (tV_4_969 List.mem_cons_self) (by decide +kernel)
theorem mw_1000 : Jvm.Cond.methodLink "Runweaver" (205 : Nat) ({ cls := "Runweaver$Row", name := "leastKey", desc := "()I" } : Jvm.MethodName) ∈ mGw := mGw_of (tV_4_970 List.mem_cons_self) (by decide +kernel)
theorem mw_1001 : Jvm.Cond.instanceMethod ({ cls := "Runweaver$Row", name := "leastKey", desc := "()I" } : Jvm.MethodName) ∈ mGw := mGw_of (tV_4_971 List.mem_cons_self) (by decide +kernel)
theorem mw_1002 : Jvm.Cond.selects "Runweaver$Row" ({ cls := "Runweaver$Row", name := "leastKey", desc := "()I" } : Jvm.MethodName) ({ cls := "Runweaver$Row", name := "leastKey", desc := "()I" } : Jvm.MethodName) ∈ mGw := mGw_of (tV_4_972 List.mem_cons_self) (by decide +kernel)
theorem mw_1003 : Jvm.Cond.code ({ cls := "Runweaver$Row", name := "leastKey", desc := "()I" } : Jvm.MethodName) prog_3_method_27_code (3 : Nat) (Option.some Jvm.ClassFile.FieldType.int) ∈ mGw := mGw_of (tV_4_973 List.mem_cons_self) (by decide +kernel)
theorem mw_1004 : Jvm.Cond.methodLink "RunweaverLaw" (282 : Nat) ({ cls := "RunweaverLaw", name := "unlike", desc := "(LRunweaver;ILRunweaverLaw$Out;)I" } : Jvm.MethodName) ∈ mGw := mGw_of (tV_4_974 List.mem_cons_self) (by decide +kernel)
theorem mw_1005 : Jvm.Cond.static ({ cls := "RunweaverLaw", name := "unlike", desc := "(LRunweaver;ILRunweaverLaw$Out;)I" } : Jvm.MethodName) ∈ mGw := mGw_of (tV_4_975 List.mem_cons_self) (by decide +kernel)
theorem mw_1006 : Jvm.Cond.codeWith ({ cls := "RunweaverLaw", name := "unlike", desc := "(LRunweaver;ILRunweaverLaw$Out;)I" } : Jvm.MethodName) method_38_code (4 : Nat) (Option.some Jvm.ClassFile.FieldType.int) [((0 : Nat), (10 : Nat), (13 : Nat), (19 : Nat))] ∈ mGw := mGw_of (tV_4_976 List.mem_cons_self) (by decide +kernel)
theorem mw_1007 : Jvm.Cond.methodLink "RunweaverLaw" (139 : Nat) ({ cls := "Runweaver", name := "unlike", desc := "(I)I" } : Jvm.MethodName) ∈ mGw := mGw_of (tV_4_977 List.mem_cons_self) (by decide +kernel)
theorem mw_1008 : Jvm.Cond.methodLink "RunweaverLaw" (285 : Nat) ({ cls := "RunweaverLaw", name := "most", desc := "(LRunweaver;ILRunweaverLaw$Out;)I" } : Jvm.MethodName) ∈ mGw := mGw_of (tV_4_978 List.mem_cons_self) (by decide +kernel)
theorem mw_1009 : Jvm.Cond.static ({ cls := "RunweaverLaw", name := "most", desc := "(LRunweaver;ILRunweaverLaw$Out;)I" } : Jvm.MethodName) ∈ mGw := mGw_of (tV_4_979 List.mem_cons_self) (by decide +kernel)
theorem mw_1010 : Jvm.Cond.codeWith ({ cls := "RunweaverLaw", name := "most", desc := "(LRunweaver;ILRunweaverLaw$Out;)I" } : Jvm.MethodName) method_39_code (4 : Nat) (Option.some Jvm.ClassFile.FieldType.int) [((0 : Nat), (10 : Nat), (13 : Nat), (19 : Nat))] ∈ mGw := mGw_of (tV_4_980 List.mem_cons_self) (by decide +kernel)
theorem mw_1011 : Jvm.Cond.methodLink "RunweaverLaw" (142 : Nat) ({ cls := "Runweaver", name := "most", desc := "(I)I" } : Jvm.MethodName) ∈ mGw := mGw_of (tV_4_981 List.mem_cons_self) (by decide +kernel)
theorem mw_1012 : Jvm.Cond.instanceMethod ({ cls := "Runweaver", name := "most", desc := "(I)I" } : Jvm.MethodName) ∈ mGw := mGw_of (tV_4_982 List.mem_cons_self) (by decide +kernel)
theorem mw_1013 : Jvm.Cond.selects "Runweaver" ({ cls := "Runweaver", name := "most", desc := "(I)I" } : Jvm.MethodName) ({ cls := "Runweaver", name := "most", desc := "(I)I" } : Jvm.MethodName) ∈ mGw := mGw_of (tV_4_983 List.mem_cons_self) (by decide +kernel)
theorem mw_1014 : Jvm.Cond.code ({ cls := "Runweaver", name := "most", desc := "(I)I" } : Jvm.MethodName) prog_1_method_39_code (2 : Nat) (Option.some Jvm.ClassFile.FieldType.int) ∈ mGw := mGw_of (tV_4_984 List.mem_cons_self) (by decide +kernel)
theorem mw_1015 : Jvm.Cond.methodLink "Runweaver" (211 : Nat) ({ cls := "Runweaver$Row", name := "commonestKeyOfSorted", desc := "()I" } : Jvm.MethodName) ∈ mGw := mGw_of (tV_4_985 List.mem_cons_self) (by decide +kernel)
theorem mw_1016 : Jvm.Cond.instanceMethod ({ cls := "Runweaver$Row", name := "commonestKeyOfSorted", desc := "()I" } : Jvm.MethodName) ∈ mGw := mGw_of (tV_4_986 List.mem_cons_self) (by decide +kernel)
theorem mw_1017 : Jvm.Cond.selects "Runweaver$Row" ({ cls := "Runweaver$Row", name := "commonestKeyOfSorted", desc := "()I" } : Jvm.MethodName) ({ cls := "Runweaver$Row", name := "commonestKeyOfSorted", desc := "()I" } : Jvm.MethodName) ∈ mGw := mGw_of (tV_4_987 List.mem_cons_self) (by decide +kernel)
theorem mw_1018 : Jvm.Cond.code ({ cls := "Runweaver$Row", name := "commonestKeyOfSorted", desc := "()I" } : Jvm.MethodName) prog_3_method_32_code (5 : Nat) (Option.some Jvm.ClassFile.FieldType.int) ∈ mGw := mGw_of (tV_4_988 List.mem_cons_self) (by decide +kernel)
theorem mw_1019 : Jvm.Cond.methodLink "RunweaverLaw" (288 : Nat) ({ cls := "RunweaverLaw", name := "sum", desc := "(LRunweaver;ILRunweaverLaw$Out;)I" } : Jvm.MethodName) ∈ mGw := mGw_of (tV_4_989 List.mem_cons_self) (by decide +kernel)
theorem mw_1020 : Jvm.Cond.static ({ cls := "RunweaverLaw", name := "sum", desc := "(LRunweaver;ILRunweaverLaw$Out;)I" } : Jvm.MethodName) ∈ mGw := mGw_of (tV_4_990 List.mem_cons_self) (by decide +kernel)
theorem mw_1021 : Jvm.Cond.codeWith ({ cls := "RunweaverLaw", name := "sum", desc := "(LRunweaver;ILRunweaverLaw$Out;)I" } : Jvm.MethodName) method_40_code (4 : Nat) (Option.some Jvm.ClassFile.FieldType.int) [((0 : Nat), (10 : Nat), (13 : Nat), (19 : Nat))] ∈ mGw := mGw_of (tV_4_991 List.mem_cons_self) (by decide +kernel)
theorem mw_1022 : Jvm.Cond.methodLink "RunweaverLaw" (145 : Nat) ({ cls := "Runweaver", name := "sum", desc := "(I)I" } : Jvm.MethodName) ∈ mGw := mGw_of (tV_4_992 List.mem_cons_self) (by decide +kernel)
theorem mw_1023 : Jvm.Cond.methodLink "RunweaverLaw" (291 : Nat) ({ cls := "RunweaverLaw", name := "same", desc := "(LRunweaver;IILRunweaverLaw$Out;)I" } : Jvm.MethodName) ∈ mGw := mGw_of (tV_4_993 List.mem_cons_self) (by decide +kernel)
theorem mw_1024 : Jvm.Cond.static ({ cls := "RunweaverLaw", name := "same", desc := "(LRunweaver;IILRunweaverLaw$Out;)I" } : Jvm.MethodName) ∈ mGw := mGw_of (tV_4_994 List.mem_cons_self) (by decide +kernel)
theorem mw_1025 : Jvm.Cond.codeWith ({ cls := "RunweaverLaw", name := "same", desc := "(LRunweaver;IILRunweaverLaw$Out;)I" } : Jvm.MethodName) method_41_code (5 : Nat) (Option.some Jvm.ClassFile.FieldType.int) [((0 : Nat), (18 : Nat), (21 : Nat), (19 : Nat))] ∈ mGw := mGw_of (tV_4_995 List.mem_cons_self) (by decide +kernel)
theorem mw_1026 : Jvm.Cond.methodLink "RunweaverLaw" (148 : Nat) ({ cls := "Runweaver", name := "same", desc := "(II)Z" } : Jvm.MethodName) ∈ mGw := mGw_of (tV_4_996 List.mem_cons_self) (by decide +kernel)
theorem mw_1027 : Jvm.Cond.instanceMethod ({ cls := "Runweaver", name := "same", desc := "(II)Z" } : Jvm.MethodName) ∈ mGw := mGw_of (tV_4_997 List.mem_cons_self) (by decide +kernel)
theorem mw_1028 : Jvm.Cond.selects "Runweaver" ({ cls := "Runweaver", name := "same", desc := "(II)Z" } : Jvm.MethodName) ({ cls := "Runweaver", name := "same", desc := "(II)Z" } : Jvm.MethodName) ∈ mGw := mGw_of (tV_4_998 List.mem_cons_self) (by decide +kernel)
theorem mw_1029 : Jvm.Cond.code ({ cls := "Runweaver", name := "same", desc := "(II)Z" } : Jvm.MethodName) prog_1_method_41_code (5 : Nat) (Option.some Jvm.ClassFile.FieldType.boolean) ∈ mGw := mGw_of (tV_4_999 List.mem_cons_self) (by decide +kernel)
theorem mw_1030 : Jvm.Cond.methodLink "RunweaverLaw" (294 : Nat) ({ cls := "RunweaverLaw", name := "bag", desc := "(LRunweaver;IILRunweaverLaw$Out;)I" } : Jvm.MethodName) ∈ mGw := mGw_of (tV_4_1000 List.mem_cons_self) (by decide +kernel)
theorem mw_1031 : Jvm.Cond.static ({ cls := "RunweaverLaw", name := "bag", desc := "(LRunweaver;IILRunweaverLaw$Out;)I" } : Jvm.MethodName) ∈ mGw := mGw_of (tV_4_1001 List.mem_cons_self) (by decide +kernel)
theorem mw_1032 : Jvm.Cond.codeWith ({ cls := "RunweaverLaw", name := "bag", desc := "(LRunweaver;IILRunweaverLaw$Out;)I" } : Jvm.MethodName) method_42_code (5 : Nat) (Option.some Jvm.ClassFile.FieldType.int) [((0 : Nat), (18 : Nat), (21 : Nat), (19 : Nat))] ∈ mGw := mGw_of (tV_4_1002 List.mem_cons_self) (by decide +kernel)
theorem mw_1033 : Jvm.Cond.methodLink "RunweaverLaw" (152 : Nat) ({ cls := "Runweaver", name := "bag", desc := "(II)Z" } : Jvm.MethodName) ∈ mGw := mGw_of (tV_4_1003 List.mem_cons_self) (by decide +kernel)
theorem mw_1034 : Jvm.Cond.instanceMethod ({ cls := "Runweaver", name := "bag", desc := "(II)Z" } : Jvm.MethodName) ∈ mGw := mGw_of (tV_4_1004 List.mem_cons_self) (by decide +kernel)
theorem mw_1035 : Jvm.Cond.selects "Runweaver" ({ cls := "Runweaver", name := "bag", desc := "(II)Z" } : Jvm.MethodName) ({ cls := "Runweaver", name := "bag", desc := "(II)Z" } : Jvm.MethodName) ∈ mGw := mGw_of (tV_4_1005 List.mem_cons_self) (by decide +kernel)
theorem mw_1036 : Jvm.Cond.code ({ cls := "Runweaver", name := "bag", desc := "(II)Z" } : Jvm.MethodName) prog_1_method_42_code (5 : Nat) (Option.some Jvm.ClassFile.FieldType.boolean) ∈ mGw := mGw_of (tV_4_1006 List.mem_cons_self) (by decide +kernel)
theorem mw_1037 : Jvm.Cond.methodLink "RunweaverLaw" (301 : Nat) ({ cls := "RunweaverLaw", name := "mark", desc := "(LRunweaver;IZLRunweaverLaw$Out;)I" } : Jvm.MethodName) ∈ mGw := mGw_of (tV_4_1007 List.mem_cons_self) (by decide +kernel)
theorem mw_1038 : Jvm.Cond.static ({ cls := "RunweaverLaw", name := "mark", desc := "(LRunweaver;IZLRunweaverLaw$Out;)I" } : Jvm.MethodName) ∈ mGw := mGw_of (tV_4_1008 List.mem_cons_self) (by decide +kernel)
theorem mw_1039 : Jvm.Cond.codeWith ({ cls := "RunweaverLaw", name := "mark", desc := "(LRunweaver;IZLRunweaverLaw$Out;)I" } : Jvm.MethodName) method_43_code (5 : Nat) (Option.some Jvm.ClassFile.FieldType.int) [((0 : Nat), (11 : Nat), (14 : Nat), (19 : Nat))] ∈ mGw := mGw_of (tV_4_1009 List.mem_cons_self) (by decide +kernel)
theorem mw_1040 : Jvm.Cond.methodLink "RunweaverLaw" (155 : Nat) ({ cls := "Runweaver", name := "mark", desc := "(IZ)I" } : Jvm.MethodName) ∈ mGw := mGw_of (tV_4_1010 List.mem_cons_self) (by decide +kernel)
theorem mw_1041 : Jvm.Cond.methodLink "RunweaverLaw" (304 : Nat) ({ cls := "RunweaverLaw", name := "house", desc := "(LRunweaver;ILRunweaverLaw$Out;)I" } : Jvm.MethodName) ∈ mGw := mGw_of (tV_4_1011 List.mem_cons_self) (by decide +kernel)
theorem mw_1042 : Jvm.Cond.static ({ cls := "RunweaverLaw", name := "house", desc := "(LRunweaver;ILRunweaverLaw$Out;)I" } : Jvm.MethodName) ∈ mGw := mGw_of (tV_4_1012 List.mem_cons_self) (by decide +kernel)
theorem mw_1043 : Jvm.Cond.codeWith ({ cls := "RunweaverLaw", name := "house", desc := "(LRunweaver;ILRunweaverLaw$Out;)I" } : Jvm.MethodName) method_44_code (4 : Nat) (Option.some Jvm.ClassFile.FieldType.int) [((0 : Nat), (10 : Nat), (13 : Nat), (21 : Nat))] ∈ mGw := mGw_of (tV_4_1013 List.mem_cons_self) (by decide +kernel)
theorem mw_1044 : Jvm.Cond.methodLink "RunweaverLaw" (158 : Nat) ({ cls := "Runweaver", name := "house", desc := "(I)I" } : Jvm.MethodName) ∈ mGw := mGw_of (tV_4_1014 List.mem_cons_self) (by decide +kernel)
theorem mw_1045 : Jvm.Cond.classLink "RunweaverLaw" (162 : Nat) "RunweaverModel" ∈ mGw := mGw_of (tV_4_1015 List.mem_cons_self) (by decide +kernel)
theorem mw_1046 : Jvm.Cond.instantiable "RunweaverModel" (7 : Nat) ∈ mGw := mGw_of (tV_4_1016 List.mem_cons_self) (by decide +kernel)
theorem mw_1047 : Jvm.Cond.methodLink "RunweaverLaw" (164 : Nat) ({ cls := "RunweaverModel", name := "<init>", desc := "()V" } : Jvm.MethodName) ∈ mGw := mGw_of (tV_4_1017 List.mem_cons_self) (by decide +kernel)
theorem mw_1048 : Jvm.Cond.instanceMethod ({ cls := "RunweaverModel", name := "<init>", desc := "()V" } : Jvm.MethodName) ∈ mGw := mGw_of (tV_4_1018 List.mem_cons_self) (by decide +kernel)
theorem mw_1049 : Jvm.Cond.code ({ cls := "RunweaverModel", name := "<init>", desc := "()V" } : Jvm.MethodName) prog_6_method_1_code (1 : Nat) (Option.none : Option Jvm.ClassFile.FieldType) ∈ mGw := mGw_of (tV_4_1019 List.mem_cons_self) (by decide +kernel)
theorem mw_1050 : Jvm.Cond.methodLink "RunweaverModel" (1 : Nat) ({ cls := "java/lang/Object", name := "<init>", desc := "()V" } : Jvm.MethodName) ∈ mGw := mGw_of (tV_4_1020 List.mem_cons_self) (by decide +kernel)
theorem mw_1051 : Jvm.Cond.classLink "RunweaverModel" (9 : Nat) "[[I" ∈ mGw := mGw_of (tV_4_1021 List.mem_cons_self) (by decide +kernel)
theorem mw_1053 : Jvm.Cond.fieldLink "RunweaverModel" (11 : Nat) "RunweaverModel" "keys" "[[I" ∈ mGw := mGw_of (tV_4_1023 List.mem_cons_self) (by decide +kernel)
theorem mw_1054 : Jvm.Cond.fieldLink "RunweaverModel" (14 : Nat) "RunweaverModel" "stamps" "[[I" ∈ mGw := mGw_of (tV_4_1024 List.mem_cons_self) (by decide +kernel)
theorem mw_1055 : Jvm.Cond.fieldLink "RunweaverModel" (35 : Nat) "RunweaverModel" "given" "I" ∈ mGw := mGw_of (tV_4_1025 List.mem_cons_self) (by decide +kernel)
theorem mw_1056 : Jvm.Cond.fieldLink "RunweaverModel" (29 : Nat) "RunweaverModel" "acts" "I" ∈ mGw := mGw_of (tV_4_1026 List.mem_cons_self) (by decide +kernel)
theorem mw_1057 : Jvm.Cond.fieldLink "RunweaverModel" (32 : Nat) "RunweaverModel" "refused" "I" ∈ mGw := mGw_of (tV_4_1027 List.mem_cons_self) (by decide +kernel)
theorem mw_1058 : Jvm.Cond.fieldLink "RunweaverModel" (146 : Nat) "RunweaverModel" "knocks" "I" ∈ mGw := mGw_of (tV_4_1028 List.mem_cons_self) (by decide +kernel)
theorem mw_1059 : Jvm.Cond.fieldLink "RunweaverModel" (17 : Nat) "RunweaverModel" "thrown" "I" ∈ mGw := mGw_of (tV_4_1029 List.mem_cons_self) (by decide +kernel)
theorem mw_1074 : Jvm.Cond.superclass "RunweaverModel" "java/lang/Object" ∈ mGw := mGw_of (tV_4_1044 List.mem_cons_self) (by decide +kernel)
theorem mw_1075 : Jvm.Cond.methodLink "RunweaverLaw" (297 : Nat) ({ cls := "RunweaverModel", name := "thrown", desc := "()I" } : Jvm.MethodName) ∈ mGw := mGw_of (tV_4_1045 List.mem_cons_self) (by decide +kernel)
theorem mw_1076 : Jvm.Cond.instanceMethod ({ cls := "RunweaverModel", name := "thrown", desc := "()I" } : Jvm.MethodName) ∈ mGw := mGw_of (tV_4_1046 List.mem_cons_self) (by decide +kernel)
theorem mw_1077 : Jvm.Cond.selects "RunweaverModel" ({ cls := "RunweaverModel", name := "thrown", desc := "()I" } : Jvm.MethodName) ({ cls := "RunweaverModel", name := "thrown", desc := "()I" } : Jvm.MethodName) ∈ mGw := mGw_of (tV_4_1047 List.mem_cons_self) (by decide +kernel)
theorem mw_1078 : Jvm.Cond.code ({ cls := "RunweaverModel", name := "thrown", desc := "()I" } : Jvm.MethodName) prog_6_method_2_code (1 : Nat) (Option.some Jvm.ClassFile.FieldType.int) ∈ mGw := mGw_of (tV_4_1048 List.mem_cons_self) (by decide +kernel)
theorem mw_1079 : Jvm.Cond.methodLink "RunweaverLaw" (171 : Nat) ({ cls := "RunweaverModel", name := "fill", desc := "(IIIII)I" } : Jvm.MethodName) ∈ mGw := mGw_of (tV_4_1049 List.mem_cons_self) (by decide +kernel)
theorem mw_1080 : Jvm.Cond.instanceMethod ({ cls := "RunweaverModel", name := "fill", desc := "(IIIII)I" } : Jvm.MethodName) ∈ mGw := mGw_of (tV_4_1050 List.mem_cons_self) (by decide +kernel)
theorem mw_1081 : Jvm.Cond.selects "RunweaverModel" ({ cls := "RunweaverModel", name := "fill", desc := "(IIIII)I" } : Jvm.MethodName) ({ cls := "RunweaverModel", name := "fill", desc := "(IIIII)I" } : Jvm.MethodName) ∈ mGw := mGw_of (tV_4_1051 List.mem_cons_self) (by decide +kernel)
theorem mw_1082 : Jvm.Cond.code ({ cls := "RunweaverModel", name := "fill", desc := "(IIIII)I" } : Jvm.MethodName) prog_6_method_18_code (9 : Nat) (Option.some Jvm.ClassFile.FieldType.int) ∈ mGw := mGw_of (tV_4_1052 List.mem_cons_self) (by decide +kernel)
theorem mw_1083 : Jvm.Cond.methodLink "RunweaverModel" (25 : Nat) ({ cls := "RunweaverModel", name := "isRow", desc := "(I)Z" } : Jvm.MethodName) ∈ mGw := mGw_of (tV_4_1053 List.mem_cons_self) (by decide +kernel)
theorem mw_1084 : Jvm.Cond.static ({ cls := "RunweaverModel", name := "isRow", desc := "(I)Z" } : Jvm.MethodName) ∈ mGw := mGw_of (tV_4_1054 List.mem_cons_self) (by decide +kernel)
theorem mw_1085 : Jvm.Cond.code ({ cls := "RunweaverModel", name := "isRow", desc := "(I)Z" } : Jvm.MethodName) prog_6_method_5_code (1 : Nat) (Option.some Jvm.ClassFile.FieldType.boolean) ∈ mGw := mGw_of (tV_4_1055 List.mem_cons_self) (by decide +kernel)
theorem mw_1086 : Jvm.Cond.methodLink "RunweaverModel" (21 : Nat) ({ cls := "RunweaverModel", name := "isIn", desc := "(III)Z" } : Jvm.MethodName) ∈ mGw := mGw_of (tV_4_1056 List.mem_cons_self) (by decide +kernel)
theorem mw_1087 : Jvm.Cond.static ({ cls := "RunweaverModel", name := "isIn", desc := "(III)Z" } : Jvm.MethodName) ∈ mGw := mGw_of (tV_4_1057 List.mem_cons_self) (by decide +kernel)
theorem mw_1088 : Jvm.Cond.code ({ cls := "RunweaverModel", name := "isIn", desc := "(III)Z" } : Jvm.MethodName) prog_6_method_3_code (3 : Nat) (Option.some Jvm.ClassFile.FieldType.boolean) ∈ mGw := mGw_of (tV_4_1058 List.mem_cons_self) (by decide +kernel)
theorem mw_1089 : Jvm.Cond.methodLink "RunweaverModel" (52 : Nat) ({ cls := "RunweaverModel", name := "room", desc := "(I)I" } : Jvm.MethodName) ∈ mGw := mGw_of (tV_4_1059 List.mem_cons_self) (by decide +kernel)
theorem mw_1090 : Jvm.Cond.static ({ cls := "RunweaverModel", name := "room", desc := "(I)I" } : Jvm.MethodName) ∈ mGw := mGw_of (tV_4_1060 List.mem_cons_self) (by decide +kernel)
theorem mw_1091 : Jvm.Cond.code ({ cls := "RunweaverModel", name := "room", desc := "(I)I" } : Jvm.MethodName) prog_6_method_4_code (1 : Nat) (Option.some Jvm.ClassFile.FieldType.int) ∈ mGw := mGw_of (tV_4_1061 List.mem_cons_self) (by decide +kernel)
theorem mw_1092 : Jvm.Cond.methodLink "RunweaverModel" (56 : Nat) ({ cls := "RunweaverModel", name := "isLet", desc := "(ZZ)Z" } : Jvm.MethodName) ∈ mGw := mGw_of (tV_4_1062 List.mem_cons_self) (by decide +kernel)
theorem mw_1094 : Jvm.Cond.instanceMethod ({ cls := "RunweaverModel", name := "isLet", desc := "(ZZ)Z" } : Jvm.MethodName) ∈ mGw := mGw_of (tV_4_1064 List.mem_cons_self) (by decide +kernel)
theorem mw_1095 : Jvm.Cond.code ({ cls := "RunweaverModel", name := "isLet", desc := "(ZZ)Z" } : Jvm.MethodName) prog_6_method_7_code (3 : Nat) (Option.some Jvm.ClassFile.FieldType.boolean) ∈ mGw := mGw_of (tV_4_1065 List.mem_cons_self) (by decide +kernel)
theorem mw_1096 : Jvm.Cond.constant "RunweaverModel" (60 : Nat) (65536 : Int32) ∈ mGw := mGw_of (tV_4_1066 List.mem_cons_self) (by decide +kernel)
theorem mw_1097 : Jvm.Cond.methodLink "RunweaverModel" (61 : Nat) ({ cls := "RunweaverModel", name := "patterned", desc := "(IIIII)I" } : Jvm.MethodName) ∈ mGw := mGw_of (tV_4_1067 List.mem_cons_self) (by decide +kernel)
theorem mw_1098 : Jvm.Cond.static ({ cls := "RunweaverModel", name := "patterned", desc := "(IIIII)I" } : Jvm.MethodName) ∈ mGw := mGw_of (tV_4_1068 List.mem_cons_self) (by decide +kernel)
theorem mw_1099 : Jvm.Cond.code ({ cls := "RunweaverModel", name := "patterned", desc := "(IIIII)I" } : Jvm.MethodName) prog_6_method_17_code (7 : Nat) (Option.some Jvm.ClassFile.FieldType.int) ∈ mGw := mGw_of (tV_4_1069 List.mem_cons_self) (by decide +kernel)
theorem mw_1100 : Jvm.Cond.methodLink "RunweaverModel" (46 : Nat) ({ cls := "java/lang/Math", name := "min", desc := "(II)I" } : Jvm.MethodName) ∈ mGw := mGw_of (tV_4_1070 List.mem_cons_self) (by decide +kernel)
theorem mw_1101 : Jvm.Cond.methodLink "RunweaverModel" (38 : Nat) ({ cls := "RunweaverModel", name := "made", desc := "(II)[I" } : Jvm.MethodName) ∈ mGw := mGw_of (tV_4_1071 List.mem_cons_self) (by decide +kernel)
theorem mw_1103 : Jvm.Cond.instanceMethod ({ cls := "RunweaverModel", name := "made", desc := "(II)[I" } : Jvm.MethodName) ∈ mGw := mGw_of (tV_4_1073 List.mem_cons_self) (by decide +kernel)
theorem mw_1104 : Jvm.Cond.code ({ cls := "RunweaverModel", name := "made", desc := "(II)[I" } : Jvm.MethodName) prog_6_method_10_code (5 : Nat) (Option.some (Jvm.ClassFile.FieldType.array Jvm.ClassFile.FieldType.int)) ∈ mGw := mGw_of (tV_4_1074 List.mem_cons_self) (by decide +kernel)
theorem mw_1105 : Jvm.Cond.methodLink "RunweaverModel" (65 : Nat) ({ cls := "RunweaverModel", name := "did", desc := "(I)I" } : Jvm.MethodName) ∈ mGw := mGw_of (tV_4_1075 List.mem_cons_self) (by decide +kernel)
theorem mw_1107 : Jvm.Cond.instanceMethod ({ cls := "RunweaverModel", name := "did", desc := "(I)I" } : Jvm.MethodName) ∈ mGw := mGw_of (tV_4_1077 List.mem_cons_self) (by decide +kernel)
theorem mw_1108 : Jvm.Cond.code ({ cls := "RunweaverModel", name := "did", desc := "(I)I" } : Jvm.MethodName) prog_6_method_8_code (2 : Nat) (Option.some Jvm.ClassFile.FieldType.int) ∈ mGw := mGw_of (tV_4_1078 List.mem_cons_self) (by decide +kernel)
theorem mw_1109 : Jvm.Cond.methodLink "RunweaverLaw" (175 : Nat) ({ cls := "RunweaverModel", name := "add", desc := "(II)I" } : Jvm.MethodName) ∈ mGw := mGw_of (tV_4_1079 List.mem_cons_self) (by decide +kernel)
theorem mw_1110 : Jvm.Cond.instanceMethod ({ cls := "RunweaverModel", name := "add", desc := "(II)I" } : Jvm.MethodName) ∈ mGw := mGw_of (tV_4_1080 List.mem_cons_self) (by decide +kernel)
theorem mw_1111 : Jvm.Cond.selects "RunweaverModel" ({ cls := "RunweaverModel", name := "add", desc := "(II)I" } : Jvm.MethodName) ({ cls := "RunweaverModel", name := "add", desc := "(II)I" } : Jvm.MethodName) ∈ mGw := mGw_of (tV_4_1081 List.mem_cons_self) (by decide +kernel)
theorem mw_1112 : Jvm.Cond.code ({ cls := "RunweaverModel", name := "add", desc := "(II)I" } : Jvm.MethodName) prog_6_method_19_code (3 : Nat) (Option.some Jvm.ClassFile.FieldType.int) ∈ mGw := mGw_of (tV_4_1082 List.mem_cons_self) (by decide +kernel)
theorem mw_1113 : Jvm.Cond.constant "RunweaverModel" (68 : Nat) (-99999 : Int32) ∈ mGw := mGw_of (tV_4_1083 List.mem_cons_self) (by decide +kernel)
theorem mw_1114 : Jvm.Cond.constant "RunweaverModel" (69 : Nat) (99999 : Int32) ∈ mGw := mGw_of (tV_4_1084 List.mem_cons_self) (by decide +kernel)
theorem mw_1115 : Jvm.Cond.methodLink "RunweaverModel" (70 : Nat) ({ cls := "RunweaverModel", name := "refuse", desc := "()I" } : Jvm.MethodName) ∈ mGw := mGw_of (tV_4_1085 List.mem_cons_self) (by decide +kernel)
theorem mw_1117 : Jvm.Cond.instanceMethod ({ cls := "RunweaverModel", name := "refuse", desc := "()I" } : Jvm.MethodName) ∈ mGw := mGw_of (tV_4_1087 List.mem_cons_self) (by decide +kernel)
theorem mw_1118 : Jvm.Cond.code ({ cls := "RunweaverModel", name := "refuse", desc := "()I" } : Jvm.MethodName) prog_6_method_9_code (1 : Nat) (Option.some Jvm.ClassFile.FieldType.int) ∈ mGw := mGw_of (tV_4_1088 List.mem_cons_self) (by decide +kernel)
theorem mw_1119 : Jvm.Cond.methodLink "RunweaverModel" (74 : Nat) ({ cls := "RunweaverModel", name := "both", desc := "([I[I)[I" } : Jvm.MethodName) ∈ mGw := mGw_of (tV_4_1089 List.mem_cons_self) (by decide +kernel)
theorem mw_1120 : Jvm.Cond.static ({ cls := "RunweaverModel", name := "both", desc := "([I[I)[I" } : Jvm.MethodName) ∈ mGw := mGw_of (tV_4_1090 List.mem_cons_self) (by decide +kernel)
theorem mw_1121 : Jvm.Cond.code ({ cls := "RunweaverModel", name := "both", desc := "([I[I)[I" } : Jvm.MethodName) prog_6_method_14_code (4 : Nat) (Option.some (Jvm.ClassFile.FieldType.array Jvm.ClassFile.FieldType.int)) ∈ mGw := mGw_of (tV_4_1091 List.mem_cons_self) (by decide +kernel)
theorem mw_1122 : Jvm.Cond.methodLink "RunweaverLaw" (179 : Nat) ({ cls := "RunweaverModel", name := "put", desc := "(III)I" } : Jvm.MethodName) ∈ mGw := mGw_of (tV_4_1092 List.mem_cons_self) (by decide +kernel)
theorem mw_1123 : Jvm.Cond.instanceMethod ({ cls := "RunweaverModel", name := "put", desc := "(III)I" } : Jvm.MethodName) ∈ mGw := mGw_of (tV_4_1093 List.mem_cons_self) (by decide +kernel)
theorem mw_1124 : Jvm.Cond.selects "RunweaverModel" ({ cls := "RunweaverModel", name := "put", desc := "(III)I" } : Jvm.MethodName) ({ cls := "RunweaverModel", name := "put", desc := "(III)I" } : Jvm.MethodName) ∈ mGw := mGw_of (tV_4_1094 List.mem_cons_self) (by decide +kernel)
theorem mw_1125 : Jvm.Cond.code ({ cls := "RunweaverModel", name := "put", desc := "(III)I" } : Jvm.MethodName) prog_6_method_20_code (5 : Nat) (Option.some Jvm.ClassFile.FieldType.int) ∈ mGw := mGw_of (tV_4_1095 List.mem_cons_self) (by decide +kernel)
theorem mw_1126 : Jvm.Cond.methodLink "RunweaverModel" (78 : Nat) ({ cls := "RunweaverModel", name := "isPlace", desc := "(II)Z" } : Jvm.MethodName) ∈ mGw := mGw_of (tV_4_1096 List.mem_cons_self) (by decide +kernel)
theorem mw_1128 : Jvm.Cond.instanceMethod ({ cls := "RunweaverModel", name := "isPlace", desc := "(II)Z" } : Jvm.MethodName) ∈ mGw := mGw_of (tV_4_1098 List.mem_cons_self) (by decide +kernel)
theorem mw_1129 : Jvm.Cond.code ({ cls := "RunweaverModel", name := "isPlace", desc := "(II)Z" } : Jvm.MethodName) prog_6_method_6_code (3 : Nat) (Option.some Jvm.ClassFile.FieldType.boolean) ∈ mGw := mGw_of (tV_4_1099 List.mem_cons_self) (by decide +kernel)
theorem mw_1130 : Jvm.Cond.methodLink "RunweaverLaw" (182 : Nat) ({ cls := "RunweaverModel", name := "drop", desc := "(II)I" } : Jvm.MethodName) ∈ mGw := mGw_of (tV_4_1100 List.mem_cons_self) (by decide +kernel)
theorem mw_1131 : Jvm.Cond.instanceMethod ({ cls := "RunweaverModel", name := "drop", desc := "(II)I" } : Jvm.MethodName) ∈ mGw := mGw_of (tV_4_1101 List.mem_cons_self) (by decide +kernel)
theorem mw_1132 : Jvm.Cond.selects "RunweaverModel" ({ cls := "RunweaverModel", name := "drop", desc := "(II)I" } : Jvm.MethodName) ({ cls := "RunweaverModel", name := "drop", desc := "(II)I" } : Jvm.MethodName) ∈ mGw := mGw_of (tV_4_1102 List.mem_cons_self) (by decide +kernel)
theorem mw_1133 : Jvm.Cond.code ({ cls := "RunweaverModel", name := "drop", desc := "(II)I" } : Jvm.MethodName) prog_6_method_21_code (6 : Nat) (Option.some Jvm.ClassFile.FieldType.int) ∈ mGw := mGw_of (tV_4_1103 List.mem_cons_self) (by decide +kernel)
theorem mw_1134 : Jvm.Cond.methodLink "RunweaverModel" (82 : Nat) ({ cls := "RunweaverModel", name := "choose", desc := "(I[I)V" } : Jvm.MethodName) ∈ mGw := mGw_of (tV_4_1104 List.mem_cons_self) (by decide +kernel)
theorem mw_1136 : Jvm.Cond.instanceMethod ({ cls := "RunweaverModel", name := "choose", desc := "(I[I)V" } : Jvm.MethodName) ∈ mGw := mGw_of (tV_4_1106 List.mem_cons_self) (by decide +kernel)
theorem mw_1137 : Jvm.Cond.code ({ cls := "RunweaverModel", name := "choose", desc := "(I[I)V" } : Jvm.MethodName) prog_6_method_15_code (6 : Nat) (Option.none : Option Jvm.ClassFile.FieldType) ∈ mGw := mGw_of (tV_4_1107 List.mem_cons_self) (by decide +kernel)
theorem mw_1138 : Jvm.Cond.methodLink "RunweaverLaw" (186 : Nat) ({ cls := "RunweaverModel", name := "clear", desc := "(I)I" } : Jvm.MethodName) ∈ mGw := mGw_of (tV_4_1108 List.mem_cons_self) (by decide +kernel)
theorem mw_1139 : Jvm.Cond.instanceMethod ({ cls := "RunweaverModel", name := "clear", desc := "(I)I" } : Jvm.MethodName) ∈ mGw := mGw_of (tV_4_1109 List.mem_cons_self) (by decide +kernel)
theorem mw_1140 : Jvm.Cond.selects "RunweaverModel" ({ cls := "RunweaverModel", name := "clear", desc := "(I)I" } : Jvm.MethodName) ({ cls := "RunweaverModel", name := "clear", desc := "(I)I" } : Jvm.MethodName) ∈ mGw := mGw_of (tV_4_1110 List.mem_cons_self) (by decide +kernel)
theorem mw_1141 : Jvm.Cond.code ({ cls := "RunweaverModel", name := "clear", desc := "(I)I" } : Jvm.MethodName) prog_6_method_22_code (3 : Nat) (Option.some Jvm.ClassFile.FieldType.int) ∈ mGw := mGw_of (tV_4_1111 List.mem_cons_self) (by decide +kernel)
theorem mw_1142 : Jvm.Cond.methodLink "RunweaverLaw" (189 : Nat) ({ cls := "RunweaverModel", name := "exchange", desc := "(II)I" } : Jvm.MethodName) ∈ mGw := mGw_of (tV_4_1112 List.mem_cons_self) (by decide +kernel)
theorem mw_1143 : Jvm.Cond.instanceMethod ({ cls := "RunweaverModel", name := "exchange", desc := "(II)I" } : Jvm.MethodName) ∈ mGw := mGw_of (tV_4_1113 List.mem_cons_self) (by decide +kernel)
theorem mw_1144 : Jvm.Cond.selects "RunweaverModel" ({ cls := "RunweaverModel", name := "exchange", desc := "(II)I" } : Jvm.MethodName) ({ cls := "RunweaverModel", name := "exchange", desc := "(II)I" } : Jvm.MethodName) ∈ mGw := mGw_of (tV_4_1114 List.mem_cons_self) (by decide +kernel)
theorem mw_1145 : Jvm.Cond.code ({ cls := "RunweaverModel", name := "exchange", desc := "(II)I" } : Jvm.MethodName) prog_6_method_24_code (4 : Nat) (Option.some Jvm.ClassFile.FieldType.int) ∈ mGw := mGw_of (tV_4_1115 List.mem_cons_self) (by decide +kernel)
theorem mw_1146 : Jvm.Cond.methodLink "RunweaverModel" (86 : Nat) ({ cls := "RunweaverModel", name := "pairs", desc := "(II)I" } : Jvm.MethodName) ∈ mGw := mGw_of (tV_4_1116 List.mem_cons_self) (by decide +kernel)
theorem mw_1148 : Jvm.Cond.instanceMethod ({ cls := "RunweaverModel", name := "pairs", desc := "(II)I" } : Jvm.MethodName) ∈ mGw := mGw_of (tV_4_1118 List.mem_cons_self) (by decide +kernel)
theorem mw_1149 : Jvm.Cond.code ({ cls := "RunweaverModel", name := "pairs", desc := "(II)I" } : Jvm.MethodName) prog_6_method_47_code (6 : Nat) (Option.some Jvm.ClassFile.FieldType.int) ∈ mGw := mGw_of (tV_4_1119 List.mem_cons_self) (by decide +kernel)
theorem mw_1150 : Jvm.Cond.methodLink "RunweaverModel" (111 : Nat) ({ cls := "RunweaverModel", name := "side", desc := "(II)I" } : Jvm.MethodName) ∈ mGw := mGw_of (tV_4_1120 List.mem_cons_self) (by decide +kernel)
theorem mw_1151 : Jvm.Cond.static ({ cls := "RunweaverModel", name := "side", desc := "(II)I" } : Jvm.MethodName) ∈ mGw := mGw_of (tV_4_1121 List.mem_cons_self) (by decide +kernel)
theorem mw_1152 : Jvm.Cond.code ({ cls := "RunweaverModel", name := "side", desc := "(II)I" } : Jvm.MethodName) prog_6_method_12_code (2 : Nat) (Option.some Jvm.ClassFile.FieldType.int) ∈ mGw := mGw_of (tV_4_1122 List.mem_cons_self) (by decide +kernel)
theorem mw_1153 : Jvm.Cond.methodLink "RunweaverModel" (89 : Nat) ({ cls := "RunweaverModel", name := "change", desc := "(III)V" } : Jvm.MethodName) ∈ mGw := mGw_of (tV_4_1123 List.mem_cons_self) (by decide +kernel)
theorem mw_1155 : Jvm.Cond.instanceMethod ({ cls := "RunweaverModel", name := "change", desc := "(III)V" } : Jvm.MethodName) ∈ mGw := mGw_of (tV_4_1125 List.mem_cons_self) (by decide +kernel)
theorem mw_1156 : Jvm.Cond.code ({ cls := "RunweaverModel", name := "change", desc := "(III)V" } : Jvm.MethodName) prog_6_method_23_code (6 : Nat) (Option.none : Option Jvm.ClassFile.FieldType) ∈ mGw := mGw_of (tV_4_1126 List.mem_cons_self) (by decide +kernel)
theorem mw_1157 : Jvm.Cond.methodLink "RunweaverLaw" (192 : Nat) ({ cls := "RunweaverModel", name := "swap", desc := "(III)I" } : Jvm.MethodName) ∈ mGw := mGw_of (tV_4_1127 List.mem_cons_self) (by decide +kernel)
theorem mw_1158 : Jvm.Cond.instanceMethod ({ cls := "RunweaverModel", name := "swap", desc := "(III)I" } : Jvm.MethodName) ∈ mGw := mGw_of (tV_4_1128 List.mem_cons_self) (by decide +kernel)
theorem mw_1159 : Jvm.Cond.selects "RunweaverModel" ({ cls := "RunweaverModel", name := "swap", desc := "(III)I" } : Jvm.MethodName) ({ cls := "RunweaverModel", name := "swap", desc := "(III)I" } : Jvm.MethodName) ∈ mGw := mGw_of (tV_4_1129 List.mem_cons_self) (by decide +kernel)
theorem mw_1160 : Jvm.Cond.code ({ cls := "RunweaverModel", name := "swap", desc := "(III)I" } : Jvm.MethodName) prog_6_method_25_code (4 : Nat) (Option.some Jvm.ClassFile.FieldType.int) ∈ mGw := mGw_of (tV_4_1130 List.mem_cons_self) (by decide +kernel)
theorem mw_1161 : Jvm.Cond.methodLink "RunweaverLaw" (195 : Nat) ({ cls := "RunweaverModel", name := "turn", desc := "(I)I" } : Jvm.MethodName) ∈ mGw := mGw_of (tV_4_1131 List.mem_cons_self) (by decide +kernel)
theorem mw_1162 : Jvm.Cond.instanceMethod ({ cls := "RunweaverModel", name := "turn", desc := "(I)I" } : Jvm.MethodName) ∈ mGw := mGw_of (tV_4_1132 List.mem_cons_self) (by decide +kernel)
theorem mw_1163 : Jvm.Cond.selects "RunweaverModel" ({ cls := "RunweaverModel", name := "turn", desc := "(I)I" } : Jvm.MethodName) ({ cls := "RunweaverModel", name := "turn", desc := "(I)I" } : Jvm.MethodName) ∈ mGw := mGw_of (tV_4_1133 List.mem_cons_self) (by decide +kernel)
theorem mw_1164 : Jvm.Cond.code ({ cls := "RunweaverModel", name := "turn", desc := "(I)I" } : Jvm.MethodName) prog_6_method_27_code (4 : Nat) (Option.some Jvm.ClassFile.FieldType.int) ∈ mGw := mGw_of (tV_4_1134 List.mem_cons_self) (by decide +kernel)
theorem mw_1165 : Jvm.Cond.methodLink "RunweaverModel" (97 : Nat) ({ cls := "RunweaverModel", name := "ordered", desc := "(I[I)I" } : Jvm.MethodName) ∈ mGw := mGw_of (tV_4_1135 List.mem_cons_self) (by decide +kernel)
theorem mw_1167 : Jvm.Cond.instanceMethod ({ cls := "RunweaverModel", name := "ordered", desc := "(I[I)I" } : Jvm.MethodName) ∈ mGw := mGw_of (tV_4_1137 List.mem_cons_self) (by decide +kernel)
theorem mw_1168 : Jvm.Cond.code ({ cls := "RunweaverModel", name := "ordered", desc := "(I[I)I" } : Jvm.MethodName) prog_6_method_26_code (4 : Nat) (Option.some Jvm.ClassFile.FieldType.int) ∈ mGw := mGw_of (tV_4_1138 List.mem_cons_self) (by decide +kernel)
theorem mw_1169 : Jvm.Cond.methodLink "RunweaverModel" (93 : Nat) ({ cls := "RunweaverModel", name := "unlike", desc := "([I[I)I" } : Jvm.MethodName) ∈ mGw := mGw_of (tV_4_1139 List.mem_cons_self) (by decide +kernel)
theorem mw_1170 : Jvm.Cond.static ({ cls := "RunweaverModel", name := "unlike", desc := "([I[I)I" } : Jvm.MethodName) ∈ mGw := mGw_of (tV_4_1140 List.mem_cons_self) (by decide +kernel)
theorem mw_1171 : Jvm.Cond.code ({ cls := "RunweaverModel", name := "unlike", desc := "([I[I)I" } : Jvm.MethodName) prog_6_method_16_code (4 : Nat) (Option.some Jvm.ClassFile.FieldType.int) ∈ mGw := mGw_of (tV_4_1141 List.mem_cons_self) (by decide +kernel)
theorem mw_1172 : Jvm.Cond.methodLink "RunweaverLaw" (198 : Nat) ({ cls := "RunweaverModel", name := "roll", desc := "(II)I" } : Jvm.MethodName) ∈ mGw := mGw_of (tV_4_1142 List.mem_cons_self) (by decide +kernel)
theorem mw_1173 : Jvm.Cond.instanceMethod ({ cls := "RunweaverModel", name := "roll", desc := "(II)I" } : Jvm.MethodName) ∈ mGw := mGw_of (tV_4_1143 List.mem_cons_self) (by decide +kernel)
theorem mw_1174 : Jvm.Cond.selects "RunweaverModel" ({ cls := "RunweaverModel", name := "roll", desc := "(II)I" } : Jvm.MethodName) ({ cls := "RunweaverModel", name := "roll", desc := "(II)I" } : Jvm.MethodName) ∈ mGw := mGw_of (tV_4_1144 List.mem_cons_self) (by decide +kernel)
theorem mw_1175 : Jvm.Cond.code ({ cls := "RunweaverModel", name := "roll", desc := "(II)I" } : Jvm.MethodName) prog_6_method_28_code (5 : Nat) (Option.some Jvm.ClassFile.FieldType.int) ∈ mGw := mGw_of (tV_4_1145 List.mem_cons_self) (by decide +kernel)
theorem mw_1176 : Jvm.Cond.methodLink "RunweaverLaw" (201 : Nat) ({ cls := "RunweaverModel", name := "keep", desc := "(III)I" } : Jvm.MethodName) ∈ mGw := mGw_of (tV_4_1146 List.mem_cons_self) (by decide +kernel)
theorem mw_1177 : Jvm.Cond.instanceMethod ({ cls := "RunweaverModel", name := "keep", desc := "(III)I" } : Jvm.MethodName) ∈ mGw := mGw_of (tV_4_1147 List.mem_cons_self) (by decide +kernel)
theorem mw_1178 : Jvm.Cond.selects "RunweaverModel" ({ cls := "RunweaverModel", name := "keep", desc := "(III)I" } : Jvm.MethodName) ({ cls := "RunweaverModel", name := "keep", desc := "(III)I" } : Jvm.MethodName) ∈ mGw := mGw_of (tV_4_1148 List.mem_cons_self) (by decide +kernel)
theorem mw_1179 : Jvm.Cond.code ({ cls := "RunweaverModel", name := "keep", desc := "(III)I" } : Jvm.MethodName) prog_6_method_29_code (4 : Nat) (Option.some Jvm.ClassFile.FieldType.int) ∈ mGw := mGw_of (tV_4_1149 List.mem_cons_self) (by decide +kernel)
theorem mw_1180 : Jvm.Cond.methodLink "RunweaverModel" (42 : Nat) ({ cls := "RunweaverModel", name := "part", desc := "([III)[I" } : Jvm.MethodName) ∈ mGw := mGw_of (tV_4_1150 List.mem_cons_self) (by decide +kernel)
theorem mw_1181 : Jvm.Cond.static ({ cls := "RunweaverModel", name := "part", desc := "([III)[I" } : Jvm.MethodName) ∈ mGw := mGw_of (tV_4_1151 List.mem_cons_self) (by decide +kernel)
theorem mw_1182 : Jvm.Cond.code ({ cls := "RunweaverModel", name := "part", desc := "([III)[I" } : Jvm.MethodName) prog_6_method_13_code (5 : Nat) (Option.some (Jvm.ClassFile.FieldType.array Jvm.ClassFile.FieldType.int)) ∈ mGw := mGw_of (tV_4_1152 List.mem_cons_self) (by decide +kernel)
theorem mw_1183 : Jvm.Cond.methodLink "RunweaverLaw" (204 : Nat) ({ cls := "RunweaverModel", name := "sort", desc := "(I)I" } : Jvm.MethodName) ∈ mGw := mGw_of (tV_4_1153 List.mem_cons_self) (by decide +kernel)
theorem mw_1184 : Jvm.Cond.instanceMethod ({ cls := "RunweaverModel", name := "sort", desc := "(I)I" } : Jvm.MethodName) ∈ mGw := mGw_of (tV_4_1154 List.mem_cons_self) (by decide +kernel)
theorem mw_1185 : Jvm.Cond.selects "RunweaverModel" ({ cls := "RunweaverModel", name := "sort", desc := "(I)I" } : Jvm.MethodName) ({ cls := "RunweaverModel", name := "sort", desc := "(I)I" } : Jvm.MethodName) ∈ mGw := mGw_of (tV_4_1155 List.mem_cons_self) (by decide +kernel)
theorem mw_1186 : Jvm.Cond.code ({ cls := "RunweaverModel", name := "sort", desc := "(I)I" } : Jvm.MethodName) prog_6_method_31_code (6 : Nat) (Option.some Jvm.ClassFile.FieldType.int) ∈ mGw := mGw_of (tV_4_1156 List.mem_cons_self) (by decide +kernel)
theorem mw_1187 : Jvm.Cond.methodLink "RunweaverModel" (104 : Nat) ({ cls := "RunweaverModel", name := "sorted", desc := "(I)[I" } : Jvm.MethodName) ∈ mGw := mGw_of (tV_4_1157 List.mem_cons_self) (by decide +kernel)
theorem mw_1189 : Jvm.Cond.instanceMethod ({ cls := "RunweaverModel", name := "sorted", desc := "(I)[I" } : Jvm.MethodName) ∈ mGw := mGw_of (tV_4_1159 List.mem_cons_self) (by decide +kernel)
theorem mw_1190 : Jvm.Cond.code ({ cls := "RunweaverModel", name := "sorted", desc := "(I)[I" } : Jvm.MethodName) prog_6_method_30_code (4 : Nat) (Option.some (Jvm.ClassFile.FieldType.array Jvm.ClassFile.FieldType.int)) ∈ mGw := mGw_of (tV_4_1160 List.mem_cons_self) (by decide +kernel)
theorem mw_1191 : Jvm.Cond.methodLink "RunweaverModel" (101 : Nat) ({ cls := "RunweaverModel", name := "ranked", desc := "(II)I" } : Jvm.MethodName) ∈ mGw := mGw_of (tV_4_1161 List.mem_cons_self) (by decide +kernel)
theorem mw_1193 : Jvm.Cond.instanceMethod ({ cls := "RunweaverModel", name := "ranked", desc := "(II)I" } : Jvm.MethodName) ∈ mGw := mGw_of (tV_4_1163 List.mem_cons_self) (by decide +kernel)
theorem mw_1194 : Jvm.Cond.code ({ cls := "RunweaverModel", name := "ranked", desc := "(II)I" } : Jvm.MethodName) prog_6_method_38_code (5 : Nat) (Option.some Jvm.ClassFile.FieldType.int) ∈ mGw := mGw_of (tV_4_1164 List.mem_cons_self) (by decide +kernel)
theorem mw_1195 : Jvm.Cond.methodLink "RunweaverLaw" (207 : Nat) ({ cls := "RunweaverModel", name := "copy", desc := "(II)I" } : Jvm.MethodName) ∈ mGw := mGw_of (tV_4_1165 List.mem_cons_self) (by decide +kernel)
theorem mw_1196 : Jvm.Cond.instanceMethod ({ cls := "RunweaverModel", name := "copy", desc := "(II)I" } : Jvm.MethodName) ∈ mGw := mGw_of (tV_4_1166 List.mem_cons_self) (by decide +kernel)
theorem mw_1197 : Jvm.Cond.selects "RunweaverModel" ({ cls := "RunweaverModel", name := "copy", desc := "(II)I" } : Jvm.MethodName) ({ cls := "RunweaverModel", name := "copy", desc := "(II)I" } : Jvm.MethodName) ∈ mGw := mGw_of (tV_4_1167 List.mem_cons_self) (by decide +kernel)
theorem mw_1198 : Jvm.Cond.code ({ cls := "RunweaverModel", name := "copy", desc := "(II)I" } : Jvm.MethodName) prog_6_method_32_code (4 : Nat) (Option.some Jvm.ClassFile.FieldType.int) ∈ mGw := mGw_of (tV_4_1168 List.mem_cons_self) (by decide +kernel)
theorem mw_1199 : Jvm.Cond.methodLink "RunweaverModel" (108 : Nat) ({ cls := "RunweaverModel", name := "coming", desc := "(II)[I" } : Jvm.MethodName) ∈ mGw := mGw_of (tV_4_1169 List.mem_cons_self) (by decide +kernel)
theorem mw_1201 : Jvm.Cond.instanceMethod ({ cls := "RunweaverModel", name := "coming", desc := "(II)[I" } : Jvm.MethodName) ∈ mGw := mGw_of (tV_4_1171 List.mem_cons_self) (by decide +kernel)
theorem mw_1202 : Jvm.Cond.code ({ cls := "RunweaverModel", name := "coming", desc := "(II)[I" } : Jvm.MethodName) prog_6_method_11_code (3 : Nat) (Option.some (Jvm.ClassFile.FieldType.array Jvm.ClassFile.FieldType.int)) ∈ mGw := mGw_of (tV_4_1172 List.mem_cons_self) (by decide +kernel)
theorem mw_1203 : Jvm.Cond.methodLink "RunweaverLaw" (210 : Nat) ({ cls := "RunweaverModel", name := "join", desc := "(II)I" } : Jvm.MethodName) ∈ mGw := mGw_of (tV_4_1173 List.mem_cons_self) (by decide +kernel)
theorem mw_1204 : Jvm.Cond.instanceMethod ({ cls := "RunweaverModel", name := "join", desc := "(II)I" } : Jvm.MethodName) ∈ mGw := mGw_of (tV_4_1174 List.mem_cons_self) (by decide +kernel)
theorem mw_1205 : Jvm.Cond.selects "RunweaverModel" ({ cls := "RunweaverModel", name := "join", desc := "(II)I" } : Jvm.MethodName) ({ cls := "RunweaverModel", name := "join", desc := "(II)I" } : Jvm.MethodName) ∈ mGw := mGw_of (tV_4_1175 List.mem_cons_self) (by decide +kernel)
theorem mw_1206 : Jvm.Cond.code ({ cls := "RunweaverModel", name := "join", desc := "(II)I" } : Jvm.MethodName) prog_6_method_33_code (3 : Nat) (Option.some Jvm.ClassFile.FieldType.int) ∈ mGw := mGw_of (tV_4_1176 List.mem_cons_self) (by decide +kernel)
theorem mw_1207 : Jvm.Cond.methodLink "RunweaverLaw" (213 : Nat) ({ cls := "RunweaverModel", name := "merge", desc := "(II)I" } : Jvm.MethodName) ∈ mGw := mGw_of (tV_4_1177 List.mem_cons_self) (by decide +kernel)
theorem mw_1208 : Jvm.Cond.instanceMethod ({ cls := "RunweaverModel", name := "merge", desc := "(II)I" } : Jvm.MethodName) ∈ mGw := mGw_of (tV_4_1178 List.mem_cons_self) (by decide +kernel)
theorem mw_1209 : Jvm.Cond.selects "RunweaverModel" ({ cls := "RunweaverModel", name := "merge", desc := "(II)I" } : Jvm.MethodName) ({ cls := "RunweaverModel", name := "merge", desc := "(II)I" } : Jvm.MethodName) ∈ mGw := mGw_of (tV_4_1179 List.mem_cons_self) (by decide +kernel)
theorem mw_1210 : Jvm.Cond.code ({ cls := "RunweaverModel", name := "merge", desc := "(II)I" } : Jvm.MethodName) prog_6_method_34_code (3 : Nat) (Option.some Jvm.ClassFile.FieldType.int) ∈ mGw := mGw_of (tV_4_1180 List.mem_cons_self) (by decide +kernel)
theorem mw_1211 : Jvm.Cond.methodLink "RunweaverLaw" (216 : Nat) ({ cls := "RunweaverModel", name := "many", desc := "(I)I" } : Jvm.MethodName) ∈ mGw := mGw_of (tV_4_1181 List.mem_cons_self) (by decide +kernel)
theorem mw_1212 : Jvm.Cond.instanceMethod ({ cls := "RunweaverModel", name := "many", desc := "(I)I" } : Jvm.MethodName) ∈ mGw := mGw_of (tV_4_1182 List.mem_cons_self) (by decide +kernel)
theorem mw_1213 : Jvm.Cond.selects "RunweaverModel" ({ cls := "RunweaverModel", name := "many", desc := "(I)I" } : Jvm.MethodName) ({ cls := "RunweaverModel", name := "many", desc := "(I)I" } : Jvm.MethodName) ∈ mGw := mGw_of (tV_4_1183 List.mem_cons_self) (by decide +kernel)
theorem mw_1214 : Jvm.Cond.code ({ cls := "RunweaverModel", name := "many", desc := "(I)I" } : Jvm.MethodName) prog_6_method_35_code (2 : Nat) (Option.some Jvm.ClassFile.FieldType.int) ∈ mGw := mGw_of (tV_4_1184 List.mem_cons_self) (by decide +kernel)
theorem mw_1215 : Jvm.Cond.methodLink "RunweaverLaw" (219 : Nat) ({ cls := "RunweaverModel", name := "key", desc := "(II)I" } : Jvm.MethodName) ∈ mGw := mGw_of (tV_4_1185 List.mem_cons_self) (by decide +kernel)
theorem mw_1216 : Jvm.Cond.instanceMethod ({ cls := "RunweaverModel", name := "key", desc := "(II)I" } : Jvm.MethodName) ∈ mGw := mGw_of (tV_4_1186 List.mem_cons_self) (by decide +kernel)
theorem mw_1217 : Jvm.Cond.selects "RunweaverModel" ({ cls := "RunweaverModel", name := "key", desc := "(II)I" } : Jvm.MethodName) ({ cls := "RunweaverModel", name := "key", desc := "(II)I" } : Jvm.MethodName) ∈ mGw := mGw_of (tV_4_1187 List.mem_cons_self) (by decide +kernel)
theorem mw_1218 : Jvm.Cond.code ({ cls := "RunweaverModel", name := "key", desc := "(II)I" } : Jvm.MethodName) prog_6_method_36_code (3 : Nat) (Option.some Jvm.ClassFile.FieldType.int) ∈ mGw := mGw_of (tV_4_1188 List.mem_cons_self) (by decide +kernel)
theorem mw_1219 : Jvm.Cond.methodLink "RunweaverLaw" (222 : Nat) ({ cls := "RunweaverModel", name := "stamp", desc := "(II)I" } : Jvm.MethodName) ∈ mGw := mGw_of (tV_4_1189 List.mem_cons_self) (by decide +kernel)
theorem mw_1220 : Jvm.Cond.instanceMethod ({ cls := "RunweaverModel", name := "stamp", desc := "(II)I" } : Jvm.MethodName) ∈ mGw := mGw_of (tV_4_1190 List.mem_cons_self) (by decide +kernel)
theorem mw_1221 : Jvm.Cond.selects "RunweaverModel" ({ cls := "RunweaverModel", name := "stamp", desc := "(II)I" } : Jvm.MethodName) ({ cls := "RunweaverModel", name := "stamp", desc := "(II)I" } : Jvm.MethodName) ∈ mGw := mGw_of (tV_4_1191 List.mem_cons_self) (by decide +kernel)
theorem mw_1222 : Jvm.Cond.code ({ cls := "RunweaverModel", name := "stamp", desc := "(II)I" } : Jvm.MethodName) prog_6_method_37_code (3 : Nat) (Option.some Jvm.ClassFile.FieldType.int) ∈ mGw := mGw_of (tV_4_1192 List.mem_cons_self) (by decide +kernel)
theorem mw_1223 : Jvm.Cond.methodLink "RunweaverLaw" (225 : Nat) ({ cls := "RunweaverModel", name := "rank", desc := "(II)I" } : Jvm.MethodName) ∈ mGw := mGw_of (tV_4_1193 List.mem_cons_self) (by decide +kernel)
theorem mw_1224 : Jvm.Cond.instanceMethod ({ cls := "RunweaverModel", name := "rank", desc := "(II)I" } : Jvm.MethodName) ∈ mGw := mGw_of (tV_4_1194 List.mem_cons_self) (by decide +kernel)
theorem mw_1225 : Jvm.Cond.selects "RunweaverModel" ({ cls := "RunweaverModel", name := "rank", desc := "(II)I" } : Jvm.MethodName) ({ cls := "RunweaverModel", name := "rank", desc := "(II)I" } : Jvm.MethodName) ∈ mGw := mGw_of (tV_4_1195 List.mem_cons_self) (by decide +kernel)
theorem mw_1226 : Jvm.Cond.code ({ cls := "RunweaverModel", name := "rank", desc := "(II)I" } : Jvm.MethodName) prog_6_method_39_code (3 : Nat) (Option.some Jvm.ClassFile.FieldType.int) ∈ mGw := mGw_of (tV_4_1196 List.mem_cons_self) (by decide +kernel)
theorem mw_1227 : Jvm.Cond.methodLink "RunweaverLaw" (228 : Nat) ({ cls := "RunweaverModel", name := "would", desc := "(II)I" } : Jvm.MethodName) ∈ mGw := mGw_of (tV_4_1197 List.mem_cons_self) (by decide +kernel)
theorem mw_1228 : Jvm.Cond.instanceMethod ({ cls := "RunweaverModel", name := "would", desc := "(II)I" } : Jvm.MethodName) ∈ mGw := mGw_of (tV_4_1198 List.mem_cons_self) (by decide +kernel)
theorem mw_1229 : Jvm.Cond.selects "RunweaverModel" ({ cls := "RunweaverModel", name := "would", desc := "(II)I" } : Jvm.MethodName) ({ cls := "RunweaverModel", name := "would", desc := "(II)I" } : Jvm.MethodName) ∈ mGw := mGw_of (tV_4_1199 List.mem_cons_self) (by decide +kernel)
theorem mw_1230 : Jvm.Cond.code ({ cls := "RunweaverModel", name := "would", desc := "(II)I" } : Jvm.MethodName) prog_6_method_40_code (3 : Nat) (Option.some Jvm.ClassFile.FieldType.int) ∈ mGw := mGw_of (tV_5_1200 List.mem_cons_self) (by decide +kernel)
theorem mw_1231 : Jvm.Cond.methodLink "RunweaverLaw" (231 : Nat) ({ cls := "RunweaverModel", name := "wouldStamp", desc := "(II)I" } : Jvm.MethodName) ∈ mGw := mGw_of (tV_5_1201 List.mem_cons_self) (by decide +kernel)
theorem mw_1232 : Jvm.Cond.instanceMethod ({ cls := "RunweaverModel", name := "wouldStamp", desc := "(II)I" } : Jvm.MethodName) ∈ mGw := mGw_of (tV_5_1202 List.mem_cons_self) (by decide +kernel)
theorem mw_1233 : Jvm.Cond.selects "RunweaverModel" ({ cls := "RunweaverModel", name := "wouldStamp", desc := "(II)I" } : Jvm.MethodName) ({ cls := "RunweaverModel", name := "wouldStamp", desc := "(II)I" } : Jvm.MethodName) ∈ mGw := mGw_of (tV_5_1203 List.mem_cons_self) (by decide +kernel)
theorem mw_1234 : Jvm.Cond.code ({ cls := "RunweaverModel", name := "wouldStamp", desc := "(II)I" } : Jvm.MethodName) prog_6_method_41_code (3 : Nat) (Option.some Jvm.ClassFile.FieldType.int) ∈ mGw := mGw_of (tV_5_1204 List.mem_cons_self) (by decide +kernel)
theorem mw_1235 : Jvm.Cond.methodLink "RunweaverLaw" (234 : Nat) ({ cls := "RunweaverModel", name := "wrongAt", desc := "(II)I" } : Jvm.MethodName) ∈ mGw := mGw_of (tV_5_1205 List.mem_cons_self) (by decide +kernel)
theorem mw_1236 : Jvm.Cond.instanceMethod ({ cls := "RunweaverModel", name := "wrongAt", desc := "(II)I" } : Jvm.MethodName) ∈ mGw := mGw_of (tV_5_1206 List.mem_cons_self) (by decide +kernel)
theorem mw_1237 : Jvm.Cond.selects "RunweaverModel" ({ cls := "RunweaverModel", name := "wrongAt", desc := "(II)I" } : Jvm.MethodName) ({ cls := "RunweaverModel", name := "wrongAt", desc := "(II)I" } : Jvm.MethodName) ∈ mGw := mGw_of (tV_5_1207 List.mem_cons_self) (by decide +kernel)
theorem mw_1238 : Jvm.Cond.code ({ cls := "RunweaverModel", name := "wrongAt", desc := "(II)I" } : Jvm.MethodName) prog_6_method_42_code (5 : Nat) (Option.some Jvm.ClassFile.FieldType.int) ∈ mGw := mGw_of (tV_5_1208 List.mem_cons_self) (by decide +kernel)
theorem mw_1239 : Jvm.Cond.methodLink "RunweaverLaw" (237 : Nat) ({ cls := "RunweaverModel", name := "after", desc := "(II)I" } : Jvm.MethodName) ∈ mGw := mGw_of (tV_5_1209 List.mem_cons_self) (by decide +kernel)
theorem mw_1240 : Jvm.Cond.instanceMethod ({ cls := "RunweaverModel", name := "after", desc := "(II)I" } : Jvm.MethodName) ∈ mGw := mGw_of (tV_5_1210 List.mem_cons_self) (by decide +kernel)
theorem mw_1241 : Jvm.Cond.selects "RunweaverModel" ({ cls := "RunweaverModel", name := "after", desc := "(II)I" } : Jvm.MethodName) ({ cls := "RunweaverModel", name := "after", desc := "(II)I" } : Jvm.MethodName) ∈ mGw := mGw_of (tV_5_1211 List.mem_cons_self) (by decide +kernel)
theorem mw_1242 : Jvm.Cond.code ({ cls := "RunweaverModel", name := "after", desc := "(II)I" } : Jvm.MethodName) prog_6_method_43_code (3 : Nat) (Option.some Jvm.ClassFile.FieldType.int) ∈ mGw := mGw_of (tV_5_1212 List.mem_cons_self) (by decide +kernel)
theorem mw_1243 : Jvm.Cond.methodLink "RunweaverLaw" (240 : Nat) ({ cls := "RunweaverModel", name := "runAt", desc := "(II)I" } : Jvm.MethodName) ∈ mGw := mGw_of (tV_5_1213 List.mem_cons_self) (by decide +kernel)
theorem mw_1244 : Jvm.Cond.instanceMethod ({ cls := "RunweaverModel", name := "runAt", desc := "(II)I" } : Jvm.MethodName) ∈ mGw := mGw_of (tV_5_1214 List.mem_cons_self) (by decide +kernel)
theorem mw_1245 : Jvm.Cond.selects "RunweaverModel" ({ cls := "RunweaverModel", name := "runAt", desc := "(II)I" } : Jvm.MethodName) ({ cls := "RunweaverModel", name := "runAt", desc := "(II)I" } : Jvm.MethodName) ∈ mGw := mGw_of (tV_5_1215 List.mem_cons_self) (by decide +kernel)
theorem mw_1246 : Jvm.Cond.code ({ cls := "RunweaverModel", name := "runAt", desc := "(II)I" } : Jvm.MethodName) prog_6_method_45_code (3 : Nat) (Option.some Jvm.ClassFile.FieldType.int) ∈ mGw := mGw_of (tV_5_1216 List.mem_cons_self) (by decide +kernel)
theorem mw_1247 : Jvm.Cond.methodLink "RunweaverModel" (114 : Nat) ({ cls := "RunweaverModel", name := "behind", desc := "(II)I" } : Jvm.MethodName) ∈ mGw := mGw_of (tV_5_1217 List.mem_cons_self) (by decide +kernel)
theorem mw_1249 : Jvm.Cond.instanceMethod ({ cls := "RunweaverModel", name := "behind", desc := "(II)I" } : Jvm.MethodName) ∈ mGw := mGw_of (tV_5_1219 List.mem_cons_self) (by decide +kernel)
theorem mw_1250 : Jvm.Cond.code ({ cls := "RunweaverModel", name := "behind", desc := "(II)I" } : Jvm.MethodName) prog_6_method_44_code (4 : Nat) (Option.some Jvm.ClassFile.FieldType.int) ∈ mGw := mGw_of (tV_5_1220 List.mem_cons_self) (by decide +kernel)
theorem mw_1251 : Jvm.Cond.methodLink "RunweaverLaw" (243 : Nat) ({ cls := "RunweaverModel", name := "text", desc := "(III)Ljava/lang/String;" } : Jvm.MethodName) ∈ mGw := mGw_of (tV_5_1221 List.mem_cons_self) (by decide +kernel)
theorem mw_1252 : Jvm.Cond.instanceMethod ({ cls := "RunweaverModel", name := "text", desc := "(III)Ljava/lang/String;" } : Jvm.MethodName) ∈ mGw := mGw_of (tV_5_1222 List.mem_cons_self) (by decide +kernel)
theorem mw_1253 : Jvm.Cond.selects "RunweaverModel" ({ cls := "RunweaverModel", name := "text", desc := "(III)Ljava/lang/String;" } : Jvm.MethodName) ({ cls := "RunweaverModel", name := "text", desc := "(III)Ljava/lang/String;" } : Jvm.MethodName) ∈ mGw := mGw_of (tV_5_1223 List.mem_cons_self) (by decide +kernel)
theorem mw_1254 : Jvm.Cond.code ({ cls := "RunweaverModel", name := "text", desc := "(III)Ljava/lang/String;" } : Jvm.MethodName) prog_6_method_46_code (6 : Nat) (Option.some (Jvm.ClassFile.FieldType.object "java/lang/String")) ∈ mGw := mGw_of (tV_5_1224 List.mem_cons_self) (by decide +kernel)
theorem mw_1256 : Jvm.Cond.classLink "RunweaverModel" (119 : Nat) "java/lang/StringBuilder" ∈ mGw := mGw_of (tV_5_1226 List.mem_cons_self) (by decide +kernel)
theorem mw_1257 : Jvm.Cond.methodLink "RunweaverModel" (121 : Nat) ({ cls := "java/lang/StringBuilder", name := "<init>", desc := "()V" } : Jvm.MethodName) ∈ mGw := mGw_of (tV_5_1227 List.mem_cons_self) (by decide +kernel)
theorem mw_1259 : Jvm.Cond.methodLink "RunweaverModel" (124 : Nat) ({ cls := "java/lang/StringBuilder", name := "append", desc := "(Ljava/lang/String;)Ljava/lang/StringBuilder;" } : Jvm.MethodName) ∈ mGw := mGw_of (tV_5_1229 List.mem_cons_self) (by decide +kernel)
theorem mw_1260 : Jvm.Cond.methodLink "RunweaverModel" (128 : Nat) ({ cls := "java/lang/StringBuilder", name := "append", desc := "(I)Ljava/lang/StringBuilder;" } : Jvm.MethodName) ∈ mGw := mGw_of (tV_5_1230 List.mem_cons_self) (by decide +kernel)
theorem mw_1261 : Jvm.Cond.methodLink "RunweaverModel" (131 : Nat) ({ cls := "java/lang/StringBuilder", name := "toString", desc := "()Ljava/lang/String;" } : Jvm.MethodName) ∈ mGw := mGw_of (tV_5_1231 List.mem_cons_self) (by decide +kernel)
theorem mw_1262 : Jvm.Cond.methodLink "RunweaverLaw" (246 : Nat) ({ cls := "RunweaverModel", name := "isSorted", desc := "(I)Z" } : Jvm.MethodName) ∈ mGw := mGw_of (tV_5_1232 List.mem_cons_self) (by decide +kernel)
theorem mw_1263 : Jvm.Cond.instanceMethod ({ cls := "RunweaverModel", name := "isSorted", desc := "(I)Z" } : Jvm.MethodName) ∈ mGw := mGw_of (tV_5_1233 List.mem_cons_self) (by decide +kernel)
theorem mw_1264 : Jvm.Cond.selects "RunweaverModel" ({ cls := "RunweaverModel", name := "isSorted", desc := "(I)Z" } : Jvm.MethodName) ({ cls := "RunweaverModel", name := "isSorted", desc := "(I)Z" } : Jvm.MethodName) ∈ mGw := mGw_of (tV_5_1234 List.mem_cons_self) (by decide +kernel)
theorem mw_1265 : Jvm.Cond.code ({ cls := "RunweaverModel", name := "isSorted", desc := "(I)Z" } : Jvm.MethodName) prog_6_method_48_code (2 : Nat) (Option.some Jvm.ClassFile.FieldType.boolean) ∈ mGw := mGw_of (tV_5_1235 List.mem_cons_self) (by decide +kernel)
theorem mw_1266 : Jvm.Cond.methodLink "RunweaverLaw" (249 : Nat) ({ cls := "RunweaverModel", name := "isFalling", desc := "(I)Z" } : Jvm.MethodName) ∈ mGw := mGw_of (tV_5_1236 List.mem_cons_self) (by decide +kernel)
theorem mw_1267 : Jvm.Cond.instanceMethod ({ cls := "RunweaverModel", name := "isFalling", desc := "(I)Z" } : Jvm.MethodName) ∈ mGw := mGw_of (tV_5_1237 List.mem_cons_self) (by decide +kernel)
theorem mw_1268 : Jvm.Cond.selects "RunweaverModel" ({ cls := "RunweaverModel", name := "isFalling", desc := "(I)Z" } : Jvm.MethodName) ({ cls := "RunweaverModel", name := "isFalling", desc := "(I)Z" } : Jvm.MethodName) ∈ mGw := mGw_of (tV_5_1238 List.mem_cons_self) (by decide +kernel)
theorem mw_1269 : Jvm.Cond.code ({ cls := "RunweaverModel", name := "isFalling", desc := "(I)Z" } : Jvm.MethodName) prog_6_method_49_code (2 : Nat) (Option.some Jvm.ClassFile.FieldType.boolean) ∈ mGw := mGw_of (tV_5_1239 List.mem_cons_self) (by decide +kernel)
theorem mw_1270 : Jvm.Cond.methodLink "RunweaverLaw" (252 : Nat) ({ cls := "RunweaverModel", name := "isKept", desc := "(I)Z" } : Jvm.MethodName) ∈ mGw := mGw_of (tV_5_1240 List.mem_cons_self) (by decide +kernel)
theorem mw_1271 : Jvm.Cond.instanceMethod ({ cls := "RunweaverModel", name := "isKept", desc := "(I)Z" } : Jvm.MethodName) ∈ mGw := mGw_of (tV_5_1241 List.mem_cons_self) (by decide +kernel)
theorem mw_1272 : Jvm.Cond.selects "RunweaverModel" ({ cls := "RunweaverModel", name := "isKept", desc := "(I)Z" } : Jvm.MethodName) ({ cls := "RunweaverModel", name := "isKept", desc := "(I)Z" } : Jvm.MethodName) ∈ mGw := mGw_of (tV_5_1242 List.mem_cons_self) (by decide +kernel)
theorem mw_1273 : Jvm.Cond.code ({ cls := "RunweaverModel", name := "isKept", desc := "(I)Z" } : Jvm.MethodName) prog_6_method_50_code (3 : Nat) (Option.some Jvm.ClassFile.FieldType.boolean) ∈ mGw := mGw_of (tV_5_1243 List.mem_cons_self) (by decide +kernel)
theorem mw_1274 : Jvm.Cond.methodLink "RunweaverLaw" (255 : Nat) ({ cls := "RunweaverModel", name := "wrong", desc := "(II)I" } : Jvm.MethodName) ∈ mGw := mGw_of (tV_5_1244 List.mem_cons_self) (by decide +kernel)
theorem mw_1275 : Jvm.Cond.instanceMethod ({ cls := "RunweaverModel", name := "wrong", desc := "(II)I" } : Jvm.MethodName) ∈ mGw := mGw_of (tV_5_1245 List.mem_cons_self) (by decide +kernel)
theorem mw_1276 : Jvm.Cond.selects "RunweaverModel" ({ cls := "RunweaverModel", name := "wrong", desc := "(II)I" } : Jvm.MethodName) ({ cls := "RunweaverModel", name := "wrong", desc := "(II)I" } : Jvm.MethodName) ∈ mGw := mGw_of (tV_5_1246 List.mem_cons_self) (by decide +kernel)
theorem mw_1277 : Jvm.Cond.code ({ cls := "RunweaverModel", name := "wrong", desc := "(II)I" } : Jvm.MethodName) prog_6_method_51_code (3 : Nat) (Option.some Jvm.ClassFile.FieldType.int) ∈ mGw := mGw_of (tV_5_1247 List.mem_cons_self) (by decide +kernel)
theorem mw_1278 : Jvm.Cond.methodLink "RunweaverLaw" (258 : Nat) ({ cls := "RunweaverModel", name := "right", desc := "(I)I" } : Jvm.MethodName) ∈ mGw := mGw_of (tV_5_1248 List.mem_cons_self) (by decide +kernel)
theorem mw_1279 : Jvm.Cond.instanceMethod ({ cls := "RunweaverModel", name := "right", desc := "(I)I" } : Jvm.MethodName) ∈ mGw := mGw_of (tV_5_1249 List.mem_cons_self) (by decide +kernel)
theorem mw_1280 : Jvm.Cond.selects "RunweaverModel" ({ cls := "RunweaverModel", name := "right", desc := "(I)I" } : Jvm.MethodName) ({ cls := "RunweaverModel", name := "right", desc := "(I)I" } : Jvm.MethodName) ∈ mGw := mGw_of (tV_5_1250 List.mem_cons_self) (by decide +kernel)
theorem mw_1281 : Jvm.Cond.code ({ cls := "RunweaverModel", name := "right", desc := "(I)I" } : Jvm.MethodName) prog_6_method_52_code (2 : Nat) (Option.some Jvm.ClassFile.FieldType.int) ∈ mGw := mGw_of (tV_5_1251 List.mem_cons_self) (by decide +kernel)
theorem mw_1282 : Jvm.Cond.methodLink "RunweaverLaw" (261 : Nat) ({ cls := "RunweaverModel", name := "ties", desc := "(I)I" } : Jvm.MethodName) ∈ mGw := mGw_of (tV_5_1252 List.mem_cons_self) (by decide +kernel)
theorem mw_1283 : Jvm.Cond.instanceMethod ({ cls := "RunweaverModel", name := "ties", desc := "(I)I" } : Jvm.MethodName) ∈ mGw := mGw_of (tV_5_1253 List.mem_cons_self) (by decide +kernel)
theorem mw_1284 : Jvm.Cond.selects "RunweaverModel" ({ cls := "RunweaverModel", name := "ties", desc := "(I)I" } : Jvm.MethodName) ({ cls := "RunweaverModel", name := "ties", desc := "(I)I" } : Jvm.MethodName) ∈ mGw := mGw_of (tV_5_1254 List.mem_cons_self) (by decide +kernel)
theorem mw_1285 : Jvm.Cond.code ({ cls := "RunweaverModel", name := "ties", desc := "(I)I" } : Jvm.MethodName) prog_6_method_53_code (2 : Nat) (Option.some Jvm.ClassFile.FieldType.int) ∈ mGw := mGw_of (tV_5_1255 List.mem_cons_self) (by decide +kernel)
theorem mw_1286 : Jvm.Cond.methodLink "RunweaverLaw" (264 : Nat) ({ cls := "RunweaverModel", name := "runs", desc := "(I)I" } : Jvm.MethodName) ∈ mGw := mGw_of (tV_5_1256 List.mem_cons_self) (by decide +kernel)
theorem mw_1287 : Jvm.Cond.instanceMethod ({ cls := "RunweaverModel", name := "runs", desc := "(I)I" } : Jvm.MethodName) ∈ mGw := mGw_of (tV_5_1257 List.mem_cons_self) (by decide +kernel)
theorem mw_1288 : Jvm.Cond.selects "RunweaverModel" ({ cls := "RunweaverModel", name := "runs", desc := "(I)I" } : Jvm.MethodName) ({ cls := "RunweaverModel", name := "runs", desc := "(I)I" } : Jvm.MethodName) ∈ mGw := mGw_of (tV_5_1258 List.mem_cons_self) (by decide +kernel)
theorem mw_1289 : Jvm.Cond.code ({ cls := "RunweaverModel", name := "runs", desc := "(I)I" } : Jvm.MethodName) prog_6_method_54_code (4 : Nat) (Option.some Jvm.ClassFile.FieldType.int) ∈ mGw := mGw_of (tV_5_1259 List.mem_cons_self) (by decide +kernel)
theorem mw_1290 : Jvm.Cond.methodLink "RunweaverLaw" (267 : Nat) ({ cls := "RunweaverModel", name := "longest", desc := "(I)I" } : Jvm.MethodName) ∈ mGw := mGw_of (tV_5_1260 List.mem_cons_self) (by decide +kernel)
theorem mw_1291 : Jvm.Cond.instanceMethod ({ cls := "RunweaverModel", name := "longest", desc := "(I)I" } : Jvm.MethodName) ∈ mGw := mGw_of (tV_5_1261 List.mem_cons_self) (by decide +kernel)
theorem mw_1292 : Jvm.Cond.selects "RunweaverModel" ({ cls := "RunweaverModel", name := "longest", desc := "(I)I" } : Jvm.MethodName) ({ cls := "RunweaverModel", name := "longest", desc := "(I)I" } : Jvm.MethodName) ∈ mGw := mGw_of (tV_5_1262 List.mem_cons_self) (by decide +kernel)
theorem mw_1293 : Jvm.Cond.code ({ cls := "RunweaverModel", name := "longest", desc := "(I)I" } : Jvm.MethodName) prog_6_method_55_code (4 : Nat) (Option.some Jvm.ClassFile.FieldType.int) ∈ mGw := mGw_of (tV_5_1263 List.mem_cons_self) (by decide +kernel)
theorem mw_1294 : Jvm.Cond.methodLink "RunweaverModel" (135 : Nat) ({ cls := "java/lang/Math", name := "max", desc := "(II)I" } : Jvm.MethodName) ∈ mGw := mGw_of (tV_5_1264 List.mem_cons_self) (by decide +kernel)
theorem mw_1295 : Jvm.Cond.methodLink "RunweaverLaw" (270 : Nat) ({ cls := "RunweaverModel", name := "count", desc := "(II)I" } : Jvm.MethodName) ∈ mGw := mGw_of (tV_5_1265 List.mem_cons_self) (by decide +kernel)
theorem mw_1296 : Jvm.Cond.instanceMethod ({ cls := "RunweaverModel", name := "count", desc := "(II)I" } : Jvm.MethodName) ∈ mGw := mGw_of (tV_5_1266 List.mem_cons_self) (by decide +kernel)
theorem mw_1297 : Jvm.Cond.selects "RunweaverModel" ({ cls := "RunweaverModel", name := "count", desc := "(II)I" } : Jvm.MethodName) ({ cls := "RunweaverModel", name := "count", desc := "(II)I" } : Jvm.MethodName) ∈ mGw := mGw_of (tV_5_1267 List.mem_cons_self) (by decide +kernel)
theorem mw_1298 : Jvm.Cond.code ({ cls := "RunweaverModel", name := "count", desc := "(II)I" } : Jvm.MethodName) prog_6_method_57_code (3 : Nat) (Option.some Jvm.ClassFile.FieldType.int) ∈ mGw := mGw_of (tV_5_1268 List.mem_cons_self) (by decide +kernel)
theorem mw_1299 : Jvm.Cond.methodLink "RunweaverModel" (138 : Nat) ({ cls := "RunweaverModel", name := "often", desc := "(III)I" } : Jvm.MethodName) ∈ mGw := mGw_of (tV_5_1269 List.mem_cons_self) (by decide +kernel)
theorem mw_1301 : Jvm.Cond.instanceMethod ({ cls := "RunweaverModel", name := "often", desc := "(III)I" } : Jvm.MethodName) ∈ mGw := mGw_of (tV_5_1271 List.mem_cons_self) (by decide +kernel)
theorem mw_1302 : Jvm.Cond.code ({ cls := "RunweaverModel", name := "often", desc := "(III)I" } : Jvm.MethodName) prog_6_method_56_code (9 : Nat) (Option.some Jvm.ClassFile.FieldType.int) ∈ mGw := mGw_of (tV_5_1272 List.mem_cons_self) (by decide +kernel)
theorem mw_1303 : Jvm.Cond.methodLink "RunweaverLaw" (273 : Nat) ({ cls := "RunweaverModel", name := "below", desc := "(II)I" } : Jvm.MethodName) ∈ mGw := mGw_of (tV_5_1273 List.mem_cons_self) (by decide +kernel)
theorem mw_1304 : Jvm.Cond.instanceMethod ({ cls := "RunweaverModel", name := "below", desc := "(II)I" } : Jvm.MethodName) ∈ mGw := mGw_of (tV_5_1274 List.mem_cons_self) (by decide +kernel)
theorem mw_1305 : Jvm.Cond.selects "RunweaverModel" ({ cls := "RunweaverModel", name := "below", desc := "(II)I" } : Jvm.MethodName) ({ cls := "RunweaverModel", name := "below", desc := "(II)I" } : Jvm.MethodName) ∈ mGw := mGw_of (tV_5_1275 List.mem_cons_self) (by decide +kernel)
theorem mw_1306 : Jvm.Cond.code ({ cls := "RunweaverModel", name := "below", desc := "(II)I" } : Jvm.MethodName) prog_6_method_58_code (3 : Nat) (Option.some Jvm.ClassFile.FieldType.int) ∈ mGw := mGw_of (tV_5_1276 List.mem_cons_self) (by decide +kernel)
theorem mw_1307 : Jvm.Cond.methodLink "RunweaverLaw" (277 : Nat) ({ cls := "RunweaverModel", name := "first", desc := "(IIZ)I" } : Jvm.MethodName) ∈ mGw := mGw_of (tV_5_1277 List.mem_cons_self) (by decide +kernel)
theorem mw_1308 : Jvm.Cond.instanceMethod ({ cls := "RunweaverModel", name := "first", desc := "(IIZ)I" } : Jvm.MethodName) ∈ mGw := mGw_of (tV_5_1278 List.mem_cons_self) (by decide +kernel)
theorem mw_1309 : Jvm.Cond.selects "RunweaverModel" ({ cls := "RunweaverModel", name := "first", desc := "(IIZ)I" } : Jvm.MethodName) ({ cls := "RunweaverModel", name := "first", desc := "(IIZ)I" } : Jvm.MethodName) ∈ mGw := mGw_of (tV_5_1279 List.mem_cons_self) (by decide +kernel)
theorem mw_1310 : Jvm.Cond.code ({ cls := "RunweaverModel", name := "first", desc := "(IIZ)I" } : Jvm.MethodName) prog_6_method_59_code (6 : Nat) (Option.some Jvm.ClassFile.FieldType.int) ∈ mGw := mGw_of (tV_5_1280 List.mem_cons_self) (by decide +kernel)
theorem mw_1311 : Jvm.Cond.methodLink "RunweaverLaw" (281 : Nat) ({ cls := "RunweaverModel", name := "end", desc := "(IZ)I" } : Jvm.MethodName) ∈ mGw := mGw_of (tV_5_1281 List.mem_cons_self) (by decide +kernel)
theorem mw_1312 : Jvm.Cond.instanceMethod ({ cls := "RunweaverModel", name := "end", desc := "(IZ)I" } : Jvm.MethodName) ∈ mGw := mGw_of (tV_5_1282 List.mem_cons_self) (by decide +kernel)
theorem mw_1313 : Jvm.Cond.selects "RunweaverModel" ({ cls := "RunweaverModel", name := "end", desc := "(IZ)I" } : Jvm.MethodName) ({ cls := "RunweaverModel", name := "end", desc := "(IZ)I" } : Jvm.MethodName) ∈ mGw := mGw_of (tV_5_1283 List.mem_cons_self) (by decide +kernel)
theorem mw_1314 : Jvm.Cond.code ({ cls := "RunweaverModel", name := "end", desc := "(IZ)I" } : Jvm.MethodName) prog_6_method_60_code (8 : Nat) (Option.some Jvm.ClassFile.FieldType.int) ∈ mGw := mGw_of (tV_5_1284 List.mem_cons_self) (by decide +kernel)
theorem mw_1315 : Jvm.Cond.constant "RunweaverModel" (142 : Nat) (-100000 : Int32) ∈ mGw := mGw_of (tV_5_1285 List.mem_cons_self) (by decide +kernel)
theorem mw_1316 : Jvm.Cond.methodLink "RunweaverLaw" (284 : Nat) ({ cls := "RunweaverModel", name := "unlike", desc := "(I)I" } : Jvm.MethodName) ∈ mGw := mGw_of (tV_5_1286 List.mem_cons_self) (by decide +kernel)
theorem mw_1317 : Jvm.Cond.instanceMethod ({ cls := "RunweaverModel", name := "unlike", desc := "(I)I" } : Jvm.MethodName) ∈ mGw := mGw_of (tV_5_1287 List.mem_cons_self) (by decide +kernel)
theorem mw_1318 : Jvm.Cond.selects "RunweaverModel" ({ cls := "RunweaverModel", name := "unlike", desc := "(I)I" } : Jvm.MethodName) ({ cls := "RunweaverModel", name := "unlike", desc := "(I)I" } : Jvm.MethodName) ∈ mGw := mGw_of (tV_5_1288 List.mem_cons_self) (by decide +kernel)
theorem mw_1319 : Jvm.Cond.code ({ cls := "RunweaverModel", name := "unlike", desc := "(I)I" } : Jvm.MethodName) prog_6_method_61_code (4 : Nat) (Option.some Jvm.ClassFile.FieldType.int) ∈ mGw := mGw_of (tV_5_1289 List.mem_cons_self) (by decide +kernel)
theorem mw_1320 : Jvm.Cond.methodLink "RunweaverModel" (143 : Nat) ({ cls := "RunweaverModel", name := "isNew", desc := "(II)Z" } : Jvm.MethodName) ∈ mGw := mGw_of (tV_5_1290 List.mem_cons_self) (by decide +kernel)
theorem mw_1322 : Jvm.Cond.instanceMethod ({ cls := "RunweaverModel", name := "isNew", desc := "(II)Z" } : Jvm.MethodName) ∈ mGw := mGw_of (tV_5_1292 List.mem_cons_self) (by decide +kernel)
theorem mw_1323 : Jvm.Cond.code ({ cls := "RunweaverModel", name := "isNew", desc := "(II)Z" } : Jvm.MethodName) prog_6_method_62_code (4 : Nat) (Option.some Jvm.ClassFile.FieldType.boolean) ∈ mGw := mGw_of (tV_5_1293 List.mem_cons_self) (by decide +kernel)
theorem mw_1324 : Jvm.Cond.methodLink "RunweaverLaw" (287 : Nat) ({ cls := "RunweaverModel", name := "most", desc := "(I)I" } : Jvm.MethodName) ∈ mGw := mGw_of (tV_5_1294 List.mem_cons_self) (by decide +kernel)
theorem mw_1325 : Jvm.Cond.instanceMethod ({ cls := "RunweaverModel", name := "most", desc := "(I)I" } : Jvm.MethodName) ∈ mGw := mGw_of (tV_5_1295 List.mem_cons_self) (by decide +kernel)
theorem mw_1326 : Jvm.Cond.selects "RunweaverModel" ({ cls := "RunweaverModel", name := "most", desc := "(I)I" } : Jvm.MethodName) ({ cls := "RunweaverModel", name := "most", desc := "(I)I" } : Jvm.MethodName) ∈ mGw := mGw_of (tV_5_1296 List.mem_cons_self) (by decide +kernel)
theorem mw_1327 : Jvm.Cond.code ({ cls := "RunweaverModel", name := "most", desc := "(I)I" } : Jvm.MethodName) prog_6_method_63_code (9 : Nat) (Option.some Jvm.ClassFile.FieldType.int) ∈ mGw := mGw_of (tV_5_1297 List.mem_cons_self) (by decide +kernel)
theorem mw_1328 : Jvm.Cond.methodLink "RunweaverLaw" (290 : Nat) ({ cls := "RunweaverModel", name := "sum", desc := "(I)I" } : Jvm.MethodName) ∈ mGw := mGw_of (tV_5_1298 List.mem_cons_self) (by decide +kernel)
theorem mw_1329 : Jvm.Cond.instanceMethod ({ cls := "RunweaverModel", name := "sum", desc := "(I)I" } : Jvm.MethodName) ∈ mGw := mGw_of (tV_5_1299 List.mem_cons_self) (by decide +kernel)
theorem mw_1330 : Jvm.Cond.selects "RunweaverModel" ({ cls := "RunweaverModel", name := "sum", desc := "(I)I" } : Jvm.MethodName) ({ cls := "RunweaverModel", name := "sum", desc := "(I)I" } : Jvm.MethodName) ∈ mGw := mGw_of (tV_5_1300 List.mem_cons_self) (by decide +kernel)
theorem mw_1331 : Jvm.Cond.code ({ cls := "RunweaverModel", name := "sum", desc := "(I)I" } : Jvm.MethodName) prog_6_method_64_code (7 : Nat) (Option.some Jvm.ClassFile.FieldType.int) ∈ mGw := mGw_of (tV_5_1301 List.mem_cons_self) (by decide +kernel)
theorem mw_1332 : Jvm.Cond.methodLink "RunweaverLaw" (293 : Nat) ({ cls := "RunweaverModel", name := "same", desc := "(II)Z" } : Jvm.MethodName) ∈ mGw := mGw_of (tV_5_1302 List.mem_cons_self) (by decide +kernel)
theorem mw_1333 : Jvm.Cond.instanceMethod ({ cls := "RunweaverModel", name := "same", desc := "(II)Z" } : Jvm.MethodName) ∈ mGw := mGw_of (tV_5_1303 List.mem_cons_self) (by decide +kernel)
theorem mw_1334 : Jvm.Cond.selects "RunweaverModel" ({ cls := "RunweaverModel", name := "same", desc := "(II)Z" } : Jvm.MethodName) ({ cls := "RunweaverModel", name := "same", desc := "(II)Z" } : Jvm.MethodName) ∈ mGw := mGw_of (tV_5_1304 List.mem_cons_self) (by decide +kernel)
theorem mw_1335 : Jvm.Cond.code ({ cls := "RunweaverModel", name := "same", desc := "(II)Z" } : Jvm.MethodName) prog_6_method_65_code (3 : Nat) (Option.some Jvm.ClassFile.FieldType.boolean) ∈ mGw := mGw_of (tV_5_1305 List.mem_cons_self) (by decide +kernel)
theorem mw_1336 : Jvm.Cond.methodLink "RunweaverLaw" (296 : Nat) ({ cls := "RunweaverModel", name := "bag", desc := "(II)Z" } : Jvm.MethodName) ∈ mGw := mGw_of (tV_5_1306 List.mem_cons_self) (by decide +kernel)
theorem mw_1337 : Jvm.Cond.instanceMethod ({ cls := "RunweaverModel", name := "bag", desc := "(II)Z" } : Jvm.MethodName) ∈ mGw := mGw_of (tV_5_1307 List.mem_cons_self) (by decide +kernel)
theorem mw_1338 : Jvm.Cond.selects "RunweaverModel" ({ cls := "RunweaverModel", name := "bag", desc := "(II)Z" } : Jvm.MethodName) ({ cls := "RunweaverModel", name := "bag", desc := "(II)Z" } : Jvm.MethodName) ∈ mGw := mGw_of (tV_5_1308 List.mem_cons_self) (by decide +kernel)
theorem mw_1339 : Jvm.Cond.code ({ cls := "RunweaverModel", name := "bag", desc := "(II)Z" } : Jvm.MethodName) prog_6_method_66_code (8 : Nat) (Option.some Jvm.ClassFile.FieldType.boolean) ∈ mGw := mGw_of (tV_5_1309 List.mem_cons_self) (by decide +kernel)
theorem mw_1340 : Jvm.Cond.methodLink "RunweaverLaw" (303 : Nat) ({ cls := "RunweaverModel", name := "mark", desc := "(IZ)I" } : Jvm.MethodName) ∈ mGw := mGw_of (tV_5_1310 List.mem_cons_self) (by decide +kernel)
theorem mw_1341 : Jvm.Cond.instanceMethod ({ cls := "RunweaverModel", name := "mark", desc := "(IZ)I" } : Jvm.MethodName) ∈ mGw := mGw_of (tV_5_1311 List.mem_cons_self) (by decide +kernel)
theorem mw_1342 : Jvm.Cond.selects "RunweaverModel" ({ cls := "RunweaverModel", name := "mark", desc := "(IZ)I" } : Jvm.MethodName) ({ cls := "RunweaverModel", name := "mark", desc := "(IZ)I" } : Jvm.MethodName) ∈ mGw := mGw_of (tV_5_1312 List.mem_cons_self) (by decide +kernel)
theorem mw_1343 : Jvm.Cond.code ({ cls := "RunweaverModel", name := "mark", desc := "(IZ)I" } : Jvm.MethodName) prog_6_method_67_code (8 : Nat) (Option.some Jvm.ClassFile.FieldType.int) ∈ mGw := mGw_of (tV_5_1313 List.mem_cons_self) (by decide +kernel)
theorem mw_1344 : Jvm.Cond.methodLink "RunweaverLaw" (306 : Nat) ({ cls := "RunweaverModel", name := "house", desc := "(I)I" } : Jvm.MethodName) ∈ mGw := mGw_of (tV_5_1314 List.mem_cons_self) (by decide +kernel)
theorem mw_1345 : Jvm.Cond.instanceMethod ({ cls := "RunweaverModel", name := "house", desc := "(I)I" } : Jvm.MethodName) ∈ mGw := mGw_of (tV_5_1315 List.mem_cons_self) (by decide +kernel)
theorem mw_1346 : Jvm.Cond.selects "RunweaverModel" ({ cls := "RunweaverModel", name := "house", desc := "(I)I" } : Jvm.MethodName) ({ cls := "RunweaverModel", name := "house", desc := "(I)I" } : Jvm.MethodName) ∈ mGw := mGw_of (tV_5_1316 List.mem_cons_self) (by decide +kernel)
theorem mw_1347 : Jvm.Cond.code ({ cls := "RunweaverModel", name := "house", desc := "(I)I" } : Jvm.MethodName) prog_6_method_68_code (5 : Nat) (Option.some Jvm.ClassFile.FieldType.int) ∈ mGw := mGw_of (tV_5_1317 List.mem_cons_self) (by decide +kernel)
theorem mw_1348 : Jvm.Cond.methodLink "RunweaverLaw" (310 : Nat) ({ cls := "RunweaverModel", name := "knock", desc := "()I" } : Jvm.MethodName) ∈ mGw := mGw_of (tV_5_1318 List.mem_cons_self) (by decide +kernel)
theorem mw_1349 : Jvm.Cond.instanceMethod ({ cls := "RunweaverModel", name := "knock", desc := "()I" } : Jvm.MethodName) ∈ mGw := mGw_of (tV_5_1319 List.mem_cons_self) (by decide +kernel)
theorem mw_1350 : Jvm.Cond.selects "RunweaverModel" ({ cls := "RunweaverModel", name := "knock", desc := "()I" } : Jvm.MethodName) ({ cls := "RunweaverModel", name := "knock", desc := "()I" } : Jvm.MethodName) ∈ mGw := mGw_of (tV_5_1320 List.mem_cons_self) (by decide +kernel)
theorem mw_1351 : Jvm.Cond.code ({ cls := "RunweaverModel", name := "knock", desc := "()I" } : Jvm.MethodName) prog_6_method_69_code (1 : Nat) (Option.some Jvm.ClassFile.FieldType.int) ∈ mGw := mGw_of (tV_5_1321 List.mem_cons_self) (by decide +kernel)
theorem mw_1352 : Jvm.Cond.methodLink "RunweaverLaw" (315 : Nat) ({ cls := "RunweaverModel", name := "isSound", desc := "()Z" } : Jvm.MethodName) ∈ mGw := mGw_of (tV_5_1322 List.mem_cons_self) (by decide +kernel)
theorem mw_1353 : Jvm.Cond.instanceMethod ({ cls := "RunweaverModel", name := "isSound", desc := "()Z" } : Jvm.MethodName) ∈ mGw := mGw_of (tV_5_1323 List.mem_cons_self) (by decide +kernel)
theorem mw_1354 : Jvm.Cond.selects "RunweaverModel" ({ cls := "RunweaverModel", name := "isSound", desc := "()Z" } : Jvm.MethodName) ({ cls := "RunweaverModel", name := "isSound", desc := "()Z" } : Jvm.MethodName) ∈ mGw := mGw_of (tV_5_1324 List.mem_cons_self) (by decide +kernel)
theorem mw_1355 : Jvm.Cond.code ({ cls := "RunweaverModel", name := "isSound", desc := "()Z" } : Jvm.MethodName) prog_6_method_70_code (1 : Nat) (Option.some Jvm.ClassFile.FieldType.boolean) ∈ mGw := mGw_of (tV_5_1325 List.mem_cons_self) (by decide +kernel)
theorem mw_1356 : Jvm.Cond.methodLink "RunweaverLaw" (320 : Nat) ({ cls := "RunweaverModel", name := "digest", desc := "()J" } : Jvm.MethodName) ∈ mGw := mGw_of (tV_5_1326 List.mem_cons_self) (by decide +kernel)
theorem mw_1357 : Jvm.Cond.instanceMethod ({ cls := "RunweaverModel", name := "digest", desc := "()J" } : Jvm.MethodName) ∈ mGw := mGw_of (tV_5_1327 List.mem_cons_self) (by decide +kernel)
theorem mw_1358 : Jvm.Cond.selects "RunweaverModel" ({ cls := "RunweaverModel", name := "digest", desc := "()J" } : Jvm.MethodName) ({ cls := "RunweaverModel", name := "digest", desc := "()J" } : Jvm.MethodName) ∈ mGw := mGw_of (tV_5_1328 List.mem_cons_self) (by decide +kernel)
theorem mw_1359 : Jvm.Cond.code ({ cls := "RunweaverModel", name := "digest", desc := "()J" } : Jvm.MethodName) prog_6_method_71_code (9 : Nat) (Option.some Jvm.ClassFile.FieldType.long) ∈ mGw := mGw_of (tV_5_1329 List.mem_cons_self) (by decide +kernel)
theorem mw_1360 : Jvm.Cond.constantLong "RunweaverModel" (149 : Nat) (8007 : Int64) ∈ mGw := mGw_of (tV_5_1330 List.mem_cons_self) (by decide +kernel)
theorem mw_1361 : Jvm.Cond.methodLink "RunweaverModel" (151 : Nat) ({ cls := "RunweaverModel", name := "many", desc := "(I)I" } : Jvm.MethodName) ∈ mGw := mGw_of (tV_5_1331 List.mem_cons_self) (by decide +kernel)
theorem mw_1362 : Jvm.Cond.methodLink "RunweaverModel" (154 : Nat) ({ cls := "RunweaverModel", name := "mark", desc := "(IZ)I" } : Jvm.MethodName) ∈ mGw := mGw_of (tV_5_1332 List.mem_cons_self) (by decide +kernel)
theorem mw_1363 : Jvm.Cond.methodLink "RunweaverModel" (158 : Nat) ({ cls := "RunweaverModel", name := "wrong", desc := "(II)I" } : Jvm.MethodName) ∈ mGw := mGw_of (tV_5_1333 List.mem_cons_self) (by decide +kernel)
theorem mw_1364 : Jvm.Cond.methodLink "RunweaverModel" (161 : Nat) ({ cls := "RunweaverModel", name := "ties", desc := "(I)I" } : Jvm.MethodName) ∈ mGw := mGw_of (tV_5_1334 List.mem_cons_self) (by decide +kernel)
theorem mw_1365 : Jvm.Cond.methodLink "RunweaverModel" (164 : Nat) ({ cls := "RunweaverModel", name := "runs", desc := "(I)I" } : Jvm.MethodName) ∈ mGw := mGw_of (tV_5_1335 List.mem_cons_self) (by decide +kernel)
theorem mw_1366 : Jvm.Cond.methodLink "RunweaverModel" (167 : Nat) ({ cls := "RunweaverModel", name := "longest", desc := "(I)I" } : Jvm.MethodName) ∈ mGw := mGw_of (tV_5_1336 List.mem_cons_self) (by decide +kernel)
theorem mw_1367 : Jvm.Cond.methodLink "RunweaverModel" (170 : Nat) ({ cls := "RunweaverModel", name := "sum", desc := "(I)I" } : Jvm.MethodName) ∈ mGw := mGw_of (tV_5_1337 List.mem_cons_self) (by decide +kernel)
theorem mw_1368 : Jvm.Cond.methodLink "RunweaverModel" (173 : Nat) ({ cls := "RunweaverModel", name := "unlike", desc := "(I)I" } : Jvm.MethodName) ∈ mGw := mGw_of (tV_5_1338 List.mem_cons_self) (by decide +kernel)
theorem mw_1369 : Jvm.Cond.constantLong "RunweaverModel" (175 : Nat) (31 : Int64) ∈ mGw := mGw_of (tV_5_1339 List.mem_cons_self) (by decide +kernel)
theorem mw_1370 : Jvm.Cond.methodLink "RunweaverModel" (177 : Nat) ({ cls := "RunweaverModel", name := "house", desc := "(I)I" } : Jvm.MethodName) ∈ mGw := mGw_of (tV_5_1340 List.mem_cons_self) (by decide +kernel)
theorem mw_1371 : Jvm.Cond.sameMethod "java/lang/Throwable" "java/lang/Throwable" "fillInStackTrace" "(I)Ljava/lang/Throwable;" ∈ mGw := mGw_of (tV_5_1341 List.mem_cons_self) (by decide +kernel)
theorem mw_1372 : Jvm.Cond.sameMethod "java/lang/AbstractStringBuilder" "java/lang/AbstractStringBuilder" "append" "(C)Ljava/lang/AbstractStringBuilder;" ∈ mGw := mGw_of (tV_5_1342 List.mem_cons_self) (by decide +kernel)
theorem mw_1373 : Jvm.Cond.sameMethod "java/lang/AbstractStringBuilder" "java/lang/AbstractStringBuilder" "ensureCapacityInternal" "(I)V" ∈ mGw := mGw_of (tV_5_1343 List.mem_cons_self) (by decide +kernel)
theorem mw_1374 : Jvm.Cond.sameMethod "java/lang/AbstractStringBuilder" "java/lang/AbstractStringBuilder" "newCapacity" "(I)I" ∈ mGw := mGw_of (tV_5_1344 List.mem_cons_self) (by decide +kernel)
theorem mw_1375 : Jvm.Cond.sameMethod "java/lang/AbstractStringBuilder" "java/lang/AbstractStringBuilder" "inflate" "()V" ∈ mGw := mGw_of (tV_5_1345 List.mem_cons_self) (by decide +kernel)
theorem mw_1376 : Jvm.Cond.sameMethod "java/lang/AbstractStringBuilder" "java/lang/AbstractStringBuilder" "append" "(I)Ljava/lang/AbstractStringBuilder;" ∈ mGw := mGw_of (tV_5_1346 List.mem_cons_self) (by decide +kernel)
theorem mw_1377 : Jvm.Cond.sameMethod "java/lang/AbstractStringBuilder" "java/lang/AbstractStringBuilder" "append" "(Ljava/lang/String;)Ljava/lang/AbstractStringBuilder;" ∈ mGw := mGw_of (tV_5_1347 List.mem_cons_self) (by decide +kernel)
theorem mw_1378 : Jvm.Cond.sameMethod "java/lang/AbstractStringBuilder" "java/lang/AbstractStringBuilder" "appendNull" "()Ljava/lang/AbstractStringBuilder;" ∈ mGw := mGw_of (tV_5_1348 List.mem_cons_self) (by decide +kernel)
theorem mw_1379 : Jvm.Cond.sameMethod "java/lang/AbstractStringBuilder" "java/lang/AbstractStringBuilder" "putStringAt" "(ILjava/lang/String;)V" ∈ mGw := mGw_of (tV_5_1349 List.mem_cons_self) (by decide +kernel)
theorem mw_1380 : Jvm.Cond.sameMethod "java/lang/AbstractStringBuilder" "java/lang/AbstractStringBuilder" "inflateIfNeededFor" "(Ljava/lang/String;)V" ∈ mGw := mGw_of (tV_5_1350 List.mem_cons_self) (by decide +kernel)
theorem mw_1381 : Jvm.Cond.selects "java/lang/StringBuilder" ({ cls := "java/lang/AbstractStringBuilder", name := "ensureCapacityInternal", desc := "(I)V" } : Jvm.MethodName) ({ cls := "java/lang/AbstractStringBuilder", name := "ensureCapacityInternal", desc := "(I)V" } : Jvm.MethodName) ∈ mGw := mGw_of (List.mem_of_getElem? (i := 1381) (by decide +kernel)) (by decide +kernel)
theorem mw_1382 : Jvm.Cond.selects "java/lang/StringBuilder" ({ cls := "java/lang/AbstractStringBuilder", name := "newCapacity", desc := "(I)I" } : Jvm.MethodName) ({ cls := "java/lang/AbstractStringBuilder", name := "newCapacity", desc := "(I)I" } : Jvm.MethodName) ∈ mGw := mGw_of (List.mem_of_getElem? (i := 1382) (by decide +kernel)) (by decide +kernel)
theorem mw_1383 : Jvm.Cond.selects "java/lang/StringBuilder" ({ cls := "java/lang/AbstractStringBuilder", name := "putStringAt", desc := "(ILjava/lang/String;)V" } : Jvm.MethodName) ({ cls := "java/lang/AbstractStringBuilder", name := "putStringAt", desc := "(ILjava/lang/String;)V" } : Jvm.MethodName) ∈ mGw := mGw_of (List.mem_of_getElem? (i := 1383) (by decide +kernel)) (by decide +kernel)
theorem mw_1384 : Jvm.Cond.selects "java/lang/StringBuilder" ({ cls := "java/lang/AbstractStringBuilder", name := "inflateIfNeededFor", desc := "(Ljava/lang/String;)V" } : Jvm.MethodName) ({ cls := "java/lang/AbstractStringBuilder", name := "inflateIfNeededFor", desc := "(Ljava/lang/String;)V" } : Jvm.MethodName) ∈ mGw := mGw_of (List.mem_of_getElem? (i := 1384) (by decide +kernel)) (by decide +kernel)
