/-! ===== words of the tables by their places; methods (by program: wip/gen_words.py) ===== -/
def mGw : List Cond := lw_tbl.filter goodWord
theorem mGw_of {w : Cond} (h : w ∈ lw_tbl) (g : goodWord w = true) : w ∈ mGw := List.mem_filter.mpr ⟨h, g⟩
/-- links between nest mates, casts: words that stay true, though not among the good ones -/
def mNk : Cond → Bool
  | .fieldLinkNest .. => true
  | .methodLinkNest .. => true
  | .castable .. => true
  | .declares .. => true
  | _ => false
def mNw : List Cond := lw_tbl.filter mNk
theorem mGw_at {w : Cond} (i : Nat) (h : lw_tbl[i]? = some w) (g : goodWord w = true) : w ∈ mGw := mGw_of (List.mem_of_getElem? h) g
def tS_0_240 : List Cond := []
def tS_0_239 : List Cond := (Jvm.Cond.selects "java/lang/IllegalArgumentException" ({ cls := "java/lang/Throwable", name := "fillInStackTrace", desc := "()Ljava/lang/Throwable;" } : Jvm.MethodName) ({ cls := "java/lang/Throwable", name := "fillInStackTrace", desc := "()Ljava/lang/Throwable;" } : Jvm.MethodName)) :: tS_0_240
def tS_0_238 : List Cond := (Jvm.Cond.sameMethod "java/lang/Throwable" "java/lang/Throwable" "fillInStackTrace" "()Ljava/lang/Throwable;") :: tS_0_239
def tS_0_237 : List Cond := (Jvm.Cond.instanceMethod ({ cls := "java/lang/Throwable", name := "fillInStackTrace", desc := "()Ljava/lang/Throwable;" } : Jvm.MethodName)) :: tS_0_238
def tS_0_236 : List Cond := (Jvm.Cond.methodLink "java/lang/Throwable" (27 : Nat) ({ cls := "java/lang/Throwable", name := "fillInStackTrace", desc := "()Ljava/lang/Throwable;" } : Jvm.MethodName)) :: tS_0_237
def tS_0_235 : List Cond := (Jvm.Cond.laysStatic "java/lang/Throwable" "SUPPRESSED_SENTINEL" "Ljava/util/List;") :: tS_0_236
def tS_0_234 : List Cond := (Jvm.Cond.fieldLink "java/lang/Throwable" (20 : Nat) "java/lang/Throwable" "SUPPRESSED_SENTINEL" "Ljava/util/List;") :: tS_0_235
def tS_0_233 : List Cond := (Jvm.Cond.laysStatic "java/lang/Throwable" "UNASSIGNED_STACK" "[Ljava/lang/StackTraceElement;") :: tS_0_234
def tS_0_232 : List Cond := (Jvm.Cond.fieldLink "java/lang/Throwable" (13 : Nat) "java/lang/Throwable" "UNASSIGNED_STACK" "[Ljava/lang/StackTraceElement;") :: tS_0_233
def tS_0_231 : List Cond := (Jvm.Cond.methodLink "java/lang/Throwable" (1 : Nat) ({ cls := "java/lang/Object", name := "<init>", desc := "()V" } : Jvm.MethodName)) :: tS_0_232
def tS_0_230 : List Cond := (Jvm.Cond.code ({ cls := "java/lang/Throwable", name := "<init>", desc := "()V" } : Jvm.MethodName) prog_19_method_1_code (1 : Nat) (Option.none : Option Jvm.ClassFile.FieldType)) :: tS_0_231
def tS_0_229 : List Cond := (Jvm.Cond.instanceMethod ({ cls := "java/lang/Throwable", name := "<init>", desc := "()V" } : Jvm.MethodName)) :: tS_0_230
def tS_0_228 : List Cond := (Jvm.Cond.superclass "java/lang/Throwable" "java/lang/Object") :: tS_0_229
def tS_0_227 : List Cond := (Jvm.Cond.fieldLink "java/lang/Throwable" (198 : Nat) "java/lang/Throwable" "backtrace" "Ljava/lang/Object;") :: tS_0_228
def tS_0_226 : List Cond := (Jvm.Cond.lays "java/lang/Throwable" "java/lang/Throwable" "backtrace" "Ljava/lang/Object;") :: tS_0_227
def tS_0_225 : List Cond := (Jvm.Cond.lays "java/lang/IndexOutOfBoundsException" "java/lang/Throwable" "backtrace" "Ljava/lang/Object;") :: tS_0_226
def tS_0_224 : List Cond := (Jvm.Cond.lays "java/lang/Throwable" "java/lang/Throwable" "detailMessage" "Ljava/lang/String;") :: tS_0_225
def tS_0_223 : List Cond := (Jvm.Cond.lays "java/lang/IndexOutOfBoundsException" "java/lang/Throwable" "detailMessage" "Ljava/lang/String;") :: tS_0_224
def tS_0_222 : List Cond := (Jvm.Cond.lays "java/lang/Throwable" "java/lang/Throwable" "suppressedExceptions" "Ljava/util/List;") :: tS_0_223
def tS_0_221 : List Cond := (Jvm.Cond.lays "java/lang/IndexOutOfBoundsException" "java/lang/Throwable" "suppressedExceptions" "Ljava/util/List;") :: tS_0_222
def tS_0_220 : List Cond := (Jvm.Cond.lays "java/lang/Throwable" "java/lang/Throwable" "stackTrace" "[Ljava/lang/StackTraceElement;") :: tS_0_221
def tS_0_219 : List Cond := (Jvm.Cond.lays "java/lang/IndexOutOfBoundsException" "java/lang/Throwable" "stackTrace" "[Ljava/lang/StackTraceElement;") :: tS_0_220
def tS_0_218 : List Cond := (Jvm.Cond.lays "java/lang/Throwable" "java/lang/Throwable" "cause" "Ljava/lang/Throwable;") :: tS_0_219
def tS_0_217 : List Cond := (Jvm.Cond.lays "java/lang/IndexOutOfBoundsException" "java/lang/Throwable" "cause" "Ljava/lang/Throwable;") :: tS_0_218
def tS_0_216 : List Cond := (Jvm.Cond.selects "java/lang/IndexOutOfBoundsException" ({ cls := "java/lang/Throwable", name := "fillInStackTrace", desc := "()Ljava/lang/Throwable;" } : Jvm.MethodName) ({ cls := "java/lang/Throwable", name := "fillInStackTrace", desc := "()Ljava/lang/Throwable;" } : Jvm.MethodName)) :: tS_0_217
def tS_0_215 : List Cond := (Jvm.Cond.selects "java/lang/IndexOutOfBoundsException" ({ cls := "java/lang/Throwable", name := "fillInStackTrace", desc := "(I)Ljava/lang/Throwable;" } : Jvm.MethodName) ({ cls := "java/lang/Throwable", name := "fillInStackTrace", desc := "(I)Ljava/lang/Throwable;" } : Jvm.MethodName)) :: tS_0_216
def tS_0_214 : List Cond := (Jvm.Cond.declares ({ cls := "java/lang/Throwable", name := "<init>", desc := "(Ljava/lang/String;)V" } : Jvm.MethodName)) :: tS_0_215
def tS_0_213 : List Cond := (Jvm.Cond.declares ({ cls := "java/lang/Throwable", name := "<init>", desc := "()V" } : Jvm.MethodName)) :: tS_0_214
def tS_0_212 : List Cond := (Jvm.Cond.declares ({ cls := "java/lang/Exception", name := "<init>", desc := "(Ljava/lang/String;)V" } : Jvm.MethodName)) :: tS_0_213
def tS_0_211 : List Cond := (Jvm.Cond.declares ({ cls := "java/lang/Exception", name := "<init>", desc := "()V" } : Jvm.MethodName)) :: tS_0_212
def tS_0_210 : List Cond := (Jvm.Cond.declares ({ cls := "java/lang/RuntimeException", name := "<init>", desc := "(Ljava/lang/String;)V" } : Jvm.MethodName)) :: tS_0_211
def tS_0_209 : List Cond := (Jvm.Cond.declares ({ cls := "java/lang/RuntimeException", name := "<init>", desc := "()V" } : Jvm.MethodName)) :: tS_0_210
def tS_0_208 : List Cond := (Jvm.Cond.castable "java/lang/IndexOutOfBoundsException" "java/lang/IndexOutOfBoundsException") :: tS_0_209
def tS_0_207 : List Cond := (Jvm.Cond.instantiable "java/lang/IndexOutOfBoundsException" (6 : Nat)) :: tS_0_208
def tS_0_206 : List Cond := (Jvm.Cond.classLink "Runweaver" (285 : Nat) "java/lang/IndexOutOfBoundsException") :: tS_0_207
def tS_0_205 : List Cond := (Jvm.Cond.code ({ cls := "Runweaver", name := "rowOf", desc := "(I)LRunweaver$Row;" } : Jvm.MethodName) prog_1_method_48_code (2 : Nat) (Option.some (Jvm.ClassFile.FieldType.object "Runweaver$Row"))) :: tS_0_206
def tS_0_204 : List Cond := (Jvm.Cond.instanceMethod ({ cls := "Runweaver", name := "rowOf", desc := "(I)LRunweaver$Row;" } : Jvm.MethodName)) :: tS_0_205
def tS_0_203 : List Cond := (Jvm.Cond.privateMethod ({ cls := "Runweaver", name := "rowOf", desc := "(I)LRunweaver$Row;" } : Jvm.MethodName)) :: tS_0_204
def tS_0_202 : List Cond := (Jvm.Cond.methodLink "Runweaver" (27 : Nat) ({ cls := "Runweaver", name := "rowOf", desc := "(I)LRunweaver$Row;" } : Jvm.MethodName)) :: tS_0_203
def tS_0_201 : List Cond := (Jvm.Cond.code ({ cls := "Runweaver", name := "many", desc := "(I)I" } : Jvm.MethodName) prog_1_method_16_code (2 : Nat) (Option.some Jvm.ClassFile.FieldType.int)) :: tS_0_202
def tS_0_200 : List Cond := (Jvm.Cond.selects "Runweaver" ({ cls := "Runweaver", name := "many", desc := "(I)I" } : Jvm.MethodName) ({ cls := "Runweaver", name := "many", desc := "(I)I" } : Jvm.MethodName)) :: tS_0_201
def tS_0_199 : List Cond := (Jvm.Cond.instanceMethod ({ cls := "Runweaver", name := "many", desc := "(I)I" } : Jvm.MethodName)) :: tS_0_200
def tS_0_198 : List Cond := (Jvm.Cond.methodLink "RunweaverLaw" (49 : Nat) ({ cls := "Runweaver", name := "many", desc := "(I)I" } : Jvm.MethodName)) :: tS_0_199
def tS_0_197 : List Cond := (Jvm.Cond.classLink "RunweaverLaw" (99 : Nat) "java/lang/IllegalArgumentException") :: tS_0_198
def tS_0_196 : List Cond := (Jvm.Cond.classLink "RunweaverLaw" (97 : Nat) "java/lang/IndexOutOfBoundsException") :: tS_0_197
def tS_0_195 : List Cond := (Jvm.Cond.codeWith ({ cls := "RunweaverLaw", name := "act", desc := "(LRunweaver;III)V" } : Jvm.MethodName) method_6_code (9 : Nat) (Option.none : Option Jvm.ClassFile.FieldType) [((71 : Nat), (401 : Nat), (404 : Nat), (97 : Nat)), ((71 : Nat), (401 : Nat), (407 : Nat), (99 : Nat))]) :: tS_0_196
def tS_0_194 : List Cond := (Jvm.Cond.static ({ cls := "RunweaverLaw", name := "act", desc := "(LRunweaver;III)V" } : Jvm.MethodName)) :: tS_0_195
def tS_0_193 : List Cond := (Jvm.Cond.methodLink "RunweaverLaw" (24 : Nat) ({ cls := "RunweaverLaw", name := "act", desc := "(LRunweaver;III)V" } : Jvm.MethodName)) :: tS_0_194
def tS_0_192 : List Cond := (Jvm.Cond.constant "RunweaverLaw" (9 : Nat) (625341585 : Int32)) :: tS_0_193
def tS_0_191 : List Cond := (Jvm.Cond.constant "RunweaverLaw" (8 : Nat) (1640531527 : Int32)) :: tS_0_192
def tS_0_190 : List Cond := (Jvm.Cond.code ({ cls := "RunweaverLaw", name := "pick", desc := "(III)I" } : Jvm.MethodName) method_3_code (3 : Nat) (Option.some Jvm.ClassFile.FieldType.int)) :: tS_0_191
def tS_0_189 : List Cond := (Jvm.Cond.static ({ cls := "RunweaverLaw", name := "pick", desc := "(III)I" } : Jvm.MethodName)) :: tS_0_190
def tS_0_188 : List Cond := (Jvm.Cond.methodLink "RunweaverLaw" (20 : Nat) ({ cls := "RunweaverLaw", name := "pick", desc := "(III)I" } : Jvm.MethodName)) :: tS_0_189
def tS_0_187 : List Cond := (Jvm.Cond.constant "RunweaverLaw" (7 : Nat) (790386105 : Int32)) :: tS_0_188
def tS_0_186 : List Cond := (Jvm.Cond.code ({ cls := "RunweaverLaw", name := "cell", desc := "([II)I" } : Jvm.MethodName) method_2_code (2 : Nat) (Option.some Jvm.ClassFile.FieldType.int)) :: tS_0_187
def tS_0_185 : List Cond := (Jvm.Cond.static ({ cls := "RunweaverLaw", name := "cell", desc := "([II)I" } : Jvm.MethodName)) :: tS_0_186
def tS_0_184 : List Cond := (Jvm.Cond.methodLink "RunweaverLaw" (13 : Nat) ({ cls := "RunweaverLaw", name := "cell", desc := "([II)I" } : Jvm.MethodName)) :: tS_0_185
def tS_0_183 : List Cond := (Jvm.Cond.code ({ cls := "Runweaver$Row", name := "otherItems", desc := "(LRunweaver$Row;)I" } : Jvm.MethodName) prog_3_method_11_code (5 : Nat) (Option.some Jvm.ClassFile.FieldType.int)) :: tS_0_184
def tS_0_182 : List Cond := (Jvm.Cond.selects "Runweaver$Row" ({ cls := "Runweaver$Row", name := "otherItems", desc := "(LRunweaver$Row;)I" } : Jvm.MethodName) ({ cls := "Runweaver$Row", name := "otherItems", desc := "(LRunweaver$Row;)I" } : Jvm.MethodName)) :: tS_0_183
def tS_0_181 : List Cond := (Jvm.Cond.instanceMethod ({ cls := "Runweaver$Row", name := "otherItems", desc := "(LRunweaver$Row;)I" } : Jvm.MethodName)) :: tS_0_182
def tS_0_180 : List Cond := (Jvm.Cond.methodLink "Runweaver" (120 : Nat) ({ cls := "Runweaver$Row", name := "otherItems", desc := "(LRunweaver$Row;)I" } : Jvm.MethodName)) :: tS_0_181
def tS_0_179 : List Cond := (Jvm.Cond.code ({ cls := "Runweaver$Loom", name := "weaveJoined", desc := "(I)V" } : Jvm.MethodName) prog_2_method_3_code (2 : Nat) (Option.none : Option Jvm.ClassFile.FieldType)) :: tS_0_180
def tS_0_178 : List Cond := (Jvm.Cond.selects "Runweaver$Loom" ({ cls := "Runweaver$Loom", name := "weaveJoined", desc := "(I)V" } : Jvm.MethodName) ({ cls := "Runweaver$Loom", name := "weaveJoined", desc := "(I)V" } : Jvm.MethodName)) :: tS_0_179
def tS_0_177 : List Cond := (Jvm.Cond.instanceMethod ({ cls := "Runweaver$Loom", name := "weaveJoined", desc := "(I)V" } : Jvm.MethodName)) :: tS_0_178
def tS_0_176 : List Cond := (Jvm.Cond.methodLink "Runweaver" (138 : Nat) ({ cls := "Runweaver$Loom", name := "weaveJoined", desc := "(I)V" } : Jvm.MethodName)) :: tS_0_177
def tS_0_175 : List Cond := (Jvm.Cond.methodLink "Runweaver" (90 : Nat) ({ cls := "Runweaver$Row", name := "appendSpan", desc := "(LRunweaver$Row;II)V" } : Jvm.MethodName)) :: tS_0_176
def tS_0_174 : List Cond := (Jvm.Cond.methodLink "Runweaver" (94 : Nat) ({ cls := "Runweaver$Row", name := "become", desc := "(LRunweaver$Row;)V" } : Jvm.MethodName)) :: tS_0_175
def tS_0_173 : List Cond := (Jvm.Cond.code ({ cls := "Runweaver$Row", name := "free", desc := "()I" } : Jvm.MethodName) prog_3_method_3_code (1 : Nat) (Option.some Jvm.ClassFile.FieldType.int)) :: tS_0_174
def tS_0_172 : List Cond := (Jvm.Cond.selects "Runweaver$Row" ({ cls := "Runweaver$Row", name := "free", desc := "()I" } : Jvm.MethodName) ({ cls := "Runweaver$Row", name := "free", desc := "()I" } : Jvm.MethodName)) :: tS_0_173
def tS_0_171 : List Cond := (Jvm.Cond.instanceMethod ({ cls := "Runweaver$Row", name := "free", desc := "()I" } : Jvm.MethodName)) :: tS_0_172
def tS_0_170 : List Cond := (Jvm.Cond.methodLink "Runweaver" (61 : Nat) ({ cls := "Runweaver$Row", name := "free", desc := "()I" } : Jvm.MethodName)) :: tS_0_171
def tS_0_169 : List Cond := (Jvm.Cond.code ({ cls := "Runweaver", name := "isWeaveSound", desc := "(LRunweaver$Row;LRunweaver$Row;)Z" } : Jvm.MethodName) prog_1_method_66_code (3 : Nat) (Option.some Jvm.ClassFile.FieldType.boolean)) :: tS_0_170
def tS_0_168 : List Cond := (Jvm.Cond.instanceMethod ({ cls := "Runweaver", name := "isWeaveSound", desc := "(LRunweaver$Row;LRunweaver$Row;)Z" } : Jvm.MethodName)) :: tS_0_169
def tS_0_167 : List Cond := (Jvm.Cond.privateMethod ({ cls := "Runweaver", name := "isWeaveSound", desc := "(LRunweaver$Row;LRunweaver$Row;)Z" } : Jvm.MethodName)) :: tS_0_168
def tS_0_166 : List Cond := (Jvm.Cond.methodLink "Runweaver" (246 : Nat) ({ cls := "Runweaver", name := "isWeaveSound", desc := "(LRunweaver$Row;LRunweaver$Row;)Z" } : Jvm.MethodName)) :: tS_0_167
def tS_0_165 : List Cond := (Jvm.Cond.code ({ cls := "Runweaver$Row", name := "rankAt", desc := "(I)I" } : Jvm.MethodName) prog_3_method_15_code (5 : Nat) (Option.some Jvm.ClassFile.FieldType.int)) :: tS_0_166
def tS_0_164 : List Cond := (Jvm.Cond.selects "Runweaver$Row" ({ cls := "Runweaver$Row", name := "rankAt", desc := "(I)I" } : Jvm.MethodName) ({ cls := "Runweaver$Row", name := "rankAt", desc := "(I)I" } : Jvm.MethodName)) :: tS_0_165
def tS_0_163 : List Cond := (Jvm.Cond.instanceMethod ({ cls := "Runweaver$Row", name := "rankAt", desc := "(I)I" } : Jvm.MethodName)) :: tS_0_164
def tS_0_162 : List Cond := (Jvm.Cond.methodLink "Runweaver$Row" (42 : Nat) ({ cls := "Runweaver$Row", name := "rankAt", desc := "(I)I" } : Jvm.MethodName)) :: tS_0_163
def tS_0_161 : List Cond := (Jvm.Cond.code ({ cls := "Runweaver$Row", name := "standsByRanksIn", desc := "(LRunweaver$Row;)Z" } : Jvm.MethodName) prog_3_method_16_code (4 : Nat) (Option.some Jvm.ClassFile.FieldType.boolean)) :: tS_0_162
def tS_0_160 : List Cond := (Jvm.Cond.selects "Runweaver$Row" ({ cls := "Runweaver$Row", name := "standsByRanksIn", desc := "(LRunweaver$Row;)Z" } : Jvm.MethodName) ({ cls := "Runweaver$Row", name := "standsByRanksIn", desc := "(LRunweaver$Row;)Z" } : Jvm.MethodName)) :: tS_0_161
def tS_0_159 : List Cond := (Jvm.Cond.instanceMethod ({ cls := "Runweaver$Row", name := "standsByRanksIn", desc := "(LRunweaver$Row;)Z" } : Jvm.MethodName)) :: tS_0_160
def tS_0_158 : List Cond := (Jvm.Cond.methodLink "Runweaver" (308 : Nat) ({ cls := "Runweaver$Row", name := "standsByRanksIn", desc := "(LRunweaver$Row;)Z" } : Jvm.MethodName)) :: tS_0_159
def tS_0_157 : List Cond := (Jvm.Cond.code ({ cls := "Runweaver$Row", name := "tiedPairsOfSorted", desc := "()I" } : Jvm.MethodName) prog_3_method_30_code (4 : Nat) (Option.some Jvm.ClassFile.FieldType.int)) :: tS_0_158
def tS_0_156 : List Cond := (Jvm.Cond.selects "Runweaver$Row" ({ cls := "Runweaver$Row", name := "tiedPairsOfSorted", desc := "()I" } : Jvm.MethodName) ({ cls := "Runweaver$Row", name := "tiedPairsOfSorted", desc := "()I" } : Jvm.MethodName)) :: tS_0_157
def tS_0_155 : List Cond := (Jvm.Cond.instanceMethod ({ cls := "Runweaver$Row", name := "tiedPairsOfSorted", desc := "()I" } : Jvm.MethodName)) :: tS_0_156
def tS_0_154 : List Cond := (Jvm.Cond.methodLink "Runweaver" (181 : Nat) ({ cls := "Runweaver$Row", name := "tiedPairsOfSorted", desc := "()I" } : Jvm.MethodName)) :: tS_0_155
def tS_0_153 : List Cond := (Jvm.Cond.code ({ cls := "Runweaver$Row", name := "rightPairs", desc := "()I" } : Jvm.MethodName) prog_3_method_19_code (4 : Nat) (Option.some Jvm.ClassFile.FieldType.int)) :: tS_0_154
def tS_0_152 : List Cond := (Jvm.Cond.selects "Runweaver$Row" ({ cls := "Runweaver$Row", name := "rightPairs", desc := "()I" } : Jvm.MethodName) ({ cls := "Runweaver$Row", name := "rightPairs", desc := "()I" } : Jvm.MethodName)) :: tS_0_153
def tS_0_151 : List Cond := (Jvm.Cond.instanceMethod ({ cls := "Runweaver$Row", name := "rightPairs", desc := "()I" } : Jvm.MethodName)) :: tS_0_152
def tS_0_150 : List Cond := (Jvm.Cond.methodLink "Runweaver" (178 : Nat) ({ cls := "Runweaver$Row", name := "rightPairs", desc := "()I" } : Jvm.MethodName)) :: tS_0_151
def tS_0_149 : List Cond := (Jvm.Cond.code ({ cls := "Runweaver$Row", name := "isRising", desc := "()Z" } : Jvm.MethodName) prog_3_method_12_code (2 : Nat) (Option.some Jvm.ClassFile.FieldType.boolean)) :: tS_0_150
def tS_0_148 : List Cond := (Jvm.Cond.selects "Runweaver$Row" ({ cls := "Runweaver$Row", name := "isRising", desc := "()Z" } : Jvm.MethodName) ({ cls := "Runweaver$Row", name := "isRising", desc := "()Z" } : Jvm.MethodName)) :: tS_0_149
def tS_0_147 : List Cond := (Jvm.Cond.instanceMethod ({ cls := "Runweaver$Row", name := "isRising", desc := "()Z" } : Jvm.MethodName)) :: tS_0_148
def tS_0_146 : List Cond := (Jvm.Cond.methodLink "Runweaver" (131 : Nat) ({ cls := "Runweaver$Row", name := "isRising", desc := "()Z" } : Jvm.MethodName)) :: tS_0_147
def tS_0_145 : List Cond := (Jvm.Cond.code ({ cls := "Runweaver$Row", name := "wrongPairs", desc := "()I" } : Jvm.MethodName) prog_3_method_18_code (4 : Nat) (Option.some Jvm.ClassFile.FieldType.int)) :: tS_0_146
def tS_0_144 : List Cond := (Jvm.Cond.selects "Runweaver$Row" ({ cls := "Runweaver$Row", name := "wrongPairs", desc := "()I" } : Jvm.MethodName) ({ cls := "Runweaver$Row", name := "wrongPairs", desc := "()I" } : Jvm.MethodName)) :: tS_0_145
def tS_0_143 : List Cond := (Jvm.Cond.instanceMethod ({ cls := "Runweaver$Row", name := "wrongPairs", desc := "()I" } : Jvm.MethodName)) :: tS_0_144
def tS_0_142 : List Cond := (Jvm.Cond.methodLink "Runweaver" (175 : Nat) ({ cls := "Runweaver$Row", name := "wrongPairs", desc := "()I" } : Jvm.MethodName)) :: tS_0_143
def tS_0_141 : List Cond := (Jvm.Cond.methodLink "Runweaver$Row" (26 : Nat) ({ cls := "Runweaver$Row", name := "append", desc := "(II)V" } : Jvm.MethodName)) :: tS_0_142
def tS_0_140 : List Cond := (Jvm.Cond.code ({ cls := "Runweaver$Row", name := "appendSpan", desc := "(LRunweaver$Row;II)V" } : Jvm.MethodName) prog_3_method_6_code (5 : Nat) (Option.none : Option Jvm.ClassFile.FieldType)) :: tS_0_141
def tS_0_139 : List Cond := (Jvm.Cond.selects "Runweaver$Row" ({ cls := "Runweaver$Row", name := "appendSpan", desc := "(LRunweaver$Row;II)V" } : Jvm.MethodName) ({ cls := "Runweaver$Row", name := "appendSpan", desc := "(LRunweaver$Row;II)V" } : Jvm.MethodName)) :: tS_0_140
def tS_0_138 : List Cond := (Jvm.Cond.instanceMethod ({ cls := "Runweaver$Row", name := "appendSpan", desc := "(LRunweaver$Row;II)V" } : Jvm.MethodName)) :: tS_0_139
def tS_0_137 : List Cond := (Jvm.Cond.methodLink "Runweaver$Loom" (63 : Nat) ({ cls := "Runweaver$Row", name := "appendSpan", desc := "(LRunweaver$Row;II)V" } : Jvm.MethodName)) :: tS_0_138
def tS_0_136 : List Cond := (Jvm.Cond.code ({ cls := "Runweaver$Row", name := "append", desc := "(II)V" } : Jvm.MethodName) prog_3_method_5_code (3 : Nat) (Option.none : Option Jvm.ClassFile.FieldType)) :: tS_0_137
def tS_0_135 : List Cond := (Jvm.Cond.selects "Runweaver$Row" ({ cls := "Runweaver$Row", name := "append", desc := "(II)V" } : Jvm.MethodName) ({ cls := "Runweaver$Row", name := "append", desc := "(II)V" } : Jvm.MethodName)) :: tS_0_136
def tS_0_134 : List Cond := (Jvm.Cond.instanceMethod ({ cls := "Runweaver$Row", name := "append", desc := "(II)V" } : Jvm.MethodName)) :: tS_0_135
def tS_0_133 : List Cond := (Jvm.Cond.methodLink "Runweaver$Loom" (59 : Nat) ({ cls := "Runweaver$Row", name := "append", desc := "(II)V" } : Jvm.MethodName)) :: tS_0_134
def tS_0_132 : List Cond := (Jvm.Cond.code ({ cls := "Runweaver$Loom", name := "mergeSpans", desc := "(LRunweaver$Row;IIILRunweaver$Row;)I" } : Jvm.MethodName) prog_2_method_5_code (8 : Nat) (Option.some Jvm.ClassFile.FieldType.int)) :: tS_0_133
def tS_0_131 : List Cond := (Jvm.Cond.static ({ cls := "Runweaver$Loom", name := "mergeSpans", desc := "(LRunweaver$Row;IIILRunweaver$Row;)I" } : Jvm.MethodName)) :: tS_0_132
def tS_0_130 : List Cond := (Jvm.Cond.methodLink "Runweaver$Loom" (42 : Nat) ({ cls := "Runweaver$Loom", name := "mergeSpans", desc := "(LRunweaver$Row;IIILRunweaver$Row;)I" } : Jvm.MethodName)) :: tS_0_131
def tS_0_129 : List Cond := (Jvm.Cond.methodLink "Runweaver$Loom" (46 : Nat) ({ cls := "java/lang/Math", name := "min", desc := "(II)I" } : Jvm.MethodName)) :: tS_0_130
def tS_0_128 : List Cond := (Jvm.Cond.code ({ cls := "Runweaver$Row", name := "empty", desc := "()V" } : Jvm.MethodName) prog_3_method_4_code (1 : Nat) (Option.none : Option Jvm.ClassFile.FieldType)) :: tS_0_129
def tS_0_127 : List Cond := (Jvm.Cond.selects "Runweaver$Row" ({ cls := "Runweaver$Row", name := "empty", desc := "()V" } : Jvm.MethodName) ({ cls := "Runweaver$Row", name := "empty", desc := "()V" } : Jvm.MethodName)) :: tS_0_128
def tS_0_126 : List Cond := (Jvm.Cond.instanceMethod ({ cls := "Runweaver$Row", name := "empty", desc := "()V" } : Jvm.MethodName)) :: tS_0_127
def tS_0_125 : List Cond := (Jvm.Cond.methodLink "Runweaver$Loom" (39 : Nat) ({ cls := "Runweaver$Row", name := "empty", desc := "()V" } : Jvm.MethodName)) :: tS_0_126
def tS_0_124 : List Cond := (Jvm.Cond.code ({ cls := "Runweaver$Loom", name := "mergeNeighbours", desc := "(LRunweaver$Row;I)I" } : Jvm.MethodName) prog_2_method_4_code (7 : Nat) (Option.some Jvm.ClassFile.FieldType.int)) :: tS_0_125
def tS_0_123 : List Cond := (Jvm.Cond.instanceMethod ({ cls := "Runweaver$Loom", name := "mergeNeighbours", desc := "(LRunweaver$Row;I)I" } : Jvm.MethodName)) :: tS_0_124
def tS_0_122 : List Cond := (Jvm.Cond.privateMethod ({ cls := "Runweaver$Loom", name := "mergeNeighbours", desc := "(LRunweaver$Row;I)I" } : Jvm.MethodName)) :: tS_0_123
def tS_0_121 : List Cond := (Jvm.Cond.methodLink "Runweaver$Loom" (35 : Nat) ({ cls := "Runweaver$Loom", name := "mergeNeighbours", desc := "(LRunweaver$Row;I)I" } : Jvm.MethodName)) :: tS_0_122
def tS_0_120 : List Cond := (Jvm.Cond.native ({ cls := "java/lang/System", name := "arraycopy", desc := "(Ljava/lang/Object;ILjava/lang/Object;II)V" } : Jvm.MethodName)) :: tS_0_121
def tS_0_119 : List Cond := (Jvm.Cond.static ({ cls := "java/lang/System", name := "arraycopy", desc := "(Ljava/lang/Object;ILjava/lang/Object;II)V" } : Jvm.MethodName)) :: tS_0_120
def tS_0_118 : List Cond := (Jvm.Cond.methodLink "Runweaver$Row" (36 : Nat) ({ cls := "java/lang/System", name := "arraycopy", desc := "(Ljava/lang/Object;ILjava/lang/Object;II)V" } : Jvm.MethodName)) :: tS_0_119
def tS_0_117 : List Cond := (Jvm.Cond.code ({ cls := "java/lang/Math", name := "min", desc := "(II)I" } : Jvm.MethodName) prog_12_method_69_code (2 : Nat) (Option.some Jvm.ClassFile.FieldType.int)) :: tS_0_118
def tS_0_116 : List Cond := (Jvm.Cond.static ({ cls := "java/lang/Math", name := "min", desc := "(II)I" } : Jvm.MethodName)) :: tS_0_117
def tS_0_115 : List Cond := (Jvm.Cond.methodLink "Runweaver$Row" (30 : Nat) ({ cls := "java/lang/Math", name := "min", desc := "(II)I" } : Jvm.MethodName)) :: tS_0_116
def tS_0_114 : List Cond := (Jvm.Cond.code ({ cls := "Runweaver$Row", name := "become", desc := "(LRunweaver$Row;)V" } : Jvm.MethodName) prog_3_method_7_code (3 : Nat) (Option.none : Option Jvm.ClassFile.FieldType)) :: tS_0_115
def tS_0_113 : List Cond := (Jvm.Cond.selects "Runweaver$Row" ({ cls := "Runweaver$Row", name := "become", desc := "(LRunweaver$Row;)V" } : Jvm.MethodName) ({ cls := "Runweaver$Row", name := "become", desc := "(LRunweaver$Row;)V" } : Jvm.MethodName)) :: tS_0_114
def tS_0_112 : List Cond := (Jvm.Cond.instanceMethod ({ cls := "Runweaver$Row", name := "become", desc := "(LRunweaver$Row;)V" } : Jvm.MethodName)) :: tS_0_113
def tS_0_111 : List Cond := (Jvm.Cond.methodLink "Runweaver$Loom" (27 : Nat) ({ cls := "Runweaver$Row", name := "become", desc := "(LRunweaver$Row;)V" } : Jvm.MethodName)) :: tS_0_112
def tS_0_110 : List Cond := (Jvm.Cond.code ({ cls := "Runweaver$Loom", name := "sortUp", desc := "(LRunweaver$Row;LRunweaver$Row;)I" } : Jvm.MethodName) prog_2_method_2_code (5 : Nat) (Option.some Jvm.ClassFile.FieldType.int)) :: tS_0_111
def tS_0_109 : List Cond := (Jvm.Cond.selects "Runweaver$Loom" ({ cls := "Runweaver$Loom", name := "sortUp", desc := "(LRunweaver$Row;LRunweaver$Row;)I" } : Jvm.MethodName) ({ cls := "Runweaver$Loom", name := "sortUp", desc := "(LRunweaver$Row;LRunweaver$Row;)I" } : Jvm.MethodName)) :: tS_0_110
def tS_0_108 : List Cond := (Jvm.Cond.instanceMethod ({ cls := "Runweaver$Loom", name := "sortUp", desc := "(LRunweaver$Row;LRunweaver$Row;)I" } : Jvm.MethodName)) :: tS_0_109
def tS_0_107 : List Cond := (Jvm.Cond.methodLink "Runweaver" (116 : Nat) ({ cls := "Runweaver$Loom", name := "sortUp", desc := "(LRunweaver$Row;LRunweaver$Row;)I" } : Jvm.MethodName)) :: tS_0_108
def tS_0_106 : List Cond := (Jvm.Cond.code ({ cls := "Runweaver", name := "isRowSound", desc := "(LRunweaver$Row;)Z" } : Jvm.MethodName) prog_1_method_65_code (4 : Nat) (Option.some Jvm.ClassFile.FieldType.boolean)) :: tS_0_107
def tS_0_105 : List Cond := (Jvm.Cond.instanceMethod ({ cls := "Runweaver", name := "isRowSound", desc := "(LRunweaver$Row;)Z" } : Jvm.MethodName)) :: tS_0_106
def tS_0_104 : List Cond := (Jvm.Cond.privateMethod ({ cls := "Runweaver", name := "isRowSound", desc := "(LRunweaver$Row;)Z" } : Jvm.MethodName)) :: tS_0_105
def tS_0_103 : List Cond := (Jvm.Cond.methodLink "Runweaver" (242 : Nat) ({ cls := "Runweaver", name := "isRowSound", desc := "(LRunweaver$Row;)Z" } : Jvm.MethodName)) :: tS_0_104
def tS_0_102 : List Cond := (Jvm.Cond.code ({ cls := "Runweaver", name := "isSound", desc := "()Z" } : Jvm.MethodName) prog_1_method_46_code (2 : Nat) (Option.some Jvm.ClassFile.FieldType.boolean)) :: tS_0_103
def tS_0_101 : List Cond := (Jvm.Cond.selects "Runweaver" ({ cls := "Runweaver", name := "isSound", desc := "()Z" } : Jvm.MethodName) ({ cls := "Runweaver", name := "isSound", desc := "()Z" } : Jvm.MethodName)) :: tS_0_102
def tS_0_100 : List Cond := (Jvm.Cond.instanceMethod ({ cls := "Runweaver", name := "isSound", desc := "()Z" } : Jvm.MethodName)) :: tS_0_101
def tS_0_99 : List Cond := (Jvm.Cond.methodLink "RunweaverLaw" (45 : Nat) ({ cls := "Runweaver", name := "isSound", desc := "()Z" } : Jvm.MethodName)) :: tS_0_100
def tS_0_98 : List Cond := (Jvm.Cond.superclass "Runweaver" "java/lang/Object") :: tS_0_99
def tS_0_97 : List Cond := (Jvm.Cond.soleField "Runweaver" "knocks") :: tS_0_98
def tS_0_96 : List Cond := (Jvm.Cond.lays "Runweaver" "Runweaver" "knocks" "I") :: tS_0_97
def tS_0_95 : List Cond := (Jvm.Cond.soleField "Runweaver" "refusals") :: tS_0_96
def tS_0_94 : List Cond := (Jvm.Cond.lays "Runweaver" "Runweaver" "refusals" "I") :: tS_0_95
def tS_0_93 : List Cond := (Jvm.Cond.soleField "Runweaver" "acts") :: tS_0_94
def tS_0_92 : List Cond := (Jvm.Cond.lays "Runweaver" "Runweaver" "acts" "I") :: tS_0_93
def tS_0_91 : List Cond := (Jvm.Cond.soleField "Runweaver" "stampsGiven") :: tS_0_92
def tS_0_90 : List Cond := (Jvm.Cond.lays "Runweaver" "Runweaver" "stampsGiven" "I") :: tS_0_91
def tS_0_89 : List Cond := (Jvm.Cond.soleField "Runweaver" "loom") :: tS_0_90
def tS_0_88 : List Cond := (Jvm.Cond.laysFinal "Runweaver" "Runweaver" "loom" "LRunweaver$Loom;") :: tS_0_89
def tS_0_87 : List Cond := (Jvm.Cond.soleField "Runweaver" "rows") :: tS_0_88
def tS_0_86 : List Cond := (Jvm.Cond.laysFinal "Runweaver" "Runweaver" "rows" "[LRunweaver$Row;") :: tS_0_87
def tS_0_85 : List Cond := (Jvm.Cond.fieldLink "Runweaver" (226 : Nat) "Runweaver" "knocks" "I") :: tS_0_86
def tS_0_84 : List Cond := (Jvm.Cond.fieldLink "Runweaver" (223 : Nat) "Runweaver" "refusals" "I") :: tS_0_85
def tS_0_83 : List Cond := (Jvm.Cond.fieldLink "Runweaver" (220 : Nat) "Runweaver" "acts" "I") :: tS_0_84
def tS_0_82 : List Cond := (Jvm.Cond.fieldLink "Runweaver" (229 : Nat) "Runweaver" "stampsGiven" "I") :: tS_0_83
def tS_0_81 : List Cond := (Jvm.Cond.fieldLink "Runweaver" (23 : Nat) "Runweaver" "loom" "LRunweaver$Loom;") :: tS_0_82
def tS_0_80 : List Cond := (Jvm.Cond.fieldLink "Runweaver" (11 : Nat) "Runweaver" "rows" "[LRunweaver$Row;") :: tS_0_81
def tS_0_79 : List Cond := (Jvm.Cond.superclass "Runweaver$Loom" "java/lang/Object") :: tS_0_80
def tS_0_78 : List Cond := (Jvm.Cond.soleField "Runweaver$Loom" "spare") :: tS_0_79
def tS_0_77 : List Cond := (Jvm.Cond.laysFinal "Runweaver$Loom" "Runweaver$Loom" "spare" "LRunweaver$Row;") :: tS_0_78
def tS_0_76 : List Cond := (Jvm.Cond.soleField "Runweaver$Loom" "woven") :: tS_0_77
def tS_0_75 : List Cond := (Jvm.Cond.laysFinal "Runweaver$Loom" "Runweaver$Loom" "woven" "LRunweaver$Row;") :: tS_0_76
def tS_0_74 : List Cond := (Jvm.Cond.soleField "Runweaver$Loom" "joined") :: tS_0_75
def tS_0_73 : List Cond := (Jvm.Cond.laysFinal "Runweaver$Loom" "Runweaver$Loom" "joined" "LRunweaver$Row;") :: tS_0_74
def tS_0_72 : List Cond := (Jvm.Cond.soleField "Runweaver$Loom" "sorted") :: tS_0_73
def tS_0_71 : List Cond := (Jvm.Cond.laysFinal "Runweaver$Loom" "Runweaver$Loom" "sorted" "LRunweaver$Row;") :: tS_0_72
def tS_0_70 : List Cond := (Jvm.Cond.fieldLink "Runweaver$Loom" (24 : Nat) "Runweaver$Loom" "spare" "LRunweaver$Row;") :: tS_0_71
def tS_0_69 : List Cond := (Jvm.Cond.fieldLink "Runweaver" (86 : Nat) "Runweaver$Loom" "woven" "LRunweaver$Row;") :: tS_0_70
def tS_0_68 : List Cond := (Jvm.Cond.fieldLink "Runweaver$Loom" (21 : Nat) "Runweaver$Loom" "woven" "LRunweaver$Row;") :: tS_0_69
def tS_0_67 : List Cond := (Jvm.Cond.fieldLink "Runweaver" (135 : Nat) "Runweaver$Loom" "joined" "LRunweaver$Row;") :: tS_0_68
def tS_0_66 : List Cond := (Jvm.Cond.fieldLink "Runweaver$Loom" (18 : Nat) "Runweaver$Loom" "joined" "LRunweaver$Row;") :: tS_0_67
def tS_0_65 : List Cond := (Jvm.Cond.fieldLink "Runweaver" (113 : Nat) "Runweaver$Loom" "sorted" "LRunweaver$Row;") :: tS_0_66
def tS_0_64 : List Cond := (Jvm.Cond.fieldLink "Runweaver$Loom" (12 : Nat) "Runweaver$Loom" "sorted" "LRunweaver$Row;") :: tS_0_65
def tS_0_63 : List Cond := (Jvm.Cond.methodLink "Runweaver$Loom" (9 : Nat) ({ cls := "Runweaver$Row", name := "<init>", desc := "(IZ)V" } : Jvm.MethodName)) :: tS_0_64
def tS_0_62 : List Cond := (Jvm.Cond.classLink "Runweaver$Loom" (7 : Nat) "Runweaver$Row") :: tS_0_63
def tS_0_61 : List Cond := (Jvm.Cond.methodLink "Runweaver$Loom" (1 : Nat) ({ cls := "java/lang/Object", name := "<init>", desc := "()V" } : Jvm.MethodName)) :: tS_0_62
def tS_0_60 : List Cond := (Jvm.Cond.code ({ cls := "Runweaver$Loom", name := "<init>", desc := "(I)V" } : Jvm.MethodName) prog_2_method_1_code (2 : Nat) (Option.none : Option Jvm.ClassFile.FieldType)) :: tS_0_61
def tS_0_59 : List Cond := (Jvm.Cond.instanceMethod ({ cls := "Runweaver$Loom", name := "<init>", desc := "(I)V" } : Jvm.MethodName)) :: tS_0_60
def tS_0_58 : List Cond := (Jvm.Cond.methodLink "Runweaver" (20 : Nat) ({ cls := "Runweaver$Loom", name := "<init>", desc := "(I)V" } : Jvm.MethodName)) :: tS_0_59
def tS_0_57 : List Cond := (Jvm.Cond.instantiable "Runweaver$Loom" (4 : Nat)) :: tS_0_58
def tS_0_56 : List Cond := (Jvm.Cond.classLink "Runweaver" (18 : Nat) "Runweaver$Loom") :: tS_0_57
def tS_0_55 : List Cond := (Jvm.Cond.arrayClass Jvm.ClassFile.FieldType.int) :: tS_0_56
def tS_0_54 : List Cond := (Jvm.Cond.superclass "Runweaver$Row" "java/lang/Object") :: tS_0_55
def tS_0_53 : List Cond := (Jvm.Cond.soleField "Runweaver$Row" "size") :: tS_0_54
def tS_0_52 : List Cond := (Jvm.Cond.lays "Runweaver$Row" "Runweaver$Row" "size" "I") :: tS_0_53
def tS_0_51 : List Cond := (Jvm.Cond.soleField "Runweaver$Row" "isOfThings") :: tS_0_52
def tS_0_50 : List Cond := (Jvm.Cond.laysFinal "Runweaver$Row" "Runweaver$Row" "isOfThings" "Z") :: tS_0_51
def tS_0_49 : List Cond := (Jvm.Cond.soleField "Runweaver$Row" "stamps") :: tS_0_50
def tS_0_48 : List Cond := (Jvm.Cond.laysFinal "Runweaver$Row" "Runweaver$Row" "stamps" "[I") :: tS_0_49
def tS_0_47 : List Cond := (Jvm.Cond.soleField "Runweaver$Row" "keys") :: tS_0_48
def tS_0_46 : List Cond := (Jvm.Cond.laysFinal "Runweaver$Row" "Runweaver$Row" "keys" "[I") :: tS_0_47
def tS_0_45 : List Cond := (Jvm.Cond.fieldLink "Runweaver$Row" (22 : Nat) "Runweaver$Row" "size" "I") :: tS_0_46
def tS_0_44 : List Cond := (Jvm.Cond.fieldLink "Runweaver" (39 : Nat) "Runweaver$Row" "size" "I") :: tS_0_45
def tS_0_43 : List Cond := (Jvm.Cond.fieldLink "Runweaver$Loom" (31 : Nat) "Runweaver$Row" "size" "I") :: tS_0_44
def tS_0_42 : List Cond := (Jvm.Cond.fieldLink "Runweaver" (123 : Nat) "Runweaver$Row" "isOfThings" "Z") :: tS_0_43
def tS_0_41 : List Cond := (Jvm.Cond.fieldLink "Runweaver$Row" (18 : Nat) "Runweaver$Row" "isOfThings" "Z") :: tS_0_42
def tS_0_40 : List Cond := (Jvm.Cond.fieldLink "Runweaver$Loom" (56 : Nat) "Runweaver$Row" "stamps" "[I") :: tS_0_41
def tS_0_39 : List Cond := (Jvm.Cond.fieldLink "Runweaver" (83 : Nat) "Runweaver$Row" "stamps" "[I") :: tS_0_40
def tS_0_38 : List Cond := (Jvm.Cond.fieldLink "Runweaver$Row" (15 : Nat) "Runweaver$Row" "stamps" "[I") :: tS_0_39
def tS_0_37 : List Cond := (Jvm.Cond.fieldLink "Runweaver$Loom" (52 : Nat) "Runweaver$Row" "keys" "[I") :: tS_0_38
def tS_0_36 : List Cond := (Jvm.Cond.fieldLink "Runweaver" (79 : Nat) "Runweaver$Row" "keys" "[I") :: tS_0_37
def tS_0_35 : List Cond := (Jvm.Cond.fieldLink "Runweaver$Row" (9 : Nat) "Runweaver$Row" "keys" "[I") :: tS_0_36
def tS_0_34 : List Cond := (Jvm.Cond.methodLink "Runweaver$Row" (3 : Nat) ({ cls := "java/lang/Object", name := "<init>", desc := "()V" } : Jvm.MethodName)) :: tS_0_35
def tS_0_33 : List Cond := (Jvm.Cond.code ({ cls := "Runweaver$Row", name := "<init>", desc := "(IZ)V" } : Jvm.MethodName) prog_3_method_1_code (3 : Nat) (Option.none : Option Jvm.ClassFile.FieldType)) :: tS_0_34
def tS_0_32 : List Cond := (Jvm.Cond.instanceMethod ({ cls := "Runweaver$Row", name := "<init>", desc := "(IZ)V" } : Jvm.MethodName)) :: tS_0_33
def tS_0_31 : List Cond := (Jvm.Cond.methodLink "Runweaver" (15 : Nat) ({ cls := "Runweaver$Row", name := "<init>", desc := "(IZ)V" } : Jvm.MethodName)) :: tS_0_32
def tS_0_30 : List Cond := (Jvm.Cond.instantiable "Runweaver$Row" (4 : Nat)) :: tS_0_31
def tS_0_29 : List Cond := (Jvm.Cond.arrayOver (Jvm.ClassFile.FieldType.object "Runweaver$Row")) :: tS_0_30
def tS_0_28 : List Cond := (Jvm.Cond.classLink "Runweaver" (9 : Nat) "Runweaver$Row") :: tS_0_29
def tS_0_27 : List Cond := (Jvm.Cond.code ({ cls := "java/lang/Object", name := "<init>", desc := "()V" } : Jvm.MethodName) object_method_1_code (1 : Nat) (Option.none : Option Jvm.ClassFile.FieldType)) :: tS_0_28
def tS_0_26 : List Cond := (Jvm.Cond.instanceMethod ({ cls := "java/lang/Object", name := "<init>", desc := "()V" } : Jvm.MethodName)) :: tS_0_27
def tS_0_25 : List Cond := (Jvm.Cond.methodLink "Runweaver" (1 : Nat) ({ cls := "java/lang/Object", name := "<init>", desc := "()V" } : Jvm.MethodName)) :: tS_0_26
def tS_0_24 : List Cond := (Jvm.Cond.code ({ cls := "Runweaver", name := "<init>", desc := "()V" } : Jvm.MethodName) prog_1_method_1_code (1 : Nat) (Option.none : Option Jvm.ClassFile.FieldType)) :: tS_0_25
def tS_0_23 : List Cond := (Jvm.Cond.instanceMethod ({ cls := "Runweaver", name := "<init>", desc := "()V" } : Jvm.MethodName)) :: tS_0_24
def tS_0_22 : List Cond := (Jvm.Cond.methodLink "RunweaverLaw" (12 : Nat) ({ cls := "Runweaver", name := "<init>", desc := "()V" } : Jvm.MethodName)) :: tS_0_23
def tS_0_21 : List Cond := (Jvm.Cond.instantiable "Runweaver" (6 : Nat)) :: tS_0_22
def tS_0_20 : List Cond := (Jvm.Cond.classLink "RunweaverLaw" (10 : Nat) "Runweaver") :: tS_0_21
def tS_0_19 : List Cond := (Jvm.Cond.initialized "java/lang/Integer") :: tS_0_20
def tS_0_18 : List Cond := (Jvm.Cond.initialized "jdk/internal/util/Preconditions") :: tS_0_19
def tS_0_17 : List Cond := (Jvm.Cond.initialized "java/lang/StringLatin1") :: tS_0_18
def tS_0_16 : List Cond := (Jvm.Cond.initialized "java/util/Arrays") :: tS_0_17
def tS_0_15 : List Cond := (Jvm.Cond.initialized "jdk/internal/util/ArraysSupport") :: tS_0_16
def tS_0_14 : List Cond := (Jvm.Cond.initialized "java/lang/StringUTF16") :: tS_0_15
def tS_0_13 : List Cond := (Jvm.Cond.initialized "java/lang/String") :: tS_0_14
def tS_0_12 : List Cond := (Jvm.Cond.initialized "java/lang/StringBuilder") :: tS_0_13
def tS_0_11 : List Cond := (Jvm.Cond.initialized "java/lang/AbstractStringBuilder") :: tS_0_12
def tS_0_10 : List Cond := (Jvm.Cond.initialized "java/lang/System") :: tS_0_11
def tS_0_9 : List Cond := (Jvm.Cond.initialized "java/lang/Math") :: tS_0_10
def tS_0_8 : List Cond := (Jvm.Cond.initialized "java/lang/IllegalArgumentException") :: tS_0_9
def tS_0_7 : List Cond := (Jvm.Cond.initialized "java/lang/IndexOutOfBoundsException") :: tS_0_8
def tS_0_6 : List Cond := (Jvm.Cond.initialized "java/lang/RuntimeException") :: tS_0_7
def tS_0_5 : List Cond := (Jvm.Cond.initialized "java/lang/Exception") :: tS_0_6
def tS_0_4 : List Cond := (Jvm.Cond.initialized "java/lang/Throwable") :: tS_0_5
def tS_0_3 : List Cond := (Jvm.Cond.initialized "Runweaver$Loom") :: tS_0_4
def tS_0_2 : List Cond := (Jvm.Cond.initialized "Runweaver$Row") :: tS_0_3
def tS_0_1 : List Cond := (Jvm.Cond.initialized "Runweaver") :: tS_0_2
def tS_0_0 : List Cond := (Jvm.Cond.initialized "RunweaverLaw") :: tS_0_1
set_option maxRecDepth 100000 in
theorem tU_0 : tables_1_1 = tS_0_0 := rfl
theorem tV_0_0 {w : Cond} (h0 : w ∈ tS_0_0) : w ∈ lw_tbl := List.mem_append_left _ (List.mem_append_right _ (have h : w ∈ tables_1_1 := tU_0 ▸ h0; (List.mem_append_left _ h : w ∈ tables_1)))
theorem tV_0_1 {w : Cond} (h : w ∈ tS_0_1) : w ∈ lw_tbl := tV_0_0 (List.mem_cons_of_mem _ h)
theorem tV_0_2 {w : Cond} (h : w ∈ tS_0_2) : w ∈ lw_tbl := tV_0_1 (List.mem_cons_of_mem _ h)
theorem tV_0_3 {w : Cond} (h : w ∈ tS_0_3) : w ∈ lw_tbl := tV_0_2 (List.mem_cons_of_mem _ h)
theorem tV_0_4 {w : Cond} (h : w ∈ tS_0_4) : w ∈ lw_tbl := tV_0_3 (List.mem_cons_of_mem _ h)
theorem tV_0_5 {w : Cond} (h : w ∈ tS_0_5) : w ∈ lw_tbl := tV_0_4 (List.mem_cons_of_mem _ h)
theorem tV_0_6 {w : Cond} (h : w ∈ tS_0_6) : w ∈ lw_tbl := tV_0_5 (List.mem_cons_of_mem _ h)
theorem tV_0_7 {w : Cond} (h : w ∈ tS_0_7) : w ∈ lw_tbl := tV_0_6 (List.mem_cons_of_mem _ h)
theorem tV_0_8 {w : Cond} (h : w ∈ tS_0_8) : w ∈ lw_tbl := tV_0_7 (List.mem_cons_of_mem _ h)
theorem tV_0_9 {w : Cond} (h : w ∈ tS_0_9) : w ∈ lw_tbl := tV_0_8 (List.mem_cons_of_mem _ h)
theorem tV_0_10 {w : Cond} (h : w ∈ tS_0_10) : w ∈ lw_tbl := tV_0_9 (List.mem_cons_of_mem _ h)
theorem tV_0_11 {w : Cond} (h : w ∈ tS_0_11) : w ∈ lw_tbl := tV_0_10 (List.mem_cons_of_mem _ h)
theorem tV_0_12 {w : Cond} (h : w ∈ tS_0_12) : w ∈ lw_tbl := tV_0_11 (List.mem_cons_of_mem _ h)
theorem tV_0_13 {w : Cond} (h : w ∈ tS_0_13) : w ∈ lw_tbl := tV_0_12 (List.mem_cons_of_mem _ h)
theorem tV_0_14 {w : Cond} (h : w ∈ tS_0_14) : w ∈ lw_tbl := tV_0_13 (List.mem_cons_of_mem _ h)
theorem tV_0_15 {w : Cond} (h : w ∈ tS_0_15) : w ∈ lw_tbl := tV_0_14 (List.mem_cons_of_mem _ h)
theorem tV_0_16 {w : Cond} (h : w ∈ tS_0_16) : w ∈ lw_tbl := tV_0_15 (List.mem_cons_of_mem _ h)
theorem tV_0_17 {w : Cond} (h : w ∈ tS_0_17) : w ∈ lw_tbl := tV_0_16 (List.mem_cons_of_mem _ h)
theorem tV_0_18 {w : Cond} (h : w ∈ tS_0_18) : w ∈ lw_tbl := tV_0_17 (List.mem_cons_of_mem _ h)
theorem tV_0_19 {w : Cond} (h : w ∈ tS_0_19) : w ∈ lw_tbl := tV_0_18 (List.mem_cons_of_mem _ h)
theorem tV_0_20 {w : Cond} (h : w ∈ tS_0_20) : w ∈ lw_tbl := tV_0_19 (List.mem_cons_of_mem _ h)
theorem tV_0_21 {w : Cond} (h : w ∈ tS_0_21) : w ∈ lw_tbl := tV_0_20 (List.mem_cons_of_mem _ h)
theorem tV_0_22 {w : Cond} (h : w ∈ tS_0_22) : w ∈ lw_tbl := tV_0_21 (List.mem_cons_of_mem _ h)
theorem tV_0_23 {w : Cond} (h : w ∈ tS_0_23) : w ∈ lw_tbl := tV_0_22 (List.mem_cons_of_mem _ h)
theorem tV_0_24 {w : Cond} (h : w ∈ tS_0_24) : w ∈ lw_tbl := tV_0_23 (List.mem_cons_of_mem _ h)
theorem tV_0_25 {w : Cond} (h : w ∈ tS_0_25) : w ∈ lw_tbl := tV_0_24 (List.mem_cons_of_mem _ h)
theorem tV_0_26 {w : Cond} (h : w ∈ tS_0_26) : w ∈ lw_tbl := tV_0_25 (List.mem_cons_of_mem _ h)
theorem tV_0_27 {w : Cond} (h : w ∈ tS_0_27) : w ∈ lw_tbl := tV_0_26 (List.mem_cons_of_mem _ h)
theorem tV_0_28 {w : Cond} (h : w ∈ tS_0_28) : w ∈ lw_tbl := tV_0_27 (List.mem_cons_of_mem _ h)
theorem tV_0_29 {w : Cond} (h : w ∈ tS_0_29) : w ∈ lw_tbl := tV_0_28 (List.mem_cons_of_mem _ h)
theorem tV_0_30 {w : Cond} (h : w ∈ tS_0_30) : w ∈ lw_tbl := tV_0_29 (List.mem_cons_of_mem _ h)
theorem tV_0_31 {w : Cond} (h : w ∈ tS_0_31) : w ∈ lw_tbl := tV_0_30 (List.mem_cons_of_mem _ h)
theorem tV_0_32 {w : Cond} (h : w ∈ tS_0_32) : w ∈ lw_tbl := tV_0_31 (List.mem_cons_of_mem _ h)
theorem tV_0_33 {w : Cond} (h : w ∈ tS_0_33) : w ∈ lw_tbl := tV_0_32 (List.mem_cons_of_mem _ h)
theorem tV_0_34 {w : Cond} (h : w ∈ tS_0_34) : w ∈ lw_tbl := tV_0_33 (List.mem_cons_of_mem _ h)
theorem tV_0_35 {w : Cond} (h : w ∈ tS_0_35) : w ∈ lw_tbl := tV_0_34 (List.mem_cons_of_mem _ h)
theorem tV_0_36 {w : Cond} (h : w ∈ tS_0_36) : w ∈ lw_tbl := tV_0_35 (List.mem_cons_of_mem _ h)
theorem tV_0_37 {w : Cond} (h : w ∈ tS_0_37) : w ∈ lw_tbl := tV_0_36 (List.mem_cons_of_mem _ h)
theorem tV_0_38 {w : Cond} (h : w ∈ tS_0_38) : w ∈ lw_tbl := tV_0_37 (List.mem_cons_of_mem _ h)
theorem tV_0_39 {w : Cond} (h : w ∈ tS_0_39) : w ∈ lw_tbl := tV_0_38 (List.mem_cons_of_mem _ h)
theorem tV_0_40 {w : Cond} (h : w ∈ tS_0_40) : w ∈ lw_tbl := tV_0_39 (List.mem_cons_of_mem _ h)
theorem tV_0_41 {w : Cond} (h : w ∈ tS_0_41) : w ∈ lw_tbl := tV_0_40 (List.mem_cons_of_mem _ h)
theorem tV_0_42 {w : Cond} (h : w ∈ tS_0_42) : w ∈ lw_tbl := tV_0_41 (List.mem_cons_of_mem _ h)
theorem tV_0_43 {w : Cond} (h : w ∈ tS_0_43) : w ∈ lw_tbl := tV_0_42 (List.mem_cons_of_mem _ h)
theorem tV_0_44 {w : Cond} (h : w ∈ tS_0_44) : w ∈ lw_tbl := tV_0_43 (List.mem_cons_of_mem _ h)
theorem tV_0_45 {w : Cond} (h : w ∈ tS_0_45) : w ∈ lw_tbl := tV_0_44 (List.mem_cons_of_mem _ h)
theorem tV_0_46 {w : Cond} (h : w ∈ tS_0_46) : w ∈ lw_tbl := tV_0_45 (List.mem_cons_of_mem _ h)
theorem tV_0_47 {w : Cond} (h : w ∈ tS_0_47) : w ∈ lw_tbl := tV_0_46 (List.mem_cons_of_mem _ h)
theorem tV_0_48 {w : Cond} (h : w ∈ tS_0_48) : w ∈ lw_tbl := tV_0_47 (List.mem_cons_of_mem _ h)
theorem tV_0_49 {w : Cond} (h : w ∈ tS_0_49) : w ∈ lw_tbl := tV_0_48 (List.mem_cons_of_mem _ h)
theorem tV_0_50 {w : Cond} (h : w ∈ tS_0_50) : w ∈ lw_tbl := tV_0_49 (List.mem_cons_of_mem _ h)
theorem tV_0_51 {w : Cond} (h : w ∈ tS_0_51) : w ∈ lw_tbl := tV_0_50 (List.mem_cons_of_mem _ h)
theorem tV_0_52 {w : Cond} (h : w ∈ tS_0_52) : w ∈ lw_tbl := tV_0_51 (List.mem_cons_of_mem _ h)
theorem tV_0_53 {w : Cond} (h : w ∈ tS_0_53) : w ∈ lw_tbl := tV_0_52 (List.mem_cons_of_mem _ h)
theorem tV_0_54 {w : Cond} (h : w ∈ tS_0_54) : w ∈ lw_tbl := tV_0_53 (List.mem_cons_of_mem _ h)
theorem tV_0_55 {w : Cond} (h : w ∈ tS_0_55) : w ∈ lw_tbl := tV_0_54 (List.mem_cons_of_mem _ h)
theorem tV_0_56 {w : Cond} (h : w ∈ tS_0_56) : w ∈ lw_tbl := tV_0_55 (List.mem_cons_of_mem _ h)
theorem tV_0_57 {w : Cond} (h : w ∈ tS_0_57) : w ∈ lw_tbl := tV_0_56 (List.mem_cons_of_mem _ h)
theorem tV_0_58 {w : Cond} (h : w ∈ tS_0_58) : w ∈ lw_tbl := tV_0_57 (List.mem_cons_of_mem _ h)
theorem tV_0_59 {w : Cond} (h : w ∈ tS_0_59) : w ∈ lw_tbl := tV_0_58 (List.mem_cons_of_mem _ h)
theorem tV_0_60 {w : Cond} (h : w ∈ tS_0_60) : w ∈ lw_tbl := tV_0_59 (List.mem_cons_of_mem _ h)
theorem tV_0_61 {w : Cond} (h : w ∈ tS_0_61) : w ∈ lw_tbl := tV_0_60 (List.mem_cons_of_mem _ h)
theorem tV_0_62 {w : Cond} (h : w ∈ tS_0_62) : w ∈ lw_tbl := tV_0_61 (List.mem_cons_of_mem _ h)
theorem tV_0_63 {w : Cond} (h : w ∈ tS_0_63) : w ∈ lw_tbl := tV_0_62 (List.mem_cons_of_mem _ h)
theorem tV_0_64 {w : Cond} (h : w ∈ tS_0_64) : w ∈ lw_tbl := tV_0_63 (List.mem_cons_of_mem _ h)
theorem tV_0_65 {w : Cond} (h : w ∈ tS_0_65) : w ∈ lw_tbl := tV_0_64 (List.mem_cons_of_mem _ h)
theorem tV_0_66 {w : Cond} (h : w ∈ tS_0_66) : w ∈ lw_tbl := tV_0_65 (List.mem_cons_of_mem _ h)
theorem tV_0_67 {w : Cond} (h : w ∈ tS_0_67) : w ∈ lw_tbl := tV_0_66 (List.mem_cons_of_mem _ h)
theorem tV_0_68 {w : Cond} (h : w ∈ tS_0_68) : w ∈ lw_tbl := tV_0_67 (List.mem_cons_of_mem _ h)
theorem tV_0_69 {w : Cond} (h : w ∈ tS_0_69) : w ∈ lw_tbl := tV_0_68 (List.mem_cons_of_mem _ h)
theorem tV_0_70 {w : Cond} (h : w ∈ tS_0_70) : w ∈ lw_tbl := tV_0_69 (List.mem_cons_of_mem _ h)
theorem tV_0_71 {w : Cond} (h : w ∈ tS_0_71) : w ∈ lw_tbl := tV_0_70 (List.mem_cons_of_mem _ h)
theorem tV_0_72 {w : Cond} (h : w ∈ tS_0_72) : w ∈ lw_tbl := tV_0_71 (List.mem_cons_of_mem _ h)
theorem tV_0_73 {w : Cond} (h : w ∈ tS_0_73) : w ∈ lw_tbl := tV_0_72 (List.mem_cons_of_mem _ h)
theorem tV_0_74 {w : Cond} (h : w ∈ tS_0_74) : w ∈ lw_tbl := tV_0_73 (List.mem_cons_of_mem _ h)
theorem tV_0_75 {w : Cond} (h : w ∈ tS_0_75) : w ∈ lw_tbl := tV_0_74 (List.mem_cons_of_mem _ h)
theorem tV_0_76 {w : Cond} (h : w ∈ tS_0_76) : w ∈ lw_tbl := tV_0_75 (List.mem_cons_of_mem _ h)
theorem tV_0_77 {w : Cond} (h : w ∈ tS_0_77) : w ∈ lw_tbl := tV_0_76 (List.mem_cons_of_mem _ h)
theorem tV_0_78 {w : Cond} (h : w ∈ tS_0_78) : w ∈ lw_tbl := tV_0_77 (List.mem_cons_of_mem _ h)
theorem tV_0_79 {w : Cond} (h : w ∈ tS_0_79) : w ∈ lw_tbl := tV_0_78 (List.mem_cons_of_mem _ h)
theorem tV_0_80 {w : Cond} (h : w ∈ tS_0_80) : w ∈ lw_tbl := tV_0_79 (List.mem_cons_of_mem _ h)
theorem tV_0_81 {w : Cond} (h : w ∈ tS_0_81) : w ∈ lw_tbl := tV_0_80 (List.mem_cons_of_mem _ h)
theorem tV_0_82 {w : Cond} (h : w ∈ tS_0_82) : w ∈ lw_tbl := tV_0_81 (List.mem_cons_of_mem _ h)
theorem tV_0_83 {w : Cond} (h : w ∈ tS_0_83) : w ∈ lw_tbl := tV_0_82 (List.mem_cons_of_mem _ h)
theorem tV_0_84 {w : Cond} (h : w ∈ tS_0_84) : w ∈ lw_tbl := tV_0_83 (List.mem_cons_of_mem _ h)
theorem tV_0_85 {w : Cond} (h : w ∈ tS_0_85) : w ∈ lw_tbl := tV_0_84 (List.mem_cons_of_mem _ h)
theorem tV_0_86 {w : Cond} (h : w ∈ tS_0_86) : w ∈ lw_tbl := tV_0_85 (List.mem_cons_of_mem _ h)
theorem tV_0_87 {w : Cond} (h : w ∈ tS_0_87) : w ∈ lw_tbl := tV_0_86 (List.mem_cons_of_mem _ h)
theorem tV_0_88 {w : Cond} (h : w ∈ tS_0_88) : w ∈ lw_tbl := tV_0_87 (List.mem_cons_of_mem _ h)
theorem tV_0_89 {w : Cond} (h : w ∈ tS_0_89) : w ∈ lw_tbl := tV_0_88 (List.mem_cons_of_mem _ h)
theorem tV_0_90 {w : Cond} (h : w ∈ tS_0_90) : w ∈ lw_tbl := tV_0_89 (List.mem_cons_of_mem _ h)
theorem tV_0_91 {w : Cond} (h : w ∈ tS_0_91) : w ∈ lw_tbl := tV_0_90 (List.mem_cons_of_mem _ h)
theorem tV_0_92 {w : Cond} (h : w ∈ tS_0_92) : w ∈ lw_tbl := tV_0_91 (List.mem_cons_of_mem _ h)
theorem tV_0_93 {w : Cond} (h : w ∈ tS_0_93) : w ∈ lw_tbl := tV_0_92 (List.mem_cons_of_mem _ h)
theorem tV_0_94 {w : Cond} (h : w ∈ tS_0_94) : w ∈ lw_tbl := tV_0_93 (List.mem_cons_of_mem _ h)
theorem tV_0_95 {w : Cond} (h : w ∈ tS_0_95) : w ∈ lw_tbl := tV_0_94 (List.mem_cons_of_mem _ h)
theorem tV_0_96 {w : Cond} (h : w ∈ tS_0_96) : w ∈ lw_tbl := tV_0_95 (List.mem_cons_of_mem _ h)
theorem tV_0_97 {w : Cond} (h : w ∈ tS_0_97) : w ∈ lw_tbl := tV_0_96 (List.mem_cons_of_mem _ h)
theorem tV_0_98 {w : Cond} (h : w ∈ tS_0_98) : w ∈ lw_tbl := tV_0_97 (List.mem_cons_of_mem _ h)
theorem tV_0_99 {w : Cond} (h : w ∈ tS_0_99) : w ∈ lw_tbl := tV_0_98 (List.mem_cons_of_mem _ h)
theorem tV_0_100 {w : Cond} (h : w ∈ tS_0_100) : w ∈ lw_tbl := tV_0_99 (List.mem_cons_of_mem _ h)
theorem tV_0_101 {w : Cond} (h : w ∈ tS_0_101) : w ∈ lw_tbl := tV_0_100 (List.mem_cons_of_mem _ h)
theorem tV_0_102 {w : Cond} (h : w ∈ tS_0_102) : w ∈ lw_tbl := tV_0_101 (List.mem_cons_of_mem _ h)
theorem tV_0_103 {w : Cond} (h : w ∈ tS_0_103) : w ∈ lw_tbl := tV_0_102 (List.mem_cons_of_mem _ h)
theorem tV_0_104 {w : Cond} (h : w ∈ tS_0_104) : w ∈ lw_tbl := tV_0_103 (List.mem_cons_of_mem _ h)
theorem tV_0_105 {w : Cond} (h : w ∈ tS_0_105) : w ∈ lw_tbl := tV_0_104 (List.mem_cons_of_mem _ h)
theorem tV_0_106 {w : Cond} (h : w ∈ tS_0_106) : w ∈ lw_tbl := tV_0_105 (List.mem_cons_of_mem _ h)
theorem tV_0_107 {w : Cond} (h : w ∈ tS_0_107) : w ∈ lw_tbl := tV_0_106 (List.mem_cons_of_mem _ h)
theorem tV_0_108 {w : Cond} (h : w ∈ tS_0_108) : w ∈ lw_tbl := tV_0_107 (List.mem_cons_of_mem _ h)
theorem tV_0_109 {w : Cond} (h : w ∈ tS_0_109) : w ∈ lw_tbl := tV_0_108 (List.mem_cons_of_mem _ h)
theorem tV_0_110 {w : Cond} (h : w ∈ tS_0_110) : w ∈ lw_tbl := tV_0_109 (List.mem_cons_of_mem _ h)
theorem tV_0_111 {w : Cond} (h : w ∈ tS_0_111) : w ∈ lw_tbl := tV_0_110 (List.mem_cons_of_mem _ h)
theorem tV_0_112 {w : Cond} (h : w ∈ tS_0_112) : w ∈ lw_tbl := tV_0_111 (List.mem_cons_of_mem _ h)
theorem tV_0_113 {w : Cond} (h : w ∈ tS_0_113) : w ∈ lw_tbl := tV_0_112 (List.mem_cons_of_mem _ h)
theorem tV_0_114 {w : Cond} (h : w ∈ tS_0_114) : w ∈ lw_tbl := tV_0_113 (List.mem_cons_of_mem _ h)
theorem tV_0_115 {w : Cond} (h : w ∈ tS_0_115) : w ∈ lw_tbl := tV_0_114 (List.mem_cons_of_mem _ h)
theorem tV_0_116 {w : Cond} (h : w ∈ tS_0_116) : w ∈ lw_tbl := tV_0_115 (List.mem_cons_of_mem _ h)
theorem tV_0_117 {w : Cond} (h : w ∈ tS_0_117) : w ∈ lw_tbl := tV_0_116 (List.mem_cons_of_mem _ h)
theorem tV_0_118 {w : Cond} (h : w ∈ tS_0_118) : w ∈ lw_tbl := tV_0_117 (List.mem_cons_of_mem _ h)
theorem tV_0_119 {w : Cond} (h : w ∈ tS_0_119) : w ∈ lw_tbl := tV_0_118 (List.mem_cons_of_mem _ h)
theorem tV_0_120 {w : Cond} (h : w ∈ tS_0_120) : w ∈ lw_tbl := tV_0_119 (List.mem_cons_of_mem _ h)
theorem tV_0_121 {w : Cond} (h : w ∈ tS_0_121) : w ∈ lw_tbl := tV_0_120 (List.mem_cons_of_mem _ h)
theorem tV_0_122 {w : Cond} (h : w ∈ tS_0_122) : w ∈ lw_tbl := tV_0_121 (List.mem_cons_of_mem _ h)
theorem tV_0_123 {w : Cond} (h : w ∈ tS_0_123) : w ∈ lw_tbl := tV_0_122 (List.mem_cons_of_mem _ h)
theorem tV_0_124 {w : Cond} (h : w ∈ tS_0_124) : w ∈ lw_tbl := tV_0_123 (List.mem_cons_of_mem _ h)
theorem tV_0_125 {w : Cond} (h : w ∈ tS_0_125) : w ∈ lw_tbl := tV_0_124 (List.mem_cons_of_mem _ h)
theorem tV_0_126 {w : Cond} (h : w ∈ tS_0_126) : w ∈ lw_tbl := tV_0_125 (List.mem_cons_of_mem _ h)
theorem tV_0_127 {w : Cond} (h : w ∈ tS_0_127) : w ∈ lw_tbl := tV_0_126 (List.mem_cons_of_mem _ h)
theorem tV_0_128 {w : Cond} (h : w ∈ tS_0_128) : w ∈ lw_tbl := tV_0_127 (List.mem_cons_of_mem _ h)
theorem tV_0_129 {w : Cond} (h : w ∈ tS_0_129) : w ∈ lw_tbl := tV_0_128 (List.mem_cons_of_mem _ h)
theorem tV_0_130 {w : Cond} (h : w ∈ tS_0_130) : w ∈ lw_tbl := tV_0_129 (List.mem_cons_of_mem _ h)
theorem tV_0_131 {w : Cond} (h : w ∈ tS_0_131) : w ∈ lw_tbl := tV_0_130 (List.mem_cons_of_mem _ h)
theorem tV_0_132 {w : Cond} (h : w ∈ tS_0_132) : w ∈ lw_tbl := tV_0_131 (List.mem_cons_of_mem _ h)
theorem tV_0_133 {w : Cond} (h : w ∈ tS_0_133) : w ∈ lw_tbl := tV_0_132 (List.mem_cons_of_mem _ h)
theorem tV_0_134 {w : Cond} (h : w ∈ tS_0_134) : w ∈ lw_tbl := tV_0_133 (List.mem_cons_of_mem _ h)
theorem tV_0_135 {w : Cond} (h : w ∈ tS_0_135) : w ∈ lw_tbl := tV_0_134 (List.mem_cons_of_mem _ h)
theorem tV_0_136 {w : Cond} (h : w ∈ tS_0_136) : w ∈ lw_tbl := tV_0_135 (List.mem_cons_of_mem _ h)
theorem tV_0_137 {w : Cond} (h : w ∈ tS_0_137) : w ∈ lw_tbl := tV_0_136 (List.mem_cons_of_mem _ h)
theorem tV_0_138 {w : Cond} (h : w ∈ tS_0_138) : w ∈ lw_tbl := tV_0_137 (List.mem_cons_of_mem _ h)
theorem tV_0_139 {w : Cond} (h : w ∈ tS_0_139) : w ∈ lw_tbl := tV_0_138 (List.mem_cons_of_mem _ h)
theorem tV_0_140 {w : Cond} (h : w ∈ tS_0_140) : w ∈ lw_tbl := tV_0_139 (List.mem_cons_of_mem _ h)
theorem tV_0_141 {w : Cond} (h : w ∈ tS_0_141) : w ∈ lw_tbl := tV_0_140 (List.mem_cons_of_mem _ h)
theorem tV_0_142 {w : Cond} (h : w ∈ tS_0_142) : w ∈ lw_tbl := tV_0_141 (List.mem_cons_of_mem _ h)
theorem tV_0_143 {w : Cond} (h : w ∈ tS_0_143) : w ∈ lw_tbl := tV_0_142 (List.mem_cons_of_mem _ h)
theorem tV_0_144 {w : Cond} (h : w ∈ tS_0_144) : w ∈ lw_tbl := tV_0_143 (List.mem_cons_of_mem _ h)
theorem tV_0_145 {w : Cond} (h : w ∈ tS_0_145) : w ∈ lw_tbl := tV_0_144 (List.mem_cons_of_mem _ h)
theorem tV_0_146 {w : Cond} (h : w ∈ tS_0_146) : w ∈ lw_tbl := tV_0_145 (List.mem_cons_of_mem _ h)
theorem tV_0_147 {w : Cond} (h : w ∈ tS_0_147) : w ∈ lw_tbl := tV_0_146 (List.mem_cons_of_mem _ h)
theorem tV_0_148 {w : Cond} (h : w ∈ tS_0_148) : w ∈ lw_tbl := tV_0_147 (List.mem_cons_of_mem _ h)
theorem tV_0_149 {w : Cond} (h : w ∈ tS_0_149) : w ∈ lw_tbl := tV_0_148 (List.mem_cons_of_mem _ h)
theorem tV_0_150 {w : Cond} (h : w ∈ tS_0_150) : w ∈ lw_tbl := tV_0_149 (List.mem_cons_of_mem _ h)
theorem tV_0_151 {w : Cond} (h : w ∈ tS_0_151) : w ∈ lw_tbl := tV_0_150 (List.mem_cons_of_mem _ h)
theorem tV_0_152 {w : Cond} (h : w ∈ tS_0_152) : w ∈ lw_tbl := tV_0_151 (List.mem_cons_of_mem _ h)
theorem tV_0_153 {w : Cond} (h : w ∈ tS_0_153) : w ∈ lw_tbl := tV_0_152 (List.mem_cons_of_mem _ h)
theorem tV_0_154 {w : Cond} (h : w ∈ tS_0_154) : w ∈ lw_tbl := tV_0_153 (List.mem_cons_of_mem _ h)
theorem tV_0_155 {w : Cond} (h : w ∈ tS_0_155) : w ∈ lw_tbl := tV_0_154 (List.mem_cons_of_mem _ h)
theorem tV_0_156 {w : Cond} (h : w ∈ tS_0_156) : w ∈ lw_tbl := tV_0_155 (List.mem_cons_of_mem _ h)
theorem tV_0_157 {w : Cond} (h : w ∈ tS_0_157) : w ∈ lw_tbl := tV_0_156 (List.mem_cons_of_mem _ h)
theorem tV_0_158 {w : Cond} (h : w ∈ tS_0_158) : w ∈ lw_tbl := tV_0_157 (List.mem_cons_of_mem _ h)
theorem tV_0_159 {w : Cond} (h : w ∈ tS_0_159) : w ∈ lw_tbl := tV_0_158 (List.mem_cons_of_mem _ h)
theorem tV_0_160 {w : Cond} (h : w ∈ tS_0_160) : w ∈ lw_tbl := tV_0_159 (List.mem_cons_of_mem _ h)
theorem tV_0_161 {w : Cond} (h : w ∈ tS_0_161) : w ∈ lw_tbl := tV_0_160 (List.mem_cons_of_mem _ h)
theorem tV_0_162 {w : Cond} (h : w ∈ tS_0_162) : w ∈ lw_tbl := tV_0_161 (List.mem_cons_of_mem _ h)
theorem tV_0_163 {w : Cond} (h : w ∈ tS_0_163) : w ∈ lw_tbl := tV_0_162 (List.mem_cons_of_mem _ h)
theorem tV_0_164 {w : Cond} (h : w ∈ tS_0_164) : w ∈ lw_tbl := tV_0_163 (List.mem_cons_of_mem _ h)
theorem tV_0_165 {w : Cond} (h : w ∈ tS_0_165) : w ∈ lw_tbl := tV_0_164 (List.mem_cons_of_mem _ h)
theorem tV_0_166 {w : Cond} (h : w ∈ tS_0_166) : w ∈ lw_tbl := tV_0_165 (List.mem_cons_of_mem _ h)
theorem tV_0_167 {w : Cond} (h : w ∈ tS_0_167) : w ∈ lw_tbl := tV_0_166 (List.mem_cons_of_mem _ h)
theorem tV_0_168 {w : Cond} (h : w ∈ tS_0_168) : w ∈ lw_tbl := tV_0_167 (List.mem_cons_of_mem _ h)
theorem tV_0_169 {w : Cond} (h : w ∈ tS_0_169) : w ∈ lw_tbl := tV_0_168 (List.mem_cons_of_mem _ h)
theorem tV_0_170 {w : Cond} (h : w ∈ tS_0_170) : w ∈ lw_tbl := tV_0_169 (List.mem_cons_of_mem _ h)
theorem tV_0_171 {w : Cond} (h : w ∈ tS_0_171) : w ∈ lw_tbl := tV_0_170 (List.mem_cons_of_mem _ h)
theorem tV_0_172 {w : Cond} (h : w ∈ tS_0_172) : w ∈ lw_tbl := tV_0_171 (List.mem_cons_of_mem _ h)
theorem tV_0_173 {w : Cond} (h : w ∈ tS_0_173) : w ∈ lw_tbl := tV_0_172 (List.mem_cons_of_mem _ h)
theorem tV_0_174 {w : Cond} (h : w ∈ tS_0_174) : w ∈ lw_tbl := tV_0_173 (List.mem_cons_of_mem _ h)
theorem tV_0_175 {w : Cond} (h : w ∈ tS_0_175) : w ∈ lw_tbl := tV_0_174 (List.mem_cons_of_mem _ h)
theorem tV_0_176 {w : Cond} (h : w ∈ tS_0_176) : w ∈ lw_tbl := tV_0_175 (List.mem_cons_of_mem _ h)
theorem tV_0_177 {w : Cond} (h : w ∈ tS_0_177) : w ∈ lw_tbl := tV_0_176 (List.mem_cons_of_mem _ h)
theorem tV_0_178 {w : Cond} (h : w ∈ tS_0_178) : w ∈ lw_tbl := tV_0_177 (List.mem_cons_of_mem _ h)
theorem tV_0_179 {w : Cond} (h : w ∈ tS_0_179) : w ∈ lw_tbl := tV_0_178 (List.mem_cons_of_mem _ h)
theorem tV_0_180 {w : Cond} (h : w ∈ tS_0_180) : w ∈ lw_tbl := tV_0_179 (List.mem_cons_of_mem _ h)
theorem tV_0_181 {w : Cond} (h : w ∈ tS_0_181) : w ∈ lw_tbl := tV_0_180 (List.mem_cons_of_mem _ h)
theorem tV_0_182 {w : Cond} (h : w ∈ tS_0_182) : w ∈ lw_tbl := tV_0_181 (List.mem_cons_of_mem _ h)
theorem tV_0_183 {w : Cond} (h : w ∈ tS_0_183) : w ∈ lw_tbl := tV_0_182 (List.mem_cons_of_mem _ h)
theorem tV_0_184 {w : Cond} (h : w ∈ tS_0_184) : w ∈ lw_tbl := tV_0_183 (List.mem_cons_of_mem _ h)
theorem tV_0_185 {w : Cond} (h : w ∈ tS_0_185) : w ∈ lw_tbl := tV_0_184 (List.mem_cons_of_mem _ h)
theorem tV_0_186 {w : Cond} (h : w ∈ tS_0_186) : w ∈ lw_tbl := tV_0_185 (List.mem_cons_of_mem _ h)
theorem tV_0_187 {w : Cond} (h : w ∈ tS_0_187) : w ∈ lw_tbl := tV_0_186 (List.mem_cons_of_mem _ h)
theorem tV_0_188 {w : Cond} (h : w ∈ tS_0_188) : w ∈ lw_tbl := tV_0_187 (List.mem_cons_of_mem _ h)
theorem tV_0_189 {w : Cond} (h : w ∈ tS_0_189) : w ∈ lw_tbl := tV_0_188 (List.mem_cons_of_mem _ h)
theorem tV_0_190 {w : Cond} (h : w ∈ tS_0_190) : w ∈ lw_tbl := tV_0_189 (List.mem_cons_of_mem _ h)
theorem tV_0_191 {w : Cond} (h : w ∈ tS_0_191) : w ∈ lw_tbl := tV_0_190 (List.mem_cons_of_mem _ h)
theorem tV_0_192 {w : Cond} (h : w ∈ tS_0_192) : w ∈ lw_tbl := tV_0_191 (List.mem_cons_of_mem _ h)
theorem tV_0_193 {w : Cond} (h : w ∈ tS_0_193) : w ∈ lw_tbl := tV_0_192 (List.mem_cons_of_mem _ h)
theorem tV_0_194 {w : Cond} (h : w ∈ tS_0_194) : w ∈ lw_tbl := tV_0_193 (List.mem_cons_of_mem _ h)
theorem tV_0_195 {w : Cond} (h : w ∈ tS_0_195) : w ∈ lw_tbl := tV_0_194 (List.mem_cons_of_mem _ h)
theorem tV_0_196 {w : Cond} (h : w ∈ tS_0_196) : w ∈ lw_tbl := tV_0_195 (List.mem_cons_of_mem _ h)
theorem tV_0_197 {w : Cond} (h : w ∈ tS_0_197) : w ∈ lw_tbl := tV_0_196 (List.mem_cons_of_mem _ h)
theorem tV_0_198 {w : Cond} (h : w ∈ tS_0_198) : w ∈ lw_tbl := tV_0_197 (List.mem_cons_of_mem _ h)
theorem tV_0_199 {w : Cond} (h : w ∈ tS_0_199) : w ∈ lw_tbl := tV_0_198 (List.mem_cons_of_mem _ h)
theorem tV_0_200 {w : Cond} (h : w ∈ tS_0_200) : w ∈ lw_tbl := tV_0_199 (List.mem_cons_of_mem _ h)
theorem tV_0_201 {w : Cond} (h : w ∈ tS_0_201) : w ∈ lw_tbl := tV_0_200 (List.mem_cons_of_mem _ h)
theorem tV_0_202 {w : Cond} (h : w ∈ tS_0_202) : w ∈ lw_tbl := tV_0_201 (List.mem_cons_of_mem _ h)
theorem tV_0_203 {w : Cond} (h : w ∈ tS_0_203) : w ∈ lw_tbl := tV_0_202 (List.mem_cons_of_mem _ h)
theorem tV_0_204 {w : Cond} (h : w ∈ tS_0_204) : w ∈ lw_tbl := tV_0_203 (List.mem_cons_of_mem _ h)
theorem tV_0_205 {w : Cond} (h : w ∈ tS_0_205) : w ∈ lw_tbl := tV_0_204 (List.mem_cons_of_mem _ h)
theorem tV_0_206 {w : Cond} (h : w ∈ tS_0_206) : w ∈ lw_tbl := tV_0_205 (List.mem_cons_of_mem _ h)
theorem tV_0_207 {w : Cond} (h : w ∈ tS_0_207) : w ∈ lw_tbl := tV_0_206 (List.mem_cons_of_mem _ h)
theorem tV_0_208 {w : Cond} (h : w ∈ tS_0_208) : w ∈ lw_tbl := tV_0_207 (List.mem_cons_of_mem _ h)
theorem tV_0_209 {w : Cond} (h : w ∈ tS_0_209) : w ∈ lw_tbl := tV_0_208 (List.mem_cons_of_mem _ h)
theorem tV_0_210 {w : Cond} (h : w ∈ tS_0_210) : w ∈ lw_tbl := tV_0_209 (List.mem_cons_of_mem _ h)
theorem tV_0_211 {w : Cond} (h : w ∈ tS_0_211) : w ∈ lw_tbl := tV_0_210 (List.mem_cons_of_mem _ h)
theorem tV_0_212 {w : Cond} (h : w ∈ tS_0_212) : w ∈ lw_tbl := tV_0_211 (List.mem_cons_of_mem _ h)
theorem tV_0_213 {w : Cond} (h : w ∈ tS_0_213) : w ∈ lw_tbl := tV_0_212 (List.mem_cons_of_mem _ h)
theorem tV_0_214 {w : Cond} (h : w ∈ tS_0_214) : w ∈ lw_tbl := tV_0_213 (List.mem_cons_of_mem _ h)
theorem tV_0_215 {w : Cond} (h : w ∈ tS_0_215) : w ∈ lw_tbl := tV_0_214 (List.mem_cons_of_mem _ h)
theorem tV_0_216 {w : Cond} (h : w ∈ tS_0_216) : w ∈ lw_tbl := tV_0_215 (List.mem_cons_of_mem _ h)
theorem tV_0_217 {w : Cond} (h : w ∈ tS_0_217) : w ∈ lw_tbl := tV_0_216 (List.mem_cons_of_mem _ h)
theorem tV_0_218 {w : Cond} (h : w ∈ tS_0_218) : w ∈ lw_tbl := tV_0_217 (List.mem_cons_of_mem _ h)
theorem tV_0_219 {w : Cond} (h : w ∈ tS_0_219) : w ∈ lw_tbl := tV_0_218 (List.mem_cons_of_mem _ h)
theorem tV_0_220 {w : Cond} (h : w ∈ tS_0_220) : w ∈ lw_tbl := tV_0_219 (List.mem_cons_of_mem _ h)
theorem tV_0_221 {w : Cond} (h : w ∈ tS_0_221) : w ∈ lw_tbl := tV_0_220 (List.mem_cons_of_mem _ h)
theorem tV_0_222 {w : Cond} (h : w ∈ tS_0_222) : w ∈ lw_tbl := tV_0_221 (List.mem_cons_of_mem _ h)
theorem tV_0_223 {w : Cond} (h : w ∈ tS_0_223) : w ∈ lw_tbl := tV_0_222 (List.mem_cons_of_mem _ h)
theorem tV_0_224 {w : Cond} (h : w ∈ tS_0_224) : w ∈ lw_tbl := tV_0_223 (List.mem_cons_of_mem _ h)
theorem tV_0_225 {w : Cond} (h : w ∈ tS_0_225) : w ∈ lw_tbl := tV_0_224 (List.mem_cons_of_mem _ h)
theorem tV_0_226 {w : Cond} (h : w ∈ tS_0_226) : w ∈ lw_tbl := tV_0_225 (List.mem_cons_of_mem _ h)
theorem tV_0_227 {w : Cond} (h : w ∈ tS_0_227) : w ∈ lw_tbl := tV_0_226 (List.mem_cons_of_mem _ h)
theorem tV_0_228 {w : Cond} (h : w ∈ tS_0_228) : w ∈ lw_tbl := tV_0_227 (List.mem_cons_of_mem _ h)
theorem tV_0_229 {w : Cond} (h : w ∈ tS_0_229) : w ∈ lw_tbl := tV_0_228 (List.mem_cons_of_mem _ h)
theorem tV_0_230 {w : Cond} (h : w ∈ tS_0_230) : w ∈ lw_tbl := tV_0_229 (List.mem_cons_of_mem _ h)
theorem tV_0_231 {w : Cond} (h : w ∈ tS_0_231) : w ∈ lw_tbl := tV_0_230 (List.mem_cons_of_mem _ h)
theorem tV_0_232 {w : Cond} (h : w ∈ tS_0_232) : w ∈ lw_tbl := tV_0_231 (List.mem_cons_of_mem _ h)
theorem tV_0_233 {w : Cond} (h : w ∈ tS_0_233) : w ∈ lw_tbl := tV_0_232 (List.mem_cons_of_mem _ h)
theorem tV_0_234 {w : Cond} (h : w ∈ tS_0_234) : w ∈ lw_tbl := tV_0_233 (List.mem_cons_of_mem _ h)
theorem tV_0_235 {w : Cond} (h : w ∈ tS_0_235) : w ∈ lw_tbl := tV_0_234 (List.mem_cons_of_mem _ h)
theorem tV_0_236 {w : Cond} (h : w ∈ tS_0_236) : w ∈ lw_tbl := tV_0_235 (List.mem_cons_of_mem _ h)
theorem tV_0_237 {w : Cond} (h : w ∈ tS_0_237) : w ∈ lw_tbl := tV_0_236 (List.mem_cons_of_mem _ h)
theorem tV_0_238 {w : Cond} (h : w ∈ tS_0_238) : w ∈ lw_tbl := tV_0_237 (List.mem_cons_of_mem _ h)
theorem tV_0_239 {w : Cond} (h : w ∈ tS_0_239) : w ∈ lw_tbl := tV_0_238 (List.mem_cons_of_mem _ h)
def tS_1_480 : List Cond := []
def tS_1_479 : List Cond := (Jvm.Cond.static ({ cls := "java/lang/Math", name := "max", desc := "(II)I" } : Jvm.MethodName)) :: tS_1_480
def tS_1_478 : List Cond := (Jvm.Cond.methodLink "Runweaver$Row" (46 : Nat) ({ cls := "java/lang/Math", name := "max", desc := "(II)I" } : Jvm.MethodName)) :: tS_1_479
def tS_1_477 : List Cond := (Jvm.Cond.constant "Runweaver$Row" (49 : Nat) (-100000 : Int32)) :: tS_1_478
def tS_1_476 : List Cond := (Jvm.Cond.code ({ cls := "Runweaver$Row", name := "greatestKey", desc := "()I" } : Jvm.MethodName) prog_3_method_28_code (3 : Nat) (Option.some Jvm.ClassFile.FieldType.int)) :: tS_1_477
def tS_1_475 : List Cond := (Jvm.Cond.selects "Runweaver$Row" ({ cls := "Runweaver$Row", name := "greatestKey", desc := "()I" } : Jvm.MethodName) ({ cls := "Runweaver$Row", name := "greatestKey", desc := "()I" } : Jvm.MethodName)) :: tS_1_476
def tS_1_474 : List Cond := (Jvm.Cond.instanceMethod ({ cls := "Runweaver$Row", name := "greatestKey", desc := "()I" } : Jvm.MethodName)) :: tS_1_475
def tS_1_473 : List Cond := (Jvm.Cond.methodLink "Runweaver" (202 : Nat) ({ cls := "Runweaver$Row", name := "greatestKey", desc := "()I" } : Jvm.MethodName)) :: tS_1_474
def tS_1_472 : List Cond := (Jvm.Cond.code ({ cls := "Runweaver", name := "end", desc := "(IZ)I" } : Jvm.MethodName) prog_1_method_37_code (4 : Nat) (Option.some Jvm.ClassFile.FieldType.int)) :: tS_1_473
def tS_1_471 : List Cond := (Jvm.Cond.selects "Runweaver" ({ cls := "Runweaver", name := "end", desc := "(IZ)I" } : Jvm.MethodName) ({ cls := "Runweaver", name := "end", desc := "(IZ)I" } : Jvm.MethodName)) :: tS_1_472
def tS_1_470 : List Cond := (Jvm.Cond.instanceMethod ({ cls := "Runweaver", name := "end", desc := "(IZ)I" } : Jvm.MethodName)) :: tS_1_471
def tS_1_469 : List Cond := (Jvm.Cond.methodLink "RunweaverLaw" (128 : Nat) ({ cls := "Runweaver", name := "end", desc := "(IZ)I" } : Jvm.MethodName)) :: tS_1_470
def tS_1_468 : List Cond := (Jvm.Cond.methodLink "Runweaver" (141 : Nat) ({ cls := "Runweaver$Row", name := "rankAt", desc := "(I)I" } : Jvm.MethodName)) :: tS_1_469
def tS_1_467 : List Cond := (Jvm.Cond.code ({ cls := "Runweaver", name := "rank", desc := "(II)I" } : Jvm.MethodName) prog_1_method_19_code (4 : Nat) (Option.some Jvm.ClassFile.FieldType.int)) :: tS_1_468
def tS_1_466 : List Cond := (Jvm.Cond.selects "Runweaver" ({ cls := "Runweaver", name := "rank", desc := "(II)I" } : Jvm.MethodName) ({ cls := "Runweaver", name := "rank", desc := "(II)I" } : Jvm.MethodName)) :: tS_1_467
def tS_1_465 : List Cond := (Jvm.Cond.instanceMethod ({ cls := "Runweaver", name := "rank", desc := "(II)I" } : Jvm.MethodName)) :: tS_1_466
def tS_1_464 : List Cond := (Jvm.Cond.methodLink "RunweaverLaw" (125 : Nat) ({ cls := "Runweaver", name := "rank", desc := "(II)I" } : Jvm.MethodName)) :: tS_1_465
def tS_1_463 : List Cond := (Jvm.Cond.code ({ cls := "Runweaver", name := "stamp", desc := "(II)I" } : Jvm.MethodName) prog_1_method_18_code (4 : Nat) (Option.some Jvm.ClassFile.FieldType.int)) :: tS_1_464
def tS_1_462 : List Cond := (Jvm.Cond.selects "Runweaver" ({ cls := "Runweaver", name := "stamp", desc := "(II)I" } : Jvm.MethodName) ({ cls := "Runweaver", name := "stamp", desc := "(II)I" } : Jvm.MethodName)) :: tS_1_463
def tS_1_461 : List Cond := (Jvm.Cond.instanceMethod ({ cls := "Runweaver", name := "stamp", desc := "(II)I" } : Jvm.MethodName)) :: tS_1_462
def tS_1_460 : List Cond := (Jvm.Cond.methodLink "RunweaverLaw" (122 : Nat) ({ cls := "Runweaver", name := "stamp", desc := "(II)I" } : Jvm.MethodName)) :: tS_1_461
def tS_1_459 : List Cond := (Jvm.Cond.code ({ cls := "RunweaverLaw", name := "isSorted", desc := "(LRunweaver;II)Z" } : Jvm.MethodName) method_8_code (12 : Nat) (Option.some Jvm.ClassFile.FieldType.boolean)) :: tS_1_460
def tS_1_458 : List Cond := (Jvm.Cond.static ({ cls := "RunweaverLaw", name := "isSorted", desc := "(LRunweaver;II)Z" } : Jvm.MethodName)) :: tS_1_459
def tS_1_457 : List Cond := (Jvm.Cond.methodLink "RunweaverLaw" (32 : Nat) ({ cls := "RunweaverLaw", name := "isSorted", desc := "(LRunweaver;II)Z" } : Jvm.MethodName)) :: tS_1_458
def tS_1_456 : List Cond := (Jvm.Cond.code ({ cls := "Runweaver", name := "key", desc := "(II)I" } : Jvm.MethodName) prog_1_method_17_code (4 : Nat) (Option.some Jvm.ClassFile.FieldType.int)) :: tS_1_457
def tS_1_455 : List Cond := (Jvm.Cond.selects "Runweaver" ({ cls := "Runweaver", name := "key", desc := "(II)I" } : Jvm.MethodName) ({ cls := "Runweaver", name := "key", desc := "(II)I" } : Jvm.MethodName)) :: tS_1_456
def tS_1_454 : List Cond := (Jvm.Cond.instanceMethod ({ cls := "Runweaver", name := "key", desc := "(II)I" } : Jvm.MethodName)) :: tS_1_455
def tS_1_453 : List Cond := (Jvm.Cond.methodLink "RunweaverLaw" (119 : Nat) ({ cls := "Runweaver", name := "key", desc := "(II)I" } : Jvm.MethodName)) :: tS_1_454
def tS_1_452 : List Cond := (Jvm.Cond.code ({ cls := "Runweaver$Row", name := "runsInAll", desc := "()I" } : Jvm.MethodName) prog_3_method_21_code (3 : Nat) (Option.some Jvm.ClassFile.FieldType.int)) :: tS_1_453
def tS_1_451 : List Cond := (Jvm.Cond.selects "Runweaver$Row" ({ cls := "Runweaver$Row", name := "runsInAll", desc := "()I" } : Jvm.MethodName) ({ cls := "Runweaver$Row", name := "runsInAll", desc := "()I" } : Jvm.MethodName)) :: tS_1_452
def tS_1_450 : List Cond := (Jvm.Cond.instanceMethod ({ cls := "Runweaver$Row", name := "runsInAll", desc := "()I" } : Jvm.MethodName)) :: tS_1_451
def tS_1_449 : List Cond := (Jvm.Cond.methodLink "Runweaver" (184 : Nat) ({ cls := "Runweaver$Row", name := "runsInAll", desc := "()I" } : Jvm.MethodName)) :: tS_1_450
def tS_1_448 : List Cond := (Jvm.Cond.code ({ cls := "Runweaver", name := "runs", desc := "(I)I" } : Jvm.MethodName) prog_1_method_32_code (2 : Nat) (Option.some Jvm.ClassFile.FieldType.int)) :: tS_1_449
def tS_1_447 : List Cond := (Jvm.Cond.selects "Runweaver" ({ cls := "Runweaver", name := "runs", desc := "(I)I" } : Jvm.MethodName) ({ cls := "Runweaver", name := "runs", desc := "(I)I" } : Jvm.MethodName)) :: tS_1_448
def tS_1_446 : List Cond := (Jvm.Cond.instanceMethod ({ cls := "Runweaver", name := "runs", desc := "(I)I" } : Jvm.MethodName)) :: tS_1_447
def tS_1_445 : List Cond := (Jvm.Cond.methodLink "RunweaverLaw" (116 : Nat) ({ cls := "Runweaver", name := "runs", desc := "(I)I" } : Jvm.MethodName)) :: tS_1_446
def tS_1_444 : List Cond := (Jvm.Cond.code ({ cls := "Runweaver$Row", name := "fallsThroughout", desc := "()Z" } : Jvm.MethodName) prog_3_method_13_code (2 : Nat) (Option.some Jvm.ClassFile.FieldType.boolean)) :: tS_1_445
def tS_1_443 : List Cond := (Jvm.Cond.selects "Runweaver$Row" ({ cls := "Runweaver$Row", name := "fallsThroughout", desc := "()Z" } : Jvm.MethodName) ({ cls := "Runweaver$Row", name := "fallsThroughout", desc := "()Z" } : Jvm.MethodName)) :: tS_1_444
def tS_1_442 : List Cond := (Jvm.Cond.instanceMethod ({ cls := "Runweaver$Row", name := "fallsThroughout", desc := "()Z" } : Jvm.MethodName)) :: tS_1_443
def tS_1_441 : List Cond := (Jvm.Cond.methodLink "Runweaver" (169 : Nat) ({ cls := "Runweaver$Row", name := "fallsThroughout", desc := "()Z" } : Jvm.MethodName)) :: tS_1_442
def tS_1_440 : List Cond := (Jvm.Cond.code ({ cls := "Runweaver", name := "isFalling", desc := "(I)Z" } : Jvm.MethodName) prog_1_method_27_code (2 : Nat) (Option.some Jvm.ClassFile.FieldType.boolean)) :: tS_1_441
def tS_1_439 : List Cond := (Jvm.Cond.selects "Runweaver" ({ cls := "Runweaver", name := "isFalling", desc := "(I)Z" } : Jvm.MethodName) ({ cls := "Runweaver", name := "isFalling", desc := "(I)Z" } : Jvm.MethodName)) :: tS_1_440
def tS_1_438 : List Cond := (Jvm.Cond.instanceMethod ({ cls := "Runweaver", name := "isFalling", desc := "(I)Z" } : Jvm.MethodName)) :: tS_1_439
def tS_1_437 : List Cond := (Jvm.Cond.methodLink "RunweaverLaw" (113 : Nat) ({ cls := "Runweaver", name := "isFalling", desc := "(I)Z" } : Jvm.MethodName)) :: tS_1_438
def tS_1_436 : List Cond := (Jvm.Cond.code ({ cls := "Runweaver", name := "isSorted", desc := "(I)Z" } : Jvm.MethodName) prog_1_method_26_code (2 : Nat) (Option.some Jvm.ClassFile.FieldType.boolean)) :: tS_1_437
def tS_1_435 : List Cond := (Jvm.Cond.selects "Runweaver" ({ cls := "Runweaver", name := "isSorted", desc := "(I)Z" } : Jvm.MethodName) ({ cls := "Runweaver", name := "isSorted", desc := "(I)Z" } : Jvm.MethodName)) :: tS_1_436
def tS_1_434 : List Cond := (Jvm.Cond.instanceMethod ({ cls := "Runweaver", name := "isSorted", desc := "(I)Z" } : Jvm.MethodName)) :: tS_1_435
def tS_1_433 : List Cond := (Jvm.Cond.methodLink "RunweaverLaw" (110 : Nat) ({ cls := "Runweaver", name := "isSorted", desc := "(I)Z" } : Jvm.MethodName)) :: tS_1_434
def tS_1_432 : List Cond := (Jvm.Cond.code ({ cls := "Runweaver", name := "ties", desc := "(I)I" } : Jvm.MethodName) prog_1_method_31_code (2 : Nat) (Option.some Jvm.ClassFile.FieldType.int)) :: tS_1_433
def tS_1_431 : List Cond := (Jvm.Cond.selects "Runweaver" ({ cls := "Runweaver", name := "ties", desc := "(I)I" } : Jvm.MethodName) ({ cls := "Runweaver", name := "ties", desc := "(I)I" } : Jvm.MethodName)) :: tS_1_432
def tS_1_430 : List Cond := (Jvm.Cond.instanceMethod ({ cls := "Runweaver", name := "ties", desc := "(I)I" } : Jvm.MethodName)) :: tS_1_431
def tS_1_429 : List Cond := (Jvm.Cond.methodLink "RunweaverLaw" (107 : Nat) ({ cls := "Runweaver", name := "ties", desc := "(I)I" } : Jvm.MethodName)) :: tS_1_430
def tS_1_428 : List Cond := (Jvm.Cond.code ({ cls := "Runweaver", name := "right", desc := "(I)I" } : Jvm.MethodName) prog_1_method_30_code (2 : Nat) (Option.some Jvm.ClassFile.FieldType.int)) :: tS_1_429
def tS_1_427 : List Cond := (Jvm.Cond.selects "Runweaver" ({ cls := "Runweaver", name := "right", desc := "(I)I" } : Jvm.MethodName) ({ cls := "Runweaver", name := "right", desc := "(I)I" } : Jvm.MethodName)) :: tS_1_428
def tS_1_426 : List Cond := (Jvm.Cond.instanceMethod ({ cls := "Runweaver", name := "right", desc := "(I)I" } : Jvm.MethodName)) :: tS_1_427
def tS_1_425 : List Cond := (Jvm.Cond.methodLink "RunweaverLaw" (104 : Nat) ({ cls := "Runweaver", name := "right", desc := "(I)I" } : Jvm.MethodName)) :: tS_1_426
def tS_1_424 : List Cond := (Jvm.Cond.code ({ cls := "Runweaver", name := "wrong", desc := "(II)I" } : Jvm.MethodName) prog_1_method_29_code (4 : Nat) (Option.some Jvm.ClassFile.FieldType.int)) :: tS_1_425
def tS_1_423 : List Cond := (Jvm.Cond.selects "Runweaver" ({ cls := "Runweaver", name := "wrong", desc := "(II)I" } : Jvm.MethodName) ({ cls := "Runweaver", name := "wrong", desc := "(II)I" } : Jvm.MethodName)) :: tS_1_424
def tS_1_422 : List Cond := (Jvm.Cond.instanceMethod ({ cls := "Runweaver", name := "wrong", desc := "(II)I" } : Jvm.MethodName)) :: tS_1_423
def tS_1_421 : List Cond := (Jvm.Cond.methodLink "RunweaverLaw" (101 : Nat) ({ cls := "Runweaver", name := "wrong", desc := "(II)I" } : Jvm.MethodName)) :: tS_1_422
def tS_1_420 : List Cond := (Jvm.Cond.code ({ cls := "RunweaverLaw", name := "arePairs", desc := "(LRunweaver;I)Z" } : Jvm.MethodName) method_7_code (7 : Nat) (Option.some Jvm.ClassFile.FieldType.boolean)) :: tS_1_421
def tS_1_419 : List Cond := (Jvm.Cond.static ({ cls := "RunweaverLaw", name := "arePairs", desc := "(LRunweaver;I)Z" } : Jvm.MethodName)) :: tS_1_420
def tS_1_418 : List Cond := (Jvm.Cond.methodLink "RunweaverLaw" (28 : Nat) ({ cls := "RunweaverLaw", name := "arePairs", desc := "(LRunweaver;I)Z" } : Jvm.MethodName)) :: tS_1_419
def tS_1_417 : List Cond := (Jvm.Cond.code ({ cls := "Runweaver", name := "sort", desc := "(I)I" } : Jvm.MethodName) prog_1_method_12_code (4 : Nat) (Option.some Jvm.ClassFile.FieldType.int)) :: tS_1_418
def tS_1_416 : List Cond := (Jvm.Cond.selects "Runweaver" ({ cls := "Runweaver", name := "sort", desc := "(I)I" } : Jvm.MethodName) ({ cls := "Runweaver", name := "sort", desc := "(I)I" } : Jvm.MethodName)) :: tS_1_417
def tS_1_415 : List Cond := (Jvm.Cond.instanceMethod ({ cls := "Runweaver", name := "sort", desc := "(I)I" } : Jvm.MethodName)) :: tS_1_416
def tS_1_414 : List Cond := (Jvm.Cond.methodLink "RunweaverLaw" (94 : Nat) ({ cls := "Runweaver", name := "sort", desc := "(I)I" } : Jvm.MethodName)) :: tS_1_415
def tS_1_413 : List Cond := (Jvm.Cond.code ({ cls := "Runweaver", name := "clear", desc := "(I)I" } : Jvm.MethodName) prog_1_method_6_code (4 : Nat) (Option.some Jvm.ClassFile.FieldType.int)) :: tS_1_414
def tS_1_412 : List Cond := (Jvm.Cond.selects "Runweaver" ({ cls := "Runweaver", name := "clear", desc := "(I)I" } : Jvm.MethodName) ({ cls := "Runweaver", name := "clear", desc := "(I)I" } : Jvm.MethodName)) :: tS_1_413
def tS_1_411 : List Cond := (Jvm.Cond.instanceMethod ({ cls := "Runweaver", name := "clear", desc := "(I)I" } : Jvm.MethodName)) :: tS_1_412
def tS_1_410 : List Cond := (Jvm.Cond.methodLink "RunweaverLaw" (91 : Nat) ({ cls := "Runweaver", name := "clear", desc := "(I)I" } : Jvm.MethodName)) :: tS_1_411
def tS_1_409 : List Cond := (Jvm.Cond.code ({ cls := "Runweaver", name := "merge", desc := "(II)I" } : Jvm.MethodName) prog_1_method_15_code (5 : Nat) (Option.some Jvm.ClassFile.FieldType.int)) :: tS_1_410
def tS_1_408 : List Cond := (Jvm.Cond.selects "Runweaver" ({ cls := "Runweaver", name := "merge", desc := "(II)I" } : Jvm.MethodName) ({ cls := "Runweaver", name := "merge", desc := "(II)I" } : Jvm.MethodName)) :: tS_1_409
def tS_1_407 : List Cond := (Jvm.Cond.instanceMethod ({ cls := "Runweaver", name := "merge", desc := "(II)I" } : Jvm.MethodName)) :: tS_1_408
def tS_1_406 : List Cond := (Jvm.Cond.methodLink "RunweaverLaw" (88 : Nat) ({ cls := "Runweaver", name := "merge", desc := "(II)I" } : Jvm.MethodName)) :: tS_1_407
def tS_1_405 : List Cond := (Jvm.Cond.code ({ cls := "Runweaver", name := "join", desc := "(II)I" } : Jvm.MethodName) prog_1_method_14_code (5 : Nat) (Option.some Jvm.ClassFile.FieldType.int)) :: tS_1_406
def tS_1_404 : List Cond := (Jvm.Cond.selects "Runweaver" ({ cls := "Runweaver", name := "join", desc := "(II)I" } : Jvm.MethodName) ({ cls := "Runweaver", name := "join", desc := "(II)I" } : Jvm.MethodName)) :: tS_1_405
def tS_1_403 : List Cond := (Jvm.Cond.instanceMethod ({ cls := "Runweaver", name := "join", desc := "(II)I" } : Jvm.MethodName)) :: tS_1_404
def tS_1_402 : List Cond := (Jvm.Cond.methodLink "RunweaverLaw" (85 : Nat) ({ cls := "Runweaver", name := "join", desc := "(II)I" } : Jvm.MethodName)) :: tS_1_403
def tS_1_401 : List Cond := (Jvm.Cond.code ({ cls := "Runweaver", name := "stampOfComer", desc := "(LRunweaver$Row;IZ)I" } : Jvm.MethodName) prog_1_method_62_code (4 : Nat) (Option.some Jvm.ClassFile.FieldType.int)) :: tS_1_402
def tS_1_400 : List Cond := (Jvm.Cond.instanceMethod ({ cls := "Runweaver", name := "stampOfComer", desc := "(LRunweaver$Row;IZ)I" } : Jvm.MethodName)) :: tS_1_401
def tS_1_399 : List Cond := (Jvm.Cond.privateMethod ({ cls := "Runweaver", name := "stampOfComer", desc := "(LRunweaver$Row;IZ)I" } : Jvm.MethodName)) :: tS_1_400
def tS_1_398 : List Cond := (Jvm.Cond.methodLink "Runweaver" (304 : Nat) ({ cls := "Runweaver", name := "stampOfComer", desc := "(LRunweaver$Row;IZ)I" } : Jvm.MethodName)) :: tS_1_399
def tS_1_397 : List Cond := (Jvm.Cond.code ({ cls := "Runweaver", name := "bring", desc := "(LRunweaver$Row;LRunweaver$Row;Z)V" } : Jvm.MethodName) prog_1_method_61_code (6 : Nat) (Option.none : Option Jvm.ClassFile.FieldType)) :: tS_1_398
def tS_1_396 : List Cond := (Jvm.Cond.instanceMethod ({ cls := "Runweaver", name := "bring", desc := "(LRunweaver$Row;LRunweaver$Row;Z)V" } : Jvm.MethodName)) :: tS_1_397
def tS_1_395 : List Cond := (Jvm.Cond.privateMethod ({ cls := "Runweaver", name := "bring", desc := "(LRunweaver$Row;LRunweaver$Row;Z)V" } : Jvm.MethodName)) :: tS_1_396
def tS_1_394 : List Cond := (Jvm.Cond.methodLink "Runweaver" (127 : Nat) ({ cls := "Runweaver", name := "bring", desc := "(LRunweaver$Row;LRunweaver$Row;Z)V" } : Jvm.MethodName)) :: tS_1_395
def tS_1_393 : List Cond := (Jvm.Cond.code ({ cls := "Runweaver", name := "copy", desc := "(II)I" } : Jvm.MethodName) prog_1_method_13_code (5 : Nat) (Option.some Jvm.ClassFile.FieldType.int)) :: tS_1_394
def tS_1_392 : List Cond := (Jvm.Cond.selects "Runweaver" ({ cls := "Runweaver", name := "copy", desc := "(II)I" } : Jvm.MethodName) ({ cls := "Runweaver", name := "copy", desc := "(II)I" } : Jvm.MethodName)) :: tS_1_393
def tS_1_391 : List Cond := (Jvm.Cond.instanceMethod ({ cls := "Runweaver", name := "copy", desc := "(II)I" } : Jvm.MethodName)) :: tS_1_392
def tS_1_390 : List Cond := (Jvm.Cond.methodLink "RunweaverLaw" (82 : Nat) ({ cls := "Runweaver", name := "copy", desc := "(II)I" } : Jvm.MethodName)) :: tS_1_391
def tS_1_389 : List Cond := (Jvm.Cond.code ({ cls := "Runweaver", name := "keep", desc := "(III)I" } : Jvm.MethodName) prog_1_method_11_code (6 : Nat) (Option.some Jvm.ClassFile.FieldType.int)) :: tS_1_390
def tS_1_388 : List Cond := (Jvm.Cond.selects "Runweaver" ({ cls := "Runweaver", name := "keep", desc := "(III)I" } : Jvm.MethodName) ({ cls := "Runweaver", name := "keep", desc := "(III)I" } : Jvm.MethodName)) :: tS_1_389
def tS_1_387 : List Cond := (Jvm.Cond.instanceMethod ({ cls := "Runweaver", name := "keep", desc := "(III)I" } : Jvm.MethodName)) :: tS_1_388
def tS_1_386 : List Cond := (Jvm.Cond.methodLink "RunweaverLaw" (79 : Nat) ({ cls := "Runweaver", name := "keep", desc := "(III)I" } : Jvm.MethodName)) :: tS_1_387
def tS_1_385 : List Cond := (Jvm.Cond.code ({ cls := "Runweaver", name := "roll", desc := "(II)I" } : Jvm.MethodName) prog_1_method_10_code (6 : Nat) (Option.some Jvm.ClassFile.FieldType.int)) :: tS_1_386
def tS_1_384 : List Cond := (Jvm.Cond.selects "Runweaver" ({ cls := "Runweaver", name := "roll", desc := "(II)I" } : Jvm.MethodName) ({ cls := "Runweaver", name := "roll", desc := "(II)I" } : Jvm.MethodName)) :: tS_1_385
def tS_1_383 : List Cond := (Jvm.Cond.instanceMethod ({ cls := "Runweaver", name := "roll", desc := "(II)I" } : Jvm.MethodName)) :: tS_1_384
def tS_1_382 : List Cond := (Jvm.Cond.methodLink "RunweaverLaw" (76 : Nat) ({ cls := "Runweaver", name := "roll", desc := "(II)I" } : Jvm.MethodName)) :: tS_1_383
def tS_1_381 : List Cond := (Jvm.Cond.code ({ cls := "Runweaver$Row", name := "otherKeys", desc := "(LRunweaver$Row;)I" } : Jvm.MethodName) prog_3_method_10_code (5 : Nat) (Option.some Jvm.ClassFile.FieldType.int)) :: tS_1_382
def tS_1_380 : List Cond := (Jvm.Cond.selects "Runweaver$Row" ({ cls := "Runweaver$Row", name := "otherKeys", desc := "(LRunweaver$Row;)I" } : Jvm.MethodName) ({ cls := "Runweaver$Row", name := "otherKeys", desc := "(LRunweaver$Row;)I" } : Jvm.MethodName)) :: tS_1_381
def tS_1_379 : List Cond := (Jvm.Cond.instanceMethod ({ cls := "Runweaver$Row", name := "otherKeys", desc := "(LRunweaver$Row;)I" } : Jvm.MethodName)) :: tS_1_380
def tS_1_378 : List Cond := (Jvm.Cond.methodLink "Runweaver" (107 : Nat) ({ cls := "Runweaver$Row", name := "otherKeys", desc := "(LRunweaver$Row;)I" } : Jvm.MethodName)) :: tS_1_379
def tS_1_377 : List Cond := (Jvm.Cond.code ({ cls := "Runweaver", name := "turn", desc := "(I)I" } : Jvm.MethodName) prog_1_method_9_code (5 : Nat) (Option.some Jvm.ClassFile.FieldType.int)) :: tS_1_378
def tS_1_376 : List Cond := (Jvm.Cond.selects "Runweaver" ({ cls := "Runweaver", name := "turn", desc := "(I)I" } : Jvm.MethodName) ({ cls := "Runweaver", name := "turn", desc := "(I)I" } : Jvm.MethodName)) :: tS_1_377
def tS_1_375 : List Cond := (Jvm.Cond.instanceMethod ({ cls := "Runweaver", name := "turn", desc := "(I)I" } : Jvm.MethodName)) :: tS_1_376
def tS_1_374 : List Cond := (Jvm.Cond.methodLink "RunweaverLaw" (73 : Nat) ({ cls := "Runweaver", name := "turn", desc := "(I)I" } : Jvm.MethodName)) :: tS_1_375
def tS_1_373 : List Cond := (Jvm.Cond.code ({ cls := "Runweaver", name := "swap", desc := "(III)I" } : Jvm.MethodName) prog_1_method_8_code (6 : Nat) (Option.some Jvm.ClassFile.FieldType.int)) :: tS_1_374
def tS_1_372 : List Cond := (Jvm.Cond.selects "Runweaver" ({ cls := "Runweaver", name := "swap", desc := "(III)I" } : Jvm.MethodName) ({ cls := "Runweaver", name := "swap", desc := "(III)I" } : Jvm.MethodName)) :: tS_1_373
def tS_1_371 : List Cond := (Jvm.Cond.instanceMethod ({ cls := "Runweaver", name := "swap", desc := "(III)I" } : Jvm.MethodName)) :: tS_1_372
def tS_1_370 : List Cond := (Jvm.Cond.methodLink "RunweaverLaw" (70 : Nat) ({ cls := "Runweaver", name := "swap", desc := "(III)I" } : Jvm.MethodName)) :: tS_1_371
def tS_1_369 : List Cond := (Jvm.Cond.code ({ cls := "Runweaver$Row", name := "trade", desc := "(II)V" } : Jvm.MethodName) prog_3_method_8_code (5 : Nat) (Option.none : Option Jvm.ClassFile.FieldType)) :: tS_1_370
def tS_1_368 : List Cond := (Jvm.Cond.selects "Runweaver$Row" ({ cls := "Runweaver$Row", name := "trade", desc := "(II)V" } : Jvm.MethodName) ({ cls := "Runweaver$Row", name := "trade", desc := "(II)V" } : Jvm.MethodName)) :: tS_1_369
def tS_1_367 : List Cond := (Jvm.Cond.instanceMethod ({ cls := "Runweaver$Row", name := "trade", desc := "(II)V" } : Jvm.MethodName)) :: tS_1_368
def tS_1_366 : List Cond := (Jvm.Cond.methodLink "Runweaver" (104 : Nat) ({ cls := "Runweaver$Row", name := "trade", desc := "(II)V" } : Jvm.MethodName)) :: tS_1_367
def tS_1_365 : List Cond := (Jvm.Cond.code ({ cls := "Runweaver$Row", name := "wrongerByExchange", desc := "(I)I" } : Jvm.MethodName) prog_3_method_9_code (2 : Nat) (Option.some Jvm.ClassFile.FieldType.int)) :: tS_1_366
def tS_1_364 : List Cond := (Jvm.Cond.selects "Runweaver$Row" ({ cls := "Runweaver$Row", name := "wrongerByExchange", desc := "(I)I" } : Jvm.MethodName) ({ cls := "Runweaver$Row", name := "wrongerByExchange", desc := "(I)I" } : Jvm.MethodName)) :: tS_1_365
def tS_1_363 : List Cond := (Jvm.Cond.instanceMethod ({ cls := "Runweaver$Row", name := "wrongerByExchange", desc := "(I)I" } : Jvm.MethodName)) :: tS_1_364
def tS_1_362 : List Cond := (Jvm.Cond.methodLink "Runweaver" (101 : Nat) ({ cls := "Runweaver$Row", name := "wrongerByExchange", desc := "(I)I" } : Jvm.MethodName)) :: tS_1_363
def tS_1_361 : List Cond := (Jvm.Cond.code ({ cls := "Runweaver", name := "demandPlaceWithNext", desc := "(LRunweaver$Row;I)V" } : Jvm.MethodName) prog_1_method_53_code (2 : Nat) (Option.none : Option Jvm.ClassFile.FieldType)) :: tS_1_362
def tS_1_360 : List Cond := (Jvm.Cond.static ({ cls := "Runweaver", name := "demandPlaceWithNext", desc := "(LRunweaver$Row;I)V" } : Jvm.MethodName)) :: tS_1_361
def tS_1_359 : List Cond := (Jvm.Cond.methodLink "Runweaver" (98 : Nat) ({ cls := "Runweaver", name := "demandPlaceWithNext", desc := "(LRunweaver$Row;I)V" } : Jvm.MethodName)) :: tS_1_360
def tS_1_358 : List Cond := (Jvm.Cond.code ({ cls := "Runweaver", name := "exchange", desc := "(II)I" } : Jvm.MethodName) prog_1_method_7_code (5 : Nat) (Option.some Jvm.ClassFile.FieldType.int)) :: tS_1_359
def tS_1_357 : List Cond := (Jvm.Cond.selects "Runweaver" ({ cls := "Runweaver", name := "exchange", desc := "(II)I" } : Jvm.MethodName) ({ cls := "Runweaver", name := "exchange", desc := "(II)I" } : Jvm.MethodName)) :: tS_1_358
def tS_1_356 : List Cond := (Jvm.Cond.instanceMethod ({ cls := "Runweaver", name := "exchange", desc := "(II)I" } : Jvm.MethodName)) :: tS_1_357
def tS_1_355 : List Cond := (Jvm.Cond.methodLink "RunweaverLaw" (67 : Nat) ({ cls := "Runweaver", name := "exchange", desc := "(II)I" } : Jvm.MethodName)) :: tS_1_356
def tS_1_354 : List Cond := (Jvm.Cond.code ({ cls := "Runweaver", name := "drop", desc := "(II)I" } : Jvm.MethodName) prog_1_method_5_code (6 : Nat) (Option.some Jvm.ClassFile.FieldType.int)) :: tS_1_355
def tS_1_353 : List Cond := (Jvm.Cond.selects "Runweaver" ({ cls := "Runweaver", name := "drop", desc := "(II)I" } : Jvm.MethodName) ({ cls := "Runweaver", name := "drop", desc := "(II)I" } : Jvm.MethodName)) :: tS_1_354
def tS_1_352 : List Cond := (Jvm.Cond.instanceMethod ({ cls := "Runweaver", name := "drop", desc := "(II)I" } : Jvm.MethodName)) :: tS_1_353
def tS_1_351 : List Cond := (Jvm.Cond.methodLink "RunweaverLaw" (64 : Nat) ({ cls := "Runweaver", name := "drop", desc := "(II)I" } : Jvm.MethodName)) :: tS_1_352
def tS_1_350 : List Cond := (Jvm.Cond.stringRef "Runweaver" (294 : Nat) "no such place") :: tS_1_351
def tS_1_349 : List Cond := (Jvm.Cond.code ({ cls := "Runweaver", name := "demandWithin", desc := "(Z)V" } : Jvm.MethodName) prog_1_method_51_code (1 : Nat) (Option.none : Option Jvm.ClassFile.FieldType)) :: tS_1_350
def tS_1_348 : List Cond := (Jvm.Cond.static ({ cls := "Runweaver", name := "demandWithin", desc := "(Z)V" } : Jvm.MethodName)) :: tS_1_349
def tS_1_347 : List Cond := (Jvm.Cond.methodLink "Runweaver" (110 : Nat) ({ cls := "Runweaver", name := "demandWithin", desc := "(Z)V" } : Jvm.MethodName)) :: tS_1_348
def tS_1_346 : List Cond := (Jvm.Cond.code ({ cls := "Runweaver", name := "demandPlace", desc := "(LRunweaver$Row;I)V" } : Jvm.MethodName) prog_1_method_52_code (2 : Nat) (Option.none : Option Jvm.ClassFile.FieldType)) :: tS_1_347
def tS_1_345 : List Cond := (Jvm.Cond.static ({ cls := "Runweaver", name := "demandPlace", desc := "(LRunweaver$Row;I)V" } : Jvm.MethodName)) :: tS_1_346
def tS_1_344 : List Cond := (Jvm.Cond.methodLink "Runweaver" (75 : Nat) ({ cls := "Runweaver", name := "demandPlace", desc := "(LRunweaver$Row;I)V" } : Jvm.MethodName)) :: tS_1_345
def tS_1_343 : List Cond := (Jvm.Cond.code ({ cls := "Runweaver", name := "put", desc := "(III)I" } : Jvm.MethodName) prog_1_method_4_code (6 : Nat) (Option.some Jvm.ClassFile.FieldType.int)) :: tS_1_344
def tS_1_342 : List Cond := (Jvm.Cond.selects "Runweaver" ({ cls := "Runweaver", name := "put", desc := "(III)I" } : Jvm.MethodName) ({ cls := "Runweaver", name := "put", desc := "(III)I" } : Jvm.MethodName)) :: tS_1_343
def tS_1_341 : List Cond := (Jvm.Cond.instanceMethod ({ cls := "Runweaver", name := "put", desc := "(III)I" } : Jvm.MethodName)) :: tS_1_342
def tS_1_340 : List Cond := (Jvm.Cond.methodLink "RunweaverLaw" (61 : Nat) ({ cls := "Runweaver", name := "put", desc := "(III)I" } : Jvm.MethodName)) :: tS_1_341
def tS_1_339 : List Cond := (Jvm.Cond.code ({ cls := "Runweaver", name := "refused", desc := "()I" } : Jvm.MethodName) prog_1_method_55_code (1 : Nat) (Option.some Jvm.ClassFile.FieldType.int)) :: tS_1_340
def tS_1_338 : List Cond := (Jvm.Cond.instanceMethod ({ cls := "Runweaver", name := "refused", desc := "()I" } : Jvm.MethodName)) :: tS_1_339
def tS_1_337 : List Cond := (Jvm.Cond.privateMethod ({ cls := "Runweaver", name := "refused", desc := "()I" } : Jvm.MethodName)) :: tS_1_338
def tS_1_336 : List Cond := (Jvm.Cond.methodLink "Runweaver" (64 : Nat) ({ cls := "Runweaver", name := "refused", desc := "()I" } : Jvm.MethodName)) :: tS_1_337
def tS_1_335 : List Cond := (Jvm.Cond.constant "Runweaver" (293 : Nat) (99999 : Int32)) :: tS_1_336
def tS_1_334 : List Cond := (Jvm.Cond.constant "Runweaver" (292 : Nat) (-99999 : Int32)) :: tS_1_335
def tS_1_333 : List Cond := (Jvm.Cond.code ({ cls := "Runweaver", name := "demandKey", desc := "(I)V" } : Jvm.MethodName) prog_1_method_50_code (1 : Nat) (Option.none : Option Jvm.ClassFile.FieldType)) :: tS_1_334
def tS_1_332 : List Cond := (Jvm.Cond.static ({ cls := "Runweaver", name := "demandKey", desc := "(I)V" } : Jvm.MethodName)) :: tS_1_333
def tS_1_331 : List Cond := (Jvm.Cond.methodLink "Runweaver" (58 : Nat) ({ cls := "Runweaver", name := "demandKey", desc := "(I)V" } : Jvm.MethodName)) :: tS_1_332
def tS_1_330 : List Cond := (Jvm.Cond.code ({ cls := "Runweaver", name := "add", desc := "(II)I" } : Jvm.MethodName) prog_1_method_3_code (4 : Nat) (Option.some Jvm.ClassFile.FieldType.int)) :: tS_1_331
def tS_1_329 : List Cond := (Jvm.Cond.selects "Runweaver" ({ cls := "Runweaver", name := "add", desc := "(II)I" } : Jvm.MethodName) ({ cls := "Runweaver", name := "add", desc := "(II)I" } : Jvm.MethodName)) :: tS_1_330
def tS_1_328 : List Cond := (Jvm.Cond.instanceMethod ({ cls := "Runweaver", name := "add", desc := "(II)I" } : Jvm.MethodName)) :: tS_1_329
def tS_1_327 : List Cond := (Jvm.Cond.methodLink "RunweaverLaw" (57 : Nat) ({ cls := "Runweaver", name := "add", desc := "(II)I" } : Jvm.MethodName)) :: tS_1_328
def tS_1_326 : List Cond := (Jvm.Cond.code ({ cls := "Runweaver", name := "done", desc := "(I)I" } : Jvm.MethodName) prog_1_method_54_code (2 : Nat) (Option.some Jvm.ClassFile.FieldType.int)) :: tS_1_327
def tS_1_325 : List Cond := (Jvm.Cond.instanceMethod ({ cls := "Runweaver", name := "done", desc := "(I)I" } : Jvm.MethodName)) :: tS_1_326
def tS_1_324 : List Cond := (Jvm.Cond.privateMethod ({ cls := "Runweaver", name := "done", desc := "(I)I" } : Jvm.MethodName)) :: tS_1_325
def tS_1_323 : List Cond := (Jvm.Cond.methodLink "Runweaver" (54 : Nat) ({ cls := "Runweaver", name := "done", desc := "(I)I" } : Jvm.MethodName)) :: tS_1_324
def tS_1_322 : List Cond := (Jvm.Cond.methodLink "Runweaver" (150 : Nat) ({ cls := "java/lang/Math", name := "min", desc := "(II)I" } : Jvm.MethodName)) :: tS_1_323
def tS_1_321 : List Cond := (Jvm.Cond.code ({ cls := "Runweaver", name := "patternKey", desc := "(IIIII)I" } : Jvm.MethodName) prog_1_method_60_code (5 : Nat) (Option.some Jvm.ClassFile.FieldType.int)) :: tS_1_322
def tS_1_320 : List Cond := (Jvm.Cond.static ({ cls := "Runweaver", name := "patternKey", desc := "(IIIII)I" } : Jvm.MethodName)) :: tS_1_321
def tS_1_319 : List Cond := (Jvm.Cond.methodLink "Runweaver" (299 : Nat) ({ cls := "Runweaver", name := "patternKey", desc := "(IIIII)I" } : Jvm.MethodName)) :: tS_1_320
def tS_1_318 : List Cond := (Jvm.Cond.code ({ cls := "Runweaver", name := "appendPattern", desc := "(LRunweaver$Row;IIII)V" } : Jvm.MethodName) prog_1_method_58_code (7 : Nat) (Option.none : Option Jvm.ClassFile.FieldType)) :: tS_1_319
def tS_1_317 : List Cond := (Jvm.Cond.instanceMethod ({ cls := "Runweaver", name := "appendPattern", desc := "(LRunweaver$Row;IIII)V" } : Jvm.MethodName)) :: tS_1_318
def tS_1_316 : List Cond := (Jvm.Cond.privateMethod ({ cls := "Runweaver", name := "appendPattern", desc := "(LRunweaver$Row;IIII)V" } : Jvm.MethodName)) :: tS_1_317
def tS_1_315 : List Cond := (Jvm.Cond.methodLink "Runweaver" (50 : Nat) ({ cls := "Runweaver", name := "appendPattern", desc := "(LRunweaver$Row;IIII)V" } : Jvm.MethodName)) :: tS_1_316
def tS_1_314 : List Cond := (Jvm.Cond.methodLink "Runweaver" (71 : Nat) ({ cls := "Runweaver$Row", name := "append", desc := "(II)V" } : Jvm.MethodName)) :: tS_1_315
def tS_1_313 : List Cond := (Jvm.Cond.code ({ cls := "Runweaver", name := "nextStamp", desc := "()I" } : Jvm.MethodName) prog_1_method_56_code (2 : Nat) (Option.some Jvm.ClassFile.FieldType.int)) :: tS_1_314
def tS_1_312 : List Cond := (Jvm.Cond.instanceMethod ({ cls := "Runweaver", name := "nextStamp", desc := "()I" } : Jvm.MethodName)) :: tS_1_313
def tS_1_311 : List Cond := (Jvm.Cond.privateMethod ({ cls := "Runweaver", name := "nextStamp", desc := "()I" } : Jvm.MethodName)) :: tS_1_312
def tS_1_310 : List Cond := (Jvm.Cond.methodLink "Runweaver" (296 : Nat) ({ cls := "Runweaver", name := "nextStamp", desc := "()I" } : Jvm.MethodName)) :: tS_1_311
def tS_1_309 : List Cond := (Jvm.Cond.code ({ cls := "Runweaver", name := "stampOfNew", desc := "(LRunweaver$Row;)I" } : Jvm.MethodName) prog_1_method_57_code (2 : Nat) (Option.some Jvm.ClassFile.FieldType.int)) :: tS_1_310
def tS_1_308 : List Cond := (Jvm.Cond.instanceMethod ({ cls := "Runweaver", name := "stampOfNew", desc := "(LRunweaver$Row;)I" } : Jvm.MethodName)) :: tS_1_309
def tS_1_307 : List Cond := (Jvm.Cond.privateMethod ({ cls := "Runweaver", name := "stampOfNew", desc := "(LRunweaver$Row;)I" } : Jvm.MethodName)) :: tS_1_308
def tS_1_306 : List Cond := (Jvm.Cond.methodLink "Runweaver" (67 : Nat) ({ cls := "Runweaver", name := "stampOfNew", desc := "(LRunweaver$Row;)I" } : Jvm.MethodName)) :: tS_1_307
def tS_1_305 : List Cond := (Jvm.Cond.constant "Runweaver" (303 : Nat) (65536 : Int32)) :: tS_1_306
def tS_1_304 : List Cond := (Jvm.Cond.code ({ cls := "Runweaver", name := "appendDrawn", desc := "(LRunweaver$Row;III)V" } : Jvm.MethodName) prog_1_method_59_code (7 : Nat) (Option.none : Option Jvm.ClassFile.FieldType)) :: tS_1_305
def tS_1_303 : List Cond := (Jvm.Cond.instanceMethod ({ cls := "Runweaver", name := "appendDrawn", desc := "(LRunweaver$Row;III)V" } : Jvm.MethodName)) :: tS_1_304
def tS_1_302 : List Cond := (Jvm.Cond.privateMethod ({ cls := "Runweaver", name := "appendDrawn", desc := "(LRunweaver$Row;III)V" } : Jvm.MethodName)) :: tS_1_303
def tS_1_301 : List Cond := (Jvm.Cond.methodLink "Runweaver" (46 : Nat) ({ cls := "Runweaver", name := "appendDrawn", desc := "(LRunweaver$Row;III)V" } : Jvm.MethodName)) :: tS_1_302
def tS_1_300 : List Cond := (Jvm.Cond.methodLink "Runweaver" (43 : Nat) ({ cls := "Runweaver$Row", name := "empty", desc := "()V" } : Jvm.MethodName)) :: tS_1_301
def tS_1_299 : List Cond := (Jvm.Cond.superclass "java/lang/IllegalArgumentException" "java/lang/RuntimeException") :: tS_1_300
def tS_1_298 : List Cond := (Jvm.Cond.lays "java/lang/IllegalArgumentException" "java/lang/Throwable" "depth" "I") :: tS_1_299
def tS_1_297 : List Cond := (Jvm.Cond.methodLink "java/lang/IllegalArgumentException" (7 : Nat) ({ cls := "java/lang/RuntimeException", name := "<init>", desc := "(Ljava/lang/String;)V" } : Jvm.MethodName)) :: tS_1_298
def tS_1_296 : List Cond := (Jvm.Cond.code ({ cls := "java/lang/IllegalArgumentException", name := "<init>", desc := "(Ljava/lang/String;)V" } : Jvm.MethodName) prog_9_method_2_code (2 : Nat) (Option.none : Option Jvm.ClassFile.FieldType)) :: tS_1_297
def tS_1_295 : List Cond := (Jvm.Cond.instanceMethod ({ cls := "java/lang/IllegalArgumentException", name := "<init>", desc := "(Ljava/lang/String;)V" } : Jvm.MethodName)) :: tS_1_296
def tS_1_294 : List Cond := (Jvm.Cond.methodLink "Runweaver" (239 : Nat) ({ cls := "java/lang/IllegalArgumentException", name := "<init>", desc := "(Ljava/lang/String;)V" } : Jvm.MethodName)) :: tS_1_295
def tS_1_293 : List Cond := (Jvm.Cond.stringRef "Runweaver" (290 : Nat) "an argument is out of its range") :: tS_1_294
def tS_1_292 : List Cond := (Jvm.Cond.lays "java/lang/IllegalArgumentException" "java/lang/Throwable" "backtrace" "Ljava/lang/Object;") :: tS_1_293
def tS_1_291 : List Cond := (Jvm.Cond.lays "java/lang/IllegalArgumentException" "java/lang/Throwable" "detailMessage" "Ljava/lang/String;") :: tS_1_292
def tS_1_290 : List Cond := (Jvm.Cond.lays "java/lang/IllegalArgumentException" "java/lang/Throwable" "suppressedExceptions" "Ljava/util/List;") :: tS_1_291
def tS_1_289 : List Cond := (Jvm.Cond.lays "java/lang/IllegalArgumentException" "java/lang/Throwable" "stackTrace" "[Ljava/lang/StackTraceElement;") :: tS_1_290
def tS_1_288 : List Cond := (Jvm.Cond.lays "java/lang/IllegalArgumentException" "java/lang/Throwable" "cause" "Ljava/lang/Throwable;") :: tS_1_289
def tS_1_287 : List Cond := (Jvm.Cond.selects "java/lang/IllegalArgumentException" ({ cls := "java/lang/Throwable", name := "fillInStackTrace", desc := "(I)Ljava/lang/Throwable;" } : Jvm.MethodName) ({ cls := "java/lang/Throwable", name := "fillInStackTrace", desc := "(I)Ljava/lang/Throwable;" } : Jvm.MethodName)) :: tS_1_288
def tS_1_286 : List Cond := (Jvm.Cond.castable "java/lang/IllegalArgumentException" "java/lang/IllegalArgumentException") :: tS_1_287
def tS_1_285 : List Cond := (Jvm.Cond.instantiable "java/lang/IllegalArgumentException" (6 : Nat)) :: tS_1_286
def tS_1_284 : List Cond := (Jvm.Cond.classLink "Runweaver" (235 : Nat) "java/lang/IllegalArgumentException") :: tS_1_285
def tS_1_283 : List Cond := (Jvm.Cond.code ({ cls := "Runweaver", name := "demand", desc := "(Z)V" } : Jvm.MethodName) prog_1_method_49_code (1 : Nat) (Option.none : Option Jvm.ClassFile.FieldType)) :: tS_1_284
def tS_1_282 : List Cond := (Jvm.Cond.static ({ cls := "Runweaver", name := "demand", desc := "(Z)V" } : Jvm.MethodName)) :: tS_1_283
def tS_1_281 : List Cond := (Jvm.Cond.methodLink "Runweaver" (35 : Nat) ({ cls := "Runweaver", name := "demand", desc := "(Z)V" } : Jvm.MethodName)) :: tS_1_282
def tS_1_280 : List Cond := (Jvm.Cond.code ({ cls := "Runweaver$Row", name := "room", desc := "()I" } : Jvm.MethodName) prog_3_method_2_code (1 : Nat) (Option.some Jvm.ClassFile.FieldType.int)) :: tS_1_281
def tS_1_279 : List Cond := (Jvm.Cond.selects "Runweaver$Row" ({ cls := "Runweaver$Row", name := "room", desc := "()I" } : Jvm.MethodName) ({ cls := "Runweaver$Row", name := "room", desc := "()I" } : Jvm.MethodName)) :: tS_1_280
def tS_1_278 : List Cond := (Jvm.Cond.instanceMethod ({ cls := "Runweaver$Row", name := "room", desc := "()I" } : Jvm.MethodName)) :: tS_1_279
def tS_1_277 : List Cond := (Jvm.Cond.methodLink "Runweaver" (31 : Nat) ({ cls := "Runweaver$Row", name := "room", desc := "()I" } : Jvm.MethodName)) :: tS_1_278
def tS_1_276 : List Cond := (Jvm.Cond.code ({ cls := "Runweaver", name := "fill", desc := "(IIIII)I" } : Jvm.MethodName) prog_1_method_2_code (8 : Nat) (Option.some Jvm.ClassFile.FieldType.int)) :: tS_1_277
def tS_1_275 : List Cond := (Jvm.Cond.selects "Runweaver" ({ cls := "Runweaver", name := "fill", desc := "(IIIII)I" } : Jvm.MethodName) ({ cls := "Runweaver", name := "fill", desc := "(IIIII)I" } : Jvm.MethodName)) :: tS_1_276
def tS_1_274 : List Cond := (Jvm.Cond.instanceMethod ({ cls := "Runweaver", name := "fill", desc := "(IIIII)I" } : Jvm.MethodName)) :: tS_1_275
def tS_1_273 : List Cond := (Jvm.Cond.methodLink "RunweaverLaw" (53 : Nat) ({ cls := "Runweaver", name := "fill", desc := "(IIIII)I" } : Jvm.MethodName)) :: tS_1_274
def tS_1_272 : List Cond := (Jvm.Cond.arrayClass Jvm.ClassFile.FieldType.byte) :: tS_1_273
def tS_1_271 : List Cond := (Jvm.Cond.superclass "java/lang/IndexOutOfBoundsException" "java/lang/RuntimeException") :: tS_1_272
def tS_1_270 : List Cond := (Jvm.Cond.soleField "java/lang/Throwable" "suppressedExceptions") :: tS_1_271
def tS_1_269 : List Cond := (Jvm.Cond.soleField "java/lang/Throwable" "depth") :: tS_1_270
def tS_1_268 : List Cond := (Jvm.Cond.lays "java/lang/IndexOutOfBoundsException" "java/lang/Throwable" "depth" "I") :: tS_1_269
def tS_1_267 : List Cond := (Jvm.Cond.soleField "java/lang/Throwable" "stackTrace") :: tS_1_268
def tS_1_266 : List Cond := (Jvm.Cond.soleField "java/lang/Throwable" "cause") :: tS_1_267
def tS_1_265 : List Cond := (Jvm.Cond.soleField "java/lang/Throwable" "detailMessage") :: tS_1_266
def tS_1_264 : List Cond := (Jvm.Cond.soleField "java/lang/Throwable" "backtrace") :: tS_1_265
def tS_1_263 : List Cond := (Jvm.Cond.fieldLink "java/lang/Throwable" (24 : Nat) "java/lang/Throwable" "suppressedExceptions" "Ljava/util/List;") :: tS_1_264
def tS_1_262 : List Cond := (Jvm.Cond.fieldLink "java/lang/Throwable" (17 : Nat) "java/lang/Throwable" "stackTrace" "[Ljava/lang/StackTraceElement;") :: tS_1_263
def tS_1_261 : List Cond := (Jvm.Cond.fieldLink "java/lang/Throwable" (7 : Nat) "java/lang/Throwable" "cause" "Ljava/lang/Throwable;") :: tS_1_262
def tS_1_260 : List Cond := (Jvm.Cond.fieldLink "java/lang/Throwable" (31 : Nat) "java/lang/Throwable" "detailMessage" "Ljava/lang/String;") :: tS_1_261
def tS_1_259 : List Cond := (Jvm.Cond.fieldLink "java/lang/Throwable" (198 : Nat) "java/lang/Throwable" "backtrace" "Ljava/lang/Object;") :: tS_1_260
def tS_1_258 : List Cond := (Jvm.Cond.code ({ cls := "java/lang/Throwable", name := "<init>", desc := "(Ljava/lang/String;)V" } : Jvm.MethodName) prog_19_method_2_code (2 : Nat) (Option.none : Option Jvm.ClassFile.FieldType)) :: tS_1_259
def tS_1_257 : List Cond := (Jvm.Cond.instanceMethod ({ cls := "java/lang/Throwable", name := "<init>", desc := "(Ljava/lang/String;)V" } : Jvm.MethodName)) :: tS_1_258
def tS_1_256 : List Cond := (Jvm.Cond.methodLink "java/lang/Exception" (7 : Nat) ({ cls := "java/lang/Throwable", name := "<init>", desc := "(Ljava/lang/String;)V" } : Jvm.MethodName)) :: tS_1_257
def tS_1_255 : List Cond := (Jvm.Cond.code ({ cls := "java/lang/Exception", name := "<init>", desc := "(Ljava/lang/String;)V" } : Jvm.MethodName) prog_8_method_2_code (2 : Nat) (Option.none : Option Jvm.ClassFile.FieldType)) :: tS_1_256
def tS_1_254 : List Cond := (Jvm.Cond.instanceMethod ({ cls := "java/lang/Exception", name := "<init>", desc := "(Ljava/lang/String;)V" } : Jvm.MethodName)) :: tS_1_255
def tS_1_253 : List Cond := (Jvm.Cond.methodLink "java/lang/RuntimeException" (7 : Nat) ({ cls := "java/lang/Exception", name := "<init>", desc := "(Ljava/lang/String;)V" } : Jvm.MethodName)) :: tS_1_254
def tS_1_252 : List Cond := (Jvm.Cond.code ({ cls := "java/lang/RuntimeException", name := "<init>", desc := "(Ljava/lang/String;)V" } : Jvm.MethodName) prog_13_method_2_code (2 : Nat) (Option.none : Option Jvm.ClassFile.FieldType)) :: tS_1_253
def tS_1_251 : List Cond := (Jvm.Cond.instanceMethod ({ cls := "java/lang/RuntimeException", name := "<init>", desc := "(Ljava/lang/String;)V" } : Jvm.MethodName)) :: tS_1_252
def tS_1_250 : List Cond := (Jvm.Cond.methodLink "java/lang/IndexOutOfBoundsException" (7 : Nat) ({ cls := "java/lang/RuntimeException", name := "<init>", desc := "(Ljava/lang/String;)V" } : Jvm.MethodName)) :: tS_1_251
def tS_1_249 : List Cond := (Jvm.Cond.code ({ cls := "java/lang/IndexOutOfBoundsException", name := "<init>", desc := "(Ljava/lang/String;)V" } : Jvm.MethodName) prog_10_method_2_code (2 : Nat) (Option.none : Option Jvm.ClassFile.FieldType)) :: tS_1_250
def tS_1_248 : List Cond := (Jvm.Cond.instanceMethod ({ cls := "java/lang/IndexOutOfBoundsException", name := "<init>", desc := "(Ljava/lang/String;)V" } : Jvm.MethodName)) :: tS_1_249
def tS_1_247 : List Cond := (Jvm.Cond.methodLink "Runweaver" (289 : Nat) ({ cls := "java/lang/IndexOutOfBoundsException", name := "<init>", desc := "(Ljava/lang/String;)V" } : Jvm.MethodName)) :: tS_1_248
def tS_1_246 : List Cond := (Jvm.Cond.stringRef "Runweaver" (287 : Nat) "no such row") :: tS_1_247
def tS_1_245 : List Cond := (Jvm.Cond.native ({ cls := "java/lang/Throwable", name := "fillInStackTrace", desc := "(I)Ljava/lang/Throwable;" } : Jvm.MethodName)) :: tS_1_246
def tS_1_244 : List Cond := (Jvm.Cond.instantiable "java/lang/Throwable" (6 : Nat)) :: tS_1_245
def tS_1_243 : List Cond := (Jvm.Cond.instanceMethod ({ cls := "java/lang/Throwable", name := "fillInStackTrace", desc := "(I)Ljava/lang/Throwable;" } : Jvm.MethodName)) :: tS_1_244
def tS_1_242 : List Cond := (Jvm.Cond.privateMethod ({ cls := "java/lang/Throwable", name := "fillInStackTrace", desc := "(I)Ljava/lang/Throwable;" } : Jvm.MethodName)) :: tS_1_243
def tS_1_241 : List Cond := (Jvm.Cond.methodLink "java/lang/Throwable" (202 : Nat) ({ cls := "java/lang/Throwable", name := "fillInStackTrace", desc := "(I)Ljava/lang/Throwable;" } : Jvm.MethodName)) :: tS_1_242
def tS_1_240 : List Cond := (Jvm.Cond.codeSync ({ cls := "java/lang/Throwable", name := "fillInStackTrace", desc := "()Ljava/lang/Throwable;" } : Jvm.MethodName) prog_19_method_18_code (1 : Nat) (Option.some (Jvm.ClassFile.FieldType.object "java/lang/Throwable"))) :: tS_1_241
set_option maxRecDepth 100000 in
theorem tU_1 : tables_1_2 = tS_1_240 := rfl
theorem tV_1_240 {w : Cond} (h0 : w ∈ tS_1_240) : w ∈ lw_tbl := List.mem_append_left _ (List.mem_append_right _ (have h : w ∈ tables_1_2 := tU_1 ▸ h0; (List.mem_append_right _ (List.mem_append_left _ h) : w ∈ tables_1)))
theorem tV_1_241 {w : Cond} (h : w ∈ tS_1_241) : w ∈ lw_tbl := tV_1_240 (List.mem_cons_of_mem _ h)
theorem tV_1_242 {w : Cond} (h : w ∈ tS_1_242) : w ∈ lw_tbl := tV_1_241 (List.mem_cons_of_mem _ h)
theorem tV_1_243 {w : Cond} (h : w ∈ tS_1_243) : w ∈ lw_tbl := tV_1_242 (List.mem_cons_of_mem _ h)
theorem tV_1_244 {w : Cond} (h : w ∈ tS_1_244) : w ∈ lw_tbl := tV_1_243 (List.mem_cons_of_mem _ h)
theorem tV_1_245 {w : Cond} (h : w ∈ tS_1_245) : w ∈ lw_tbl := tV_1_244 (List.mem_cons_of_mem _ h)
theorem tV_1_246 {w : Cond} (h : w ∈ tS_1_246) : w ∈ lw_tbl := tV_1_245 (List.mem_cons_of_mem _ h)
theorem tV_1_247 {w : Cond} (h : w ∈ tS_1_247) : w ∈ lw_tbl := tV_1_246 (List.mem_cons_of_mem _ h)
theorem tV_1_248 {w : Cond} (h : w ∈ tS_1_248) : w ∈ lw_tbl := tV_1_247 (List.mem_cons_of_mem _ h)
theorem tV_1_249 {w : Cond} (h : w ∈ tS_1_249) : w ∈ lw_tbl := tV_1_248 (List.mem_cons_of_mem _ h)
theorem tV_1_250 {w : Cond} (h : w ∈ tS_1_250) : w ∈ lw_tbl := tV_1_249 (List.mem_cons_of_mem _ h)
theorem tV_1_251 {w : Cond} (h : w ∈ tS_1_251) : w ∈ lw_tbl := tV_1_250 (List.mem_cons_of_mem _ h)
theorem tV_1_252 {w : Cond} (h : w ∈ tS_1_252) : w ∈ lw_tbl := tV_1_251 (List.mem_cons_of_mem _ h)
theorem tV_1_253 {w : Cond} (h : w ∈ tS_1_253) : w ∈ lw_tbl := tV_1_252 (List.mem_cons_of_mem _ h)
theorem tV_1_254 {w : Cond} (h : w ∈ tS_1_254) : w ∈ lw_tbl := tV_1_253 (List.mem_cons_of_mem _ h)
theorem tV_1_255 {w : Cond} (h : w ∈ tS_1_255) : w ∈ lw_tbl := tV_1_254 (List.mem_cons_of_mem _ h)
theorem tV_1_256 {w : Cond} (h : w ∈ tS_1_256) : w ∈ lw_tbl := tV_1_255 (List.mem_cons_of_mem _ h)
theorem tV_1_257 {w : Cond} (h : w ∈ tS_1_257) : w ∈ lw_tbl := tV_1_256 (List.mem_cons_of_mem _ h)
theorem tV_1_258 {w : Cond} (h : w ∈ tS_1_258) : w ∈ lw_tbl := tV_1_257 (List.mem_cons_of_mem _ h)
theorem tV_1_259 {w : Cond} (h : w ∈ tS_1_259) : w ∈ lw_tbl := tV_1_258 (List.mem_cons_of_mem _ h)
theorem tV_1_260 {w : Cond} (h : w ∈ tS_1_260) : w ∈ lw_tbl := tV_1_259 (List.mem_cons_of_mem _ h)
theorem tV_1_261 {w : Cond} (h : w ∈ tS_1_261) : w ∈ lw_tbl := tV_1_260 (List.mem_cons_of_mem _ h)
theorem tV_1_262 {w : Cond} (h : w ∈ tS_1_262) : w ∈ lw_tbl := tV_1_261 (List.mem_cons_of_mem _ h)
theorem tV_1_263 {w : Cond} (h : w ∈ tS_1_263) : w ∈ lw_tbl := tV_1_262 (List.mem_cons_of_mem _ h)
theorem tV_1_264 {w : Cond} (h : w ∈ tS_1_264) : w ∈ lw_tbl := tV_1_263 (List.mem_cons_of_mem _ h)
theorem tV_1_265 {w : Cond} (h : w ∈ tS_1_265) : w ∈ lw_tbl := tV_1_264 (List.mem_cons_of_mem _ h)
theorem tV_1_266 {w : Cond} (h : w ∈ tS_1_266) : w ∈ lw_tbl := tV_1_265 (List.mem_cons_of_mem _ h)
theorem tV_1_267 {w : Cond} (h : w ∈ tS_1_267) : w ∈ lw_tbl := tV_1_266 (List.mem_cons_of_mem _ h)
theorem tV_1_268 {w : Cond} (h : w ∈ tS_1_268) : w ∈ lw_tbl := tV_1_267 (List.mem_cons_of_mem _ h)
theorem tV_1_269 {w : Cond} (h : w ∈ tS_1_269) : w ∈ lw_tbl := tV_1_268 (List.mem_cons_of_mem _ h)
theorem tV_1_270 {w : Cond} (h : w ∈ tS_1_270) : w ∈ lw_tbl := tV_1_269 (List.mem_cons_of_mem _ h)
theorem tV_1_271 {w : Cond} (h : w ∈ tS_1_271) : w ∈ lw_tbl := tV_1_270 (List.mem_cons_of_mem _ h)
theorem tV_1_272 {w : Cond} (h : w ∈ tS_1_272) : w ∈ lw_tbl := tV_1_271 (List.mem_cons_of_mem _ h)
theorem tV_1_273 {w : Cond} (h : w ∈ tS_1_273) : w ∈ lw_tbl := tV_1_272 (List.mem_cons_of_mem _ h)
theorem tV_1_274 {w : Cond} (h : w ∈ tS_1_274) : w ∈ lw_tbl := tV_1_273 (List.mem_cons_of_mem _ h)
theorem tV_1_275 {w : Cond} (h : w ∈ tS_1_275) : w ∈ lw_tbl := tV_1_274 (List.mem_cons_of_mem _ h)
theorem tV_1_276 {w : Cond} (h : w ∈ tS_1_276) : w ∈ lw_tbl := tV_1_275 (List.mem_cons_of_mem _ h)
theorem tV_1_277 {w : Cond} (h : w ∈ tS_1_277) : w ∈ lw_tbl := tV_1_276 (List.mem_cons_of_mem _ h)
theorem tV_1_278 {w : Cond} (h : w ∈ tS_1_278) : w ∈ lw_tbl := tV_1_277 (List.mem_cons_of_mem _ h)
theorem tV_1_279 {w : Cond} (h : w ∈ tS_1_279) : w ∈ lw_tbl := tV_1_278 (List.mem_cons_of_mem _ h)
theorem tV_1_280 {w : Cond} (h : w ∈ tS_1_280) : w ∈ lw_tbl := tV_1_279 (List.mem_cons_of_mem _ h)
theorem tV_1_281 {w : Cond} (h : w ∈ tS_1_281) : w ∈ lw_tbl := tV_1_280 (List.mem_cons_of_mem _ h)
theorem tV_1_282 {w : Cond} (h : w ∈ tS_1_282) : w ∈ lw_tbl := tV_1_281 (List.mem_cons_of_mem _ h)
theorem tV_1_283 {w : Cond} (h : w ∈ tS_1_283) : w ∈ lw_tbl := tV_1_282 (List.mem_cons_of_mem _ h)
theorem tV_1_284 {w : Cond} (h : w ∈ tS_1_284) : w ∈ lw_tbl := tV_1_283 (List.mem_cons_of_mem _ h)
theorem tV_1_285 {w : Cond} (h : w ∈ tS_1_285) : w ∈ lw_tbl := tV_1_284 (List.mem_cons_of_mem _ h)
theorem tV_1_286 {w : Cond} (h : w ∈ tS_1_286) : w ∈ lw_tbl := tV_1_285 (List.mem_cons_of_mem _ h)
theorem tV_1_287 {w : Cond} (h : w ∈ tS_1_287) : w ∈ lw_tbl := tV_1_286 (List.mem_cons_of_mem _ h)
theorem tV_1_288 {w : Cond} (h : w ∈ tS_1_288) : w ∈ lw_tbl := tV_1_287 (List.mem_cons_of_mem _ h)
theorem tV_1_289 {w : Cond} (h : w ∈ tS_1_289) : w ∈ lw_tbl := tV_1_288 (List.mem_cons_of_mem _ h)
theorem tV_1_290 {w : Cond} (h : w ∈ tS_1_290) : w ∈ lw_tbl := tV_1_289 (List.mem_cons_of_mem _ h)
theorem tV_1_291 {w : Cond} (h : w ∈ tS_1_291) : w ∈ lw_tbl := tV_1_290 (List.mem_cons_of_mem _ h)
theorem tV_1_292 {w : Cond} (h : w ∈ tS_1_292) : w ∈ lw_tbl := tV_1_291 (List.mem_cons_of_mem _ h)
theorem tV_1_293 {w : Cond} (h : w ∈ tS_1_293) : w ∈ lw_tbl := tV_1_292 (List.mem_cons_of_mem _ h)
theorem tV_1_294 {w : Cond} (h : w ∈ tS_1_294) : w ∈ lw_tbl := tV_1_293 (List.mem_cons_of_mem _ h)
theorem tV_1_295 {w : Cond} (h : w ∈ tS_1_295) : w ∈ lw_tbl := tV_1_294 (List.mem_cons_of_mem _ h)
theorem tV_1_296 {w : Cond} (h : w ∈ tS_1_296) : w ∈ lw_tbl := tV_1_295 (List.mem_cons_of_mem _ h)
theorem tV_1_297 {w : Cond} (h : w ∈ tS_1_297) : w ∈ lw_tbl := tV_1_296 (List.mem_cons_of_mem _ h)
theorem tV_1_298 {w : Cond} (h : w ∈ tS_1_298) : w ∈ lw_tbl := tV_1_297 (List.mem_cons_of_mem _ h)
theorem tV_1_299 {w : Cond} (h : w ∈ tS_1_299) : w ∈ lw_tbl := tV_1_298 (List.mem_cons_of_mem _ h)
theorem tV_1_300 {w : Cond} (h : w ∈ tS_1_300) : w ∈ lw_tbl := tV_1_299 (List.mem_cons_of_mem _ h)
theorem tV_1_301 {w : Cond} (h : w ∈ tS_1_301) : w ∈ lw_tbl := tV_1_300 (List.mem_cons_of_mem _ h)
theorem tV_1_302 {w : Cond} (h : w ∈ tS_1_302) : w ∈ lw_tbl := tV_1_301 (List.mem_cons_of_mem _ h)
theorem tV_1_303 {w : Cond} (h : w ∈ tS_1_303) : w ∈ lw_tbl := tV_1_302 (List.mem_cons_of_mem _ h)
theorem tV_1_304 {w : Cond} (h : w ∈ tS_1_304) : w ∈ lw_tbl := tV_1_303 (List.mem_cons_of_mem _ h)
theorem tV_1_305 {w : Cond} (h : w ∈ tS_1_305) : w ∈ lw_tbl := tV_1_304 (List.mem_cons_of_mem _ h)
theorem tV_1_306 {w : Cond} (h : w ∈ tS_1_306) : w ∈ lw_tbl := tV_1_305 (List.mem_cons_of_mem _ h)
theorem tV_1_307 {w : Cond} (h : w ∈ tS_1_307) : w ∈ lw_tbl := tV_1_306 (List.mem_cons_of_mem _ h)
theorem tV_1_308 {w : Cond} (h : w ∈ tS_1_308) : w ∈ lw_tbl := tV_1_307 (List.mem_cons_of_mem _ h)
theorem tV_1_309 {w : Cond} (h : w ∈ tS_1_309) : w ∈ lw_tbl := tV_1_308 (List.mem_cons_of_mem _ h)
theorem tV_1_310 {w : Cond} (h : w ∈ tS_1_310) : w ∈ lw_tbl := tV_1_309 (List.mem_cons_of_mem _ h)
theorem tV_1_311 {w : Cond} (h : w ∈ tS_1_311) : w ∈ lw_tbl := tV_1_310 (List.mem_cons_of_mem _ h)
theorem tV_1_312 {w : Cond} (h : w ∈ tS_1_312) : w ∈ lw_tbl := tV_1_311 (List.mem_cons_of_mem _ h)
theorem tV_1_313 {w : Cond} (h : w ∈ tS_1_313) : w ∈ lw_tbl := tV_1_312 (List.mem_cons_of_mem _ h)
theorem tV_1_314 {w : Cond} (h : w ∈ tS_1_314) : w ∈ lw_tbl := tV_1_313 (List.mem_cons_of_mem _ h)
theorem tV_1_315 {w : Cond} (h : w ∈ tS_1_315) : w ∈ lw_tbl := tV_1_314 (List.mem_cons_of_mem _ h)
theorem tV_1_316 {w : Cond} (h : w ∈ tS_1_316) : w ∈ lw_tbl := tV_1_315 (List.mem_cons_of_mem _ h)
theorem tV_1_317 {w : Cond} (h : w ∈ tS_1_317) : w ∈ lw_tbl := tV_1_316 (List.mem_cons_of_mem _ h)
theorem tV_1_318 {w : Cond} (h : w ∈ tS_1_318) : w ∈ lw_tbl := tV_1_317 (List.mem_cons_of_mem _ h)
theorem tV_1_319 {w : Cond} (h : w ∈ tS_1_319) : w ∈ lw_tbl := tV_1_318 (List.mem_cons_of_mem _ h)
theorem tV_1_320 {w : Cond} (h : w ∈ tS_1_320) : w ∈ lw_tbl := tV_1_319 (List.mem_cons_of_mem _ h)
theorem tV_1_321 {w : Cond} (h : w ∈ tS_1_321) : w ∈ lw_tbl := tV_1_320 (List.mem_cons_of_mem _ h)
theorem tV_1_322 {w : Cond} (h : w ∈ tS_1_322) : w ∈ lw_tbl := tV_1_321 (List.mem_cons_of_mem _ h)
theorem tV_1_323 {w : Cond} (h : w ∈ tS_1_323) : w ∈ lw_tbl := tV_1_322 (List.mem_cons_of_mem _ h)
theorem tV_1_324 {w : Cond} (h : w ∈ tS_1_324) : w ∈ lw_tbl := tV_1_323 (List.mem_cons_of_mem _ h)
theorem tV_1_325 {w : Cond} (h : w ∈ tS_1_325) : w ∈ lw_tbl := tV_1_324 (List.mem_cons_of_mem _ h)
theorem tV_1_326 {w : Cond} (h : w ∈ tS_1_326) : w ∈ lw_tbl := tV_1_325 (List.mem_cons_of_mem _ h)
theorem tV_1_327 {w : Cond} (h : w ∈ tS_1_327) : w ∈ lw_tbl := tV_1_326 (List.mem_cons_of_mem _ h)
theorem tV_1_328 {w : Cond} (h : w ∈ tS_1_328) : w ∈ lw_tbl := tV_1_327 (List.mem_cons_of_mem _ h)
theorem tV_1_329 {w : Cond} (h : w ∈ tS_1_329) : w ∈ lw_tbl := tV_1_328 (List.mem_cons_of_mem _ h)
theorem tV_1_330 {w : Cond} (h : w ∈ tS_1_330) : w ∈ lw_tbl := tV_1_329 (List.mem_cons_of_mem _ h)
theorem tV_1_331 {w : Cond} (h : w ∈ tS_1_331) : w ∈ lw_tbl := tV_1_330 (List.mem_cons_of_mem _ h)
theorem tV_1_332 {w : Cond} (h : w ∈ tS_1_332) : w ∈ lw_tbl := tV_1_331 (List.mem_cons_of_mem _ h)
theorem tV_1_333 {w : Cond} (h : w ∈ tS_1_333) : w ∈ lw_tbl := tV_1_332 (List.mem_cons_of_mem _ h)
theorem tV_1_334 {w : Cond} (h : w ∈ tS_1_334) : w ∈ lw_tbl := tV_1_333 (List.mem_cons_of_mem _ h)
theorem tV_1_335 {w : Cond} (h : w ∈ tS_1_335) : w ∈ lw_tbl := tV_1_334 (List.mem_cons_of_mem _ h)
theorem tV_1_336 {w : Cond} (h : w ∈ tS_1_336) : w ∈ lw_tbl := tV_1_335 (List.mem_cons_of_mem _ h)
theorem tV_1_337 {w : Cond} (h : w ∈ tS_1_337) : w ∈ lw_tbl := tV_1_336 (List.mem_cons_of_mem _ h)
theorem tV_1_338 {w : Cond} (h : w ∈ tS_1_338) : w ∈ lw_tbl := tV_1_337 (List.mem_cons_of_mem _ h)
theorem tV_1_339 {w : Cond} (h : w ∈ tS_1_339) : w ∈ lw_tbl := tV_1_338 (List.mem_cons_of_mem _ h)
theorem tV_1_340 {w : Cond} (h : w ∈ tS_1_340) : w ∈ lw_tbl := tV_1_339 (List.mem_cons_of_mem _ h)
theorem tV_1_341 {w : Cond} (h : w ∈ tS_1_341) : w ∈ lw_tbl := tV_1_340 (List.mem_cons_of_mem _ h)
theorem tV_1_342 {w : Cond} (h : w ∈ tS_1_342) : w ∈ lw_tbl := tV_1_341 (List.mem_cons_of_mem _ h)
theorem tV_1_343 {w : Cond} (h : w ∈ tS_1_343) : w ∈ lw_tbl := tV_1_342 (List.mem_cons_of_mem _ h)
theorem tV_1_344 {w : Cond} (h : w ∈ tS_1_344) : w ∈ lw_tbl := tV_1_343 (List.mem_cons_of_mem _ h)
theorem tV_1_345 {w : Cond} (h : w ∈ tS_1_345) : w ∈ lw_tbl := tV_1_344 (List.mem_cons_of_mem _ h)
theorem tV_1_346 {w : Cond} (h : w ∈ tS_1_346) : w ∈ lw_tbl := tV_1_345 (List.mem_cons_of_mem _ h)
theorem tV_1_347 {w : Cond} (h : w ∈ tS_1_347) : w ∈ lw_tbl := tV_1_346 (List.mem_cons_of_mem _ h)
theorem tV_1_348 {w : Cond} (h : w ∈ tS_1_348) : w ∈ lw_tbl := tV_1_347 (List.mem_cons_of_mem _ h)
theorem tV_1_349 {w : Cond} (h : w ∈ tS_1_349) : w ∈ lw_tbl := tV_1_348 (List.mem_cons_of_mem _ h)
theorem tV_1_350 {w : Cond} (h : w ∈ tS_1_350) : w ∈ lw_tbl := tV_1_349 (List.mem_cons_of_mem _ h)
theorem tV_1_351 {w : Cond} (h : w ∈ tS_1_351) : w ∈ lw_tbl := tV_1_350 (List.mem_cons_of_mem _ h)
theorem tV_1_352 {w : Cond} (h : w ∈ tS_1_352) : w ∈ lw_tbl := tV_1_351 (List.mem_cons_of_mem _ h)
theorem tV_1_353 {w : Cond} (h : w ∈ tS_1_353) : w ∈ lw_tbl := tV_1_352 (List.mem_cons_of_mem _ h)
theorem tV_1_354 {w : Cond} (h : w ∈ tS_1_354) : w ∈ lw_tbl := tV_1_353 (List.mem_cons_of_mem _ h)
theorem tV_1_355 {w : Cond} (h : w ∈ tS_1_355) : w ∈ lw_tbl := tV_1_354 (List.mem_cons_of_mem _ h)
theorem tV_1_356 {w : Cond} (h : w ∈ tS_1_356) : w ∈ lw_tbl := tV_1_355 (List.mem_cons_of_mem _ h)
theorem tV_1_357 {w : Cond} (h : w ∈ tS_1_357) : w ∈ lw_tbl := tV_1_356 (List.mem_cons_of_mem _ h)
theorem tV_1_358 {w : Cond} (h : w ∈ tS_1_358) : w ∈ lw_tbl := tV_1_357 (List.mem_cons_of_mem _ h)
theorem tV_1_359 {w : Cond} (h : w ∈ tS_1_359) : w ∈ lw_tbl := tV_1_358 (List.mem_cons_of_mem _ h)
theorem tV_1_360 {w : Cond} (h : w ∈ tS_1_360) : w ∈ lw_tbl := tV_1_359 (List.mem_cons_of_mem _ h)
theorem tV_1_361 {w : Cond} (h : w ∈ tS_1_361) : w ∈ lw_tbl := tV_1_360 (List.mem_cons_of_mem _ h)
theorem tV_1_362 {w : Cond} (h : w ∈ tS_1_362) : w ∈ lw_tbl := tV_1_361 (List.mem_cons_of_mem _ h)
theorem tV_1_363 {w : Cond} (h : w ∈ tS_1_363) : w ∈ lw_tbl := tV_1_362 (List.mem_cons_of_mem _ h)
theorem tV_1_364 {w : Cond} (h : w ∈ tS_1_364) : w ∈ lw_tbl := tV_1_363 (List.mem_cons_of_mem _ h)
theorem tV_1_365 {w : Cond} (h : w ∈ tS_1_365) : w ∈ lw_tbl := tV_1_364 (List.mem_cons_of_mem _ h)
theorem tV_1_366 {w : Cond} (h : w ∈ tS_1_366) : w ∈ lw_tbl := tV_1_365 (List.mem_cons_of_mem _ h)
theorem tV_1_367 {w : Cond} (h : w ∈ tS_1_367) : w ∈ lw_tbl := tV_1_366 (List.mem_cons_of_mem _ h)
theorem tV_1_368 {w : Cond} (h : w ∈ tS_1_368) : w ∈ lw_tbl := tV_1_367 (List.mem_cons_of_mem _ h)
theorem tV_1_369 {w : Cond} (h : w ∈ tS_1_369) : w ∈ lw_tbl := tV_1_368 (List.mem_cons_of_mem _ h)
theorem tV_1_370 {w : Cond} (h : w ∈ tS_1_370) : w ∈ lw_tbl := tV_1_369 (List.mem_cons_of_mem _ h)
theorem tV_1_371 {w : Cond} (h : w ∈ tS_1_371) : w ∈ lw_tbl := tV_1_370 (List.mem_cons_of_mem _ h)
theorem tV_1_372 {w : Cond} (h : w ∈ tS_1_372) : w ∈ lw_tbl := tV_1_371 (List.mem_cons_of_mem _ h)
theorem tV_1_373 {w : Cond} (h : w ∈ tS_1_373) : w ∈ lw_tbl := tV_1_372 (List.mem_cons_of_mem _ h)
theorem tV_1_374 {w : Cond} (h : w ∈ tS_1_374) : w ∈ lw_tbl := tV_1_373 (List.mem_cons_of_mem _ h)
theorem tV_1_375 {w : Cond} (h : w ∈ tS_1_375) : w ∈ lw_tbl := tV_1_374 (List.mem_cons_of_mem _ h)
theorem tV_1_376 {w : Cond} (h : w ∈ tS_1_376) : w ∈ lw_tbl := tV_1_375 (List.mem_cons_of_mem _ h)
theorem tV_1_377 {w : Cond} (h : w ∈ tS_1_377) : w ∈ lw_tbl := tV_1_376 (List.mem_cons_of_mem _ h)
theorem tV_1_378 {w : Cond} (h : w ∈ tS_1_378) : w ∈ lw_tbl := tV_1_377 (List.mem_cons_of_mem _ h)
theorem tV_1_379 {w : Cond} (h : w ∈ tS_1_379) : w ∈ lw_tbl := tV_1_378 (List.mem_cons_of_mem _ h)
theorem tV_1_380 {w : Cond} (h : w ∈ tS_1_380) : w ∈ lw_tbl := tV_1_379 (List.mem_cons_of_mem _ h)
theorem tV_1_381 {w : Cond} (h : w ∈ tS_1_381) : w ∈ lw_tbl := tV_1_380 (List.mem_cons_of_mem _ h)
theorem tV_1_382 {w : Cond} (h : w ∈ tS_1_382) : w ∈ lw_tbl := tV_1_381 (List.mem_cons_of_mem _ h)
theorem tV_1_383 {w : Cond} (h : w ∈ tS_1_383) : w ∈ lw_tbl := tV_1_382 (List.mem_cons_of_mem _ h)
theorem tV_1_384 {w : Cond} (h : w ∈ tS_1_384) : w ∈ lw_tbl := tV_1_383 (List.mem_cons_of_mem _ h)
theorem tV_1_385 {w : Cond} (h : w ∈ tS_1_385) : w ∈ lw_tbl := tV_1_384 (List.mem_cons_of_mem _ h)
theorem tV_1_386 {w : Cond} (h : w ∈ tS_1_386) : w ∈ lw_tbl := tV_1_385 (List.mem_cons_of_mem _ h)
theorem tV_1_387 {w : Cond} (h : w ∈ tS_1_387) : w ∈ lw_tbl := tV_1_386 (List.mem_cons_of_mem _ h)
theorem tV_1_388 {w : Cond} (h : w ∈ tS_1_388) : w ∈ lw_tbl := tV_1_387 (List.mem_cons_of_mem _ h)
theorem tV_1_389 {w : Cond} (h : w ∈ tS_1_389) : w ∈ lw_tbl := tV_1_388 (List.mem_cons_of_mem _ h)
theorem tV_1_390 {w : Cond} (h : w ∈ tS_1_390) : w ∈ lw_tbl := tV_1_389 (List.mem_cons_of_mem _ h)
theorem tV_1_391 {w : Cond} (h : w ∈ tS_1_391) : w ∈ lw_tbl := tV_1_390 (List.mem_cons_of_mem _ h)
theorem tV_1_392 {w : Cond} (h : w ∈ tS_1_392) : w ∈ lw_tbl := tV_1_391 (List.mem_cons_of_mem _ h)
theorem tV_1_393 {w : Cond} (h : w ∈ tS_1_393) : w ∈ lw_tbl := tV_1_392 (List.mem_cons_of_mem _ h)
theorem tV_1_394 {w : Cond} (h : w ∈ tS_1_394) : w ∈ lw_tbl := tV_1_393 (List.mem_cons_of_mem _ h)
theorem tV_1_395 {w : Cond} (h : w ∈ tS_1_395) : w ∈ lw_tbl := tV_1_394 (List.mem_cons_of_mem _ h)
theorem tV_1_396 {w : Cond} (h : w ∈ tS_1_396) : w ∈ lw_tbl := tV_1_395 (List.mem_cons_of_mem _ h)
theorem tV_1_397 {w : Cond} (h : w ∈ tS_1_397) : w ∈ lw_tbl := tV_1_396 (List.mem_cons_of_mem _ h)
theorem tV_1_398 {w : Cond} (h : w ∈ tS_1_398) : w ∈ lw_tbl := tV_1_397 (List.mem_cons_of_mem _ h)
theorem tV_1_399 {w : Cond} (h : w ∈ tS_1_399) : w ∈ lw_tbl := tV_1_398 (List.mem_cons_of_mem _ h)
theorem tV_1_400 {w : Cond} (h : w ∈ tS_1_400) : w ∈ lw_tbl := tV_1_399 (List.mem_cons_of_mem _ h)
theorem tV_1_401 {w : Cond} (h : w ∈ tS_1_401) : w ∈ lw_tbl := tV_1_400 (List.mem_cons_of_mem _ h)
theorem tV_1_402 {w : Cond} (h : w ∈ tS_1_402) : w ∈ lw_tbl := tV_1_401 (List.mem_cons_of_mem _ h)
theorem tV_1_403 {w : Cond} (h : w ∈ tS_1_403) : w ∈ lw_tbl := tV_1_402 (List.mem_cons_of_mem _ h)
theorem tV_1_404 {w : Cond} (h : w ∈ tS_1_404) : w ∈ lw_tbl := tV_1_403 (List.mem_cons_of_mem _ h)
theorem tV_1_405 {w : Cond} (h : w ∈ tS_1_405) : w ∈ lw_tbl := tV_1_404 (List.mem_cons_of_mem _ h)
theorem tV_1_406 {w : Cond} (h : w ∈ tS_1_406) : w ∈ lw_tbl := tV_1_405 (List.mem_cons_of_mem _ h)
theorem tV_1_407 {w : Cond} (h : w ∈ tS_1_407) : w ∈ lw_tbl := tV_1_406 (List.mem_cons_of_mem _ h)
theorem tV_1_408 {w : Cond} (h : w ∈ tS_1_408) : w ∈ lw_tbl := tV_1_407 (List.mem_cons_of_mem _ h)
theorem tV_1_409 {w : Cond} (h : w ∈ tS_1_409) : w ∈ lw_tbl := tV_1_408 (List.mem_cons_of_mem _ h)
theorem tV_1_410 {w : Cond} (h : w ∈ tS_1_410) : w ∈ lw_tbl := tV_1_409 (List.mem_cons_of_mem _ h)
theorem tV_1_411 {w : Cond} (h : w ∈ tS_1_411) : w ∈ lw_tbl := tV_1_410 (List.mem_cons_of_mem _ h)
theorem tV_1_412 {w : Cond} (h : w ∈ tS_1_412) : w ∈ lw_tbl := tV_1_411 (List.mem_cons_of_mem _ h)
theorem tV_1_413 {w : Cond} (h : w ∈ tS_1_413) : w ∈ lw_tbl := tV_1_412 (List.mem_cons_of_mem _ h)
theorem tV_1_414 {w : Cond} (h : w ∈ tS_1_414) : w ∈ lw_tbl := tV_1_413 (List.mem_cons_of_mem _ h)
theorem tV_1_415 {w : Cond} (h : w ∈ tS_1_415) : w ∈ lw_tbl := tV_1_414 (List.mem_cons_of_mem _ h)
theorem tV_1_416 {w : Cond} (h : w ∈ tS_1_416) : w ∈ lw_tbl := tV_1_415 (List.mem_cons_of_mem _ h)
theorem tV_1_417 {w : Cond} (h : w ∈ tS_1_417) : w ∈ lw_tbl := tV_1_416 (List.mem_cons_of_mem _ h)
theorem tV_1_418 {w : Cond} (h : w ∈ tS_1_418) : w ∈ lw_tbl := tV_1_417 (List.mem_cons_of_mem _ h)
theorem tV_1_419 {w : Cond} (h : w ∈ tS_1_419) : w ∈ lw_tbl := tV_1_418 (List.mem_cons_of_mem _ h)
theorem tV_1_420 {w : Cond} (h : w ∈ tS_1_420) : w ∈ lw_tbl := tV_1_419 (List.mem_cons_of_mem _ h)
theorem tV_1_421 {w : Cond} (h : w ∈ tS_1_421) : w ∈ lw_tbl := tV_1_420 (List.mem_cons_of_mem _ h)
theorem tV_1_422 {w : Cond} (h : w ∈ tS_1_422) : w ∈ lw_tbl := tV_1_421 (List.mem_cons_of_mem _ h)
theorem tV_1_423 {w : Cond} (h : w ∈ tS_1_423) : w ∈ lw_tbl := tV_1_422 (List.mem_cons_of_mem _ h)
theorem tV_1_424 {w : Cond} (h : w ∈ tS_1_424) : w ∈ lw_tbl := tV_1_423 (List.mem_cons_of_mem _ h)
theorem tV_1_425 {w : Cond} (h : w ∈ tS_1_425) : w ∈ lw_tbl := tV_1_424 (List.mem_cons_of_mem _ h)
theorem tV_1_426 {w : Cond} (h : w ∈ tS_1_426) : w ∈ lw_tbl := tV_1_425 (List.mem_cons_of_mem _ h)
theorem tV_1_427 {w : Cond} (h : w ∈ tS_1_427) : w ∈ lw_tbl := tV_1_426 (List.mem_cons_of_mem _ h)
theorem tV_1_428 {w : Cond} (h : w ∈ tS_1_428) : w ∈ lw_tbl := tV_1_427 (List.mem_cons_of_mem _ h)
theorem tV_1_429 {w : Cond} (h : w ∈ tS_1_429) : w ∈ lw_tbl := tV_1_428 (List.mem_cons_of_mem _ h)
theorem tV_1_430 {w : Cond} (h : w ∈ tS_1_430) : w ∈ lw_tbl := tV_1_429 (List.mem_cons_of_mem _ h)
theorem tV_1_431 {w : Cond} (h : w ∈ tS_1_431) : w ∈ lw_tbl := tV_1_430 (List.mem_cons_of_mem _ h)
theorem tV_1_432 {w : Cond} (h : w ∈ tS_1_432) : w ∈ lw_tbl := tV_1_431 (List.mem_cons_of_mem _ h)
theorem tV_1_433 {w : Cond} (h : w ∈ tS_1_433) : w ∈ lw_tbl := tV_1_432 (List.mem_cons_of_mem _ h)
theorem tV_1_434 {w : Cond} (h : w ∈ tS_1_434) : w ∈ lw_tbl := tV_1_433 (List.mem_cons_of_mem _ h)
theorem tV_1_435 {w : Cond} (h : w ∈ tS_1_435) : w ∈ lw_tbl := tV_1_434 (List.mem_cons_of_mem _ h)
theorem tV_1_436 {w : Cond} (h : w ∈ tS_1_436) : w ∈ lw_tbl := tV_1_435 (List.mem_cons_of_mem _ h)
theorem tV_1_437 {w : Cond} (h : w ∈ tS_1_437) : w ∈ lw_tbl := tV_1_436 (List.mem_cons_of_mem _ h)
theorem tV_1_438 {w : Cond} (h : w ∈ tS_1_438) : w ∈ lw_tbl := tV_1_437 (List.mem_cons_of_mem _ h)
theorem tV_1_439 {w : Cond} (h : w ∈ tS_1_439) : w ∈ lw_tbl := tV_1_438 (List.mem_cons_of_mem _ h)
theorem tV_1_440 {w : Cond} (h : w ∈ tS_1_440) : w ∈ lw_tbl := tV_1_439 (List.mem_cons_of_mem _ h)
theorem tV_1_441 {w : Cond} (h : w ∈ tS_1_441) : w ∈ lw_tbl := tV_1_440 (List.mem_cons_of_mem _ h)
theorem tV_1_442 {w : Cond} (h : w ∈ tS_1_442) : w ∈ lw_tbl := tV_1_441 (List.mem_cons_of_mem _ h)
theorem tV_1_443 {w : Cond} (h : w ∈ tS_1_443) : w ∈ lw_tbl := tV_1_442 (List.mem_cons_of_mem _ h)
theorem tV_1_444 {w : Cond} (h : w ∈ tS_1_444) : w ∈ lw_tbl := tV_1_443 (List.mem_cons_of_mem _ h)
theorem tV_1_445 {w : Cond} (h : w ∈ tS_1_445) : w ∈ lw_tbl := tV_1_444 (List.mem_cons_of_mem _ h)
theorem tV_1_446 {w : Cond} (h : w ∈ tS_1_446) : w ∈ lw_tbl := tV_1_445 (List.mem_cons_of_mem _ h)
theorem tV_1_447 {w : Cond} (h : w ∈ tS_1_447) : w ∈ lw_tbl := tV_1_446 (List.mem_cons_of_mem _ h)
theorem tV_1_448 {w : Cond} (h : w ∈ tS_1_448) : w ∈ lw_tbl := tV_1_447 (List.mem_cons_of_mem _ h)
theorem tV_1_449 {w : Cond} (h : w ∈ tS_1_449) : w ∈ lw_tbl := tV_1_448 (List.mem_cons_of_mem _ h)
theorem tV_1_450 {w : Cond} (h : w ∈ tS_1_450) : w ∈ lw_tbl := tV_1_449 (List.mem_cons_of_mem _ h)
theorem tV_1_451 {w : Cond} (h : w ∈ tS_1_451) : w ∈ lw_tbl := tV_1_450 (List.mem_cons_of_mem _ h)
theorem tV_1_452 {w : Cond} (h : w ∈ tS_1_452) : w ∈ lw_tbl := tV_1_451 (List.mem_cons_of_mem _ h)
theorem tV_1_453 {w : Cond} (h : w ∈ tS_1_453) : w ∈ lw_tbl := tV_1_452 (List.mem_cons_of_mem _ h)
theorem tV_1_454 {w : Cond} (h : w ∈ tS_1_454) : w ∈ lw_tbl := tV_1_453 (List.mem_cons_of_mem _ h)
theorem tV_1_455 {w : Cond} (h : w ∈ tS_1_455) : w ∈ lw_tbl := tV_1_454 (List.mem_cons_of_mem _ h)
theorem tV_1_456 {w : Cond} (h : w ∈ tS_1_456) : w ∈ lw_tbl := tV_1_455 (List.mem_cons_of_mem _ h)
theorem tV_1_457 {w : Cond} (h : w ∈ tS_1_457) : w ∈ lw_tbl := tV_1_456 (List.mem_cons_of_mem _ h)
theorem tV_1_458 {w : Cond} (h : w ∈ tS_1_458) : w ∈ lw_tbl := tV_1_457 (List.mem_cons_of_mem _ h)
theorem tV_1_459 {w : Cond} (h : w ∈ tS_1_459) : w ∈ lw_tbl := tV_1_458 (List.mem_cons_of_mem _ h)
theorem tV_1_460 {w : Cond} (h : w ∈ tS_1_460) : w ∈ lw_tbl := tV_1_459 (List.mem_cons_of_mem _ h)
theorem tV_1_461 {w : Cond} (h : w ∈ tS_1_461) : w ∈ lw_tbl := tV_1_460 (List.mem_cons_of_mem _ h)
theorem tV_1_462 {w : Cond} (h : w ∈ tS_1_462) : w ∈ lw_tbl := tV_1_461 (List.mem_cons_of_mem _ h)
theorem tV_1_463 {w : Cond} (h : w ∈ tS_1_463) : w ∈ lw_tbl := tV_1_462 (List.mem_cons_of_mem _ h)
theorem tV_1_464 {w : Cond} (h : w ∈ tS_1_464) : w ∈ lw_tbl := tV_1_463 (List.mem_cons_of_mem _ h)
theorem tV_1_465 {w : Cond} (h : w ∈ tS_1_465) : w ∈ lw_tbl := tV_1_464 (List.mem_cons_of_mem _ h)
theorem tV_1_466 {w : Cond} (h : w ∈ tS_1_466) : w ∈ lw_tbl := tV_1_465 (List.mem_cons_of_mem _ h)
theorem tV_1_467 {w : Cond} (h : w ∈ tS_1_467) : w ∈ lw_tbl := tV_1_466 (List.mem_cons_of_mem _ h)
theorem tV_1_468 {w : Cond} (h : w ∈ tS_1_468) : w ∈ lw_tbl := tV_1_467 (List.mem_cons_of_mem _ h)
theorem tV_1_469 {w : Cond} (h : w ∈ tS_1_469) : w ∈ lw_tbl := tV_1_468 (List.mem_cons_of_mem _ h)
theorem tV_1_470 {w : Cond} (h : w ∈ tS_1_470) : w ∈ lw_tbl := tV_1_469 (List.mem_cons_of_mem _ h)
theorem tV_1_471 {w : Cond} (h : w ∈ tS_1_471) : w ∈ lw_tbl := tV_1_470 (List.mem_cons_of_mem _ h)
theorem tV_1_472 {w : Cond} (h : w ∈ tS_1_472) : w ∈ lw_tbl := tV_1_471 (List.mem_cons_of_mem _ h)
theorem tV_1_473 {w : Cond} (h : w ∈ tS_1_473) : w ∈ lw_tbl := tV_1_472 (List.mem_cons_of_mem _ h)
theorem tV_1_474 {w : Cond} (h : w ∈ tS_1_474) : w ∈ lw_tbl := tV_1_473 (List.mem_cons_of_mem _ h)
theorem tV_1_475 {w : Cond} (h : w ∈ tS_1_475) : w ∈ lw_tbl := tV_1_474 (List.mem_cons_of_mem _ h)
theorem tV_1_476 {w : Cond} (h : w ∈ tS_1_476) : w ∈ lw_tbl := tV_1_475 (List.mem_cons_of_mem _ h)
theorem tV_1_477 {w : Cond} (h : w ∈ tS_1_477) : w ∈ lw_tbl := tV_1_476 (List.mem_cons_of_mem _ h)
theorem tV_1_478 {w : Cond} (h : w ∈ tS_1_478) : w ∈ lw_tbl := tV_1_477 (List.mem_cons_of_mem _ h)
theorem tV_1_479 {w : Cond} (h : w ∈ tS_1_479) : w ∈ lw_tbl := tV_1_478 (List.mem_cons_of_mem _ h)
def tS_2_720 : List Cond := []
def tS_2_719 : List Cond := (Jvm.Cond.methodLink "java/lang/AbstractStringBuilder" (245 : Nat) ({ cls := "java/lang/Integer", name := "stringSize", desc := "(I)I" } : Jvm.MethodName)) :: tS_2_720
def tS_2_718 : List Cond := (Jvm.Cond.code ({ cls := "java/lang/AbstractStringBuilder", name := "append", desc := "(I)Ljava/lang/AbstractStringBuilder;" } : Jvm.MethodName) prog_6_method_32_code (4 : Nat) (Option.some (Jvm.ClassFile.FieldType.object "java/lang/AbstractStringBuilder"))) :: tS_2_719
def tS_2_717 : List Cond := (Jvm.Cond.instanceMethod ({ cls := "java/lang/AbstractStringBuilder", name := "append", desc := "(I)Ljava/lang/AbstractStringBuilder;" } : Jvm.MethodName)) :: tS_2_718
def tS_2_716 : List Cond := (Jvm.Cond.methodLink "java/lang/StringBuilder" (53 : Nat) ({ cls := "java/lang/AbstractStringBuilder", name := "append", desc := "(I)Ljava/lang/AbstractStringBuilder;" } : Jvm.MethodName)) :: tS_2_717
def tS_2_715 : List Cond := (Jvm.Cond.code ({ cls := "java/lang/StringBuilder", name := "append", desc := "(I)Ljava/lang/StringBuilder;" } : Jvm.MethodName) prog_15_method_15_code (2 : Nat) (Option.some (Jvm.ClassFile.FieldType.object "java/lang/StringBuilder"))) :: tS_2_716
def tS_2_714 : List Cond := (Jvm.Cond.selects "java/lang/StringBuilder" ({ cls := "java/lang/StringBuilder", name := "append", desc := "(I)Ljava/lang/StringBuilder;" } : Jvm.MethodName) ({ cls := "java/lang/StringBuilder", name := "append", desc := "(I)Ljava/lang/StringBuilder;" } : Jvm.MethodName)) :: tS_2_715
def tS_2_713 : List Cond := (Jvm.Cond.instanceMethod ({ cls := "java/lang/StringBuilder", name := "append", desc := "(I)Ljava/lang/StringBuilder;" } : Jvm.MethodName)) :: tS_2_714
def tS_2_712 : List Cond := (Jvm.Cond.methodLink "Runweaver" (162 : Nat) ({ cls := "java/lang/StringBuilder", name := "append", desc := "(I)Ljava/lang/StringBuilder;" } : Jvm.MethodName)) :: tS_2_713
def tS_2_711 : List Cond := (Jvm.Cond.code ({ cls := "jdk/internal/util/Preconditions", name := "checkIndex", desc := "(IILjava/util/function/BiFunction;)I" } : Jvm.MethodName) prog_22_method_11_code (3 : Nat) (Option.some Jvm.ClassFile.FieldType.int)) :: tS_2_712
def tS_2_710 : List Cond := (Jvm.Cond.static ({ cls := "jdk/internal/util/Preconditions", name := "checkIndex", desc := "(IILjava/util/function/BiFunction;)I" } : Jvm.MethodName)) :: tS_2_711
def tS_2_709 : List Cond := (Jvm.Cond.methodLink "java/lang/String" (1059 : Nat) ({ cls := "jdk/internal/util/Preconditions", name := "checkIndex", desc := "(IILjava/util/function/BiFunction;)I" } : Jvm.MethodName)) :: tS_2_710
def tS_2_708 : List Cond := (Jvm.Cond.code ({ cls := "java/lang/String", name := "checkIndex", desc := "(II)V" } : Jvm.MethodName) prog_14_method_155_code (2 : Nat) (Option.none : Option Jvm.ClassFile.FieldType)) :: tS_2_709
def tS_2_707 : List Cond := (Jvm.Cond.static ({ cls := "java/lang/String", name := "checkIndex", desc := "(II)V" } : Jvm.MethodName)) :: tS_2_708
def tS_2_706 : List Cond := (Jvm.Cond.methodLink "java/lang/StringUTF16" (414 : Nat) ({ cls := "java/lang/String", name := "checkIndex", desc := "(II)V" } : Jvm.MethodName)) :: tS_2_707
def tS_2_705 : List Cond := (Jvm.Cond.code ({ cls := "java/lang/StringUTF16", name := "checkIndex", desc := "(I[B)V" } : Jvm.MethodName) prog_17_method_91_code (2 : Nat) (Option.none : Option Jvm.ClassFile.FieldType)) :: tS_2_706
def tS_2_704 : List Cond := (Jvm.Cond.static ({ cls := "java/lang/StringUTF16", name := "checkIndex", desc := "(I[B)V" } : Jvm.MethodName)) :: tS_2_705
def tS_2_703 : List Cond := (Jvm.Cond.methodLink "java/lang/StringUTF16" (67 : Nat) ({ cls := "java/lang/StringUTF16", name := "checkIndex", desc := "(I[B)V" } : Jvm.MethodName)) :: tS_2_704
def tS_2_702 : List Cond := (Jvm.Cond.code ({ cls := "java/lang/StringUTF16", name := "putCharSB", desc := "([BII)V" } : Jvm.MethodName) prog_17_method_71_code (3 : Nat) (Option.none : Option Jvm.ClassFile.FieldType)) :: tS_2_703
def tS_2_701 : List Cond := (Jvm.Cond.static ({ cls := "java/lang/StringUTF16", name := "putCharSB", desc := "([BII)V" } : Jvm.MethodName)) :: tS_2_702
def tS_2_700 : List Cond := (Jvm.Cond.methodLink "java/lang/AbstractStringBuilder" (197 : Nat) ({ cls := "java/lang/StringUTF16", name := "putCharSB", desc := "([BII)V" } : Jvm.MethodName)) :: tS_2_701
def tS_2_699 : List Cond := (Jvm.Cond.laysStatic "java/lang/StringUTF16" "LO_BYTE_SHIFT" "I") :: tS_2_700
def tS_2_698 : List Cond := (Jvm.Cond.fieldLink "java/lang/StringUTF16" (63 : Nat) "java/lang/StringUTF16" "LO_BYTE_SHIFT" "I") :: tS_2_699
def tS_2_697 : List Cond := (Jvm.Cond.laysStatic "java/lang/StringUTF16" "HI_BYTE_SHIFT" "I") :: tS_2_698
def tS_2_696 : List Cond := (Jvm.Cond.fieldLink "java/lang/StringUTF16" (59 : Nat) "java/lang/StringUTF16" "HI_BYTE_SHIFT" "I") :: tS_2_697
def tS_2_695 : List Cond := (Jvm.Cond.laysStatic "java/lang/StringUTF16" "$assertionsDisabled" "Z") :: tS_2_696
def tS_2_694 : List Cond := (Jvm.Cond.fieldLink "java/lang/StringUTF16" (44 : Nat) "java/lang/StringUTF16" "$assertionsDisabled" "Z") :: tS_2_695
def tS_2_693 : List Cond := (Jvm.Cond.code ({ cls := "java/lang/StringUTF16", name := "putChar", desc := "([BII)V" } : Jvm.MethodName) prog_17_method_4_code (3 : Nat) (Option.none : Option Jvm.ClassFile.FieldType)) :: tS_2_694
def tS_2_692 : List Cond := (Jvm.Cond.static ({ cls := "java/lang/StringUTF16", name := "putChar", desc := "([BII)V" } : Jvm.MethodName)) :: tS_2_693
def tS_2_691 : List Cond := (Jvm.Cond.methodLink "java/lang/StringUTF16" (111 : Nat) ({ cls := "java/lang/StringUTF16", name := "putChar", desc := "([BII)V" } : Jvm.MethodName)) :: tS_2_692
def tS_2_690 : List Cond := (Jvm.Cond.code ({ cls := "jdk/internal/util/Preconditions", name := "checkFromIndexSize", desc := "(IIILjava/util/function/BiFunction;)I" } : Jvm.MethodName) prog_22_method_13_code (4 : Nat) (Option.some Jvm.ClassFile.FieldType.int)) :: tS_2_691
def tS_2_689 : List Cond := (Jvm.Cond.static ({ cls := "jdk/internal/util/Preconditions", name := "checkFromIndexSize", desc := "(IIILjava/util/function/BiFunction;)I" } : Jvm.MethodName)) :: tS_2_690
def tS_2_688 : List Cond := (Jvm.Cond.methodLink "java/lang/String" (1065 : Nat) ({ cls := "jdk/internal/util/Preconditions", name := "checkFromIndexSize", desc := "(IIILjava/util/function/BiFunction;)I" } : Jvm.MethodName)) :: tS_2_689
def tS_2_687 : List Cond := (Jvm.Cond.laysStatic "jdk/internal/util/Preconditions" "SIOOBE_FORMATTER" "Ljava/util/function/BiFunction;") :: tS_2_688
def tS_2_686 : List Cond := (Jvm.Cond.fieldLink "java/lang/String" (1053 : Nat) "jdk/internal/util/Preconditions" "SIOOBE_FORMATTER" "Ljava/util/function/BiFunction;") :: tS_2_687
def tS_2_685 : List Cond := (Jvm.Cond.code ({ cls := "java/lang/String", name := "checkBoundsOffCount", desc := "(III)I" } : Jvm.MethodName) prog_14_method_157_code (3 : Nat) (Option.some Jvm.ClassFile.FieldType.int)) :: tS_2_686
def tS_2_684 : List Cond := (Jvm.Cond.static ({ cls := "java/lang/String", name := "checkBoundsOffCount", desc := "(III)I" } : Jvm.MethodName)) :: tS_2_685
def tS_2_683 : List Cond := (Jvm.Cond.methodLink "java/lang/StringUTF16" (419 : Nat) ({ cls := "java/lang/String", name := "checkBoundsOffCount", desc := "(III)I" } : Jvm.MethodName)) :: tS_2_684
def tS_2_682 : List Cond := (Jvm.Cond.code ({ cls := "java/lang/StringUTF16", name := "length", desc := "([B)I" } : Jvm.MethodName) prog_17_method_6_code (1 : Nat) (Option.some Jvm.ClassFile.FieldType.int)) :: tS_2_683
def tS_2_681 : List Cond := (Jvm.Cond.static ({ cls := "java/lang/StringUTF16", name := "length", desc := "([B)I" } : Jvm.MethodName)) :: tS_2_682
def tS_2_680 : List Cond := (Jvm.Cond.methodLink "java/lang/StringUTF16" (48 : Nat) ({ cls := "java/lang/StringUTF16", name := "length", desc := "([B)I" } : Jvm.MethodName)) :: tS_2_681
def tS_2_679 : List Cond := (Jvm.Cond.code ({ cls := "java/lang/StringUTF16", name := "checkBoundsOffCount", desc := "(II[B)V" } : Jvm.MethodName) prog_17_method_94_code (3 : Nat) (Option.none : Option Jvm.ClassFile.FieldType)) :: tS_2_680
def tS_2_678 : List Cond := (Jvm.Cond.static ({ cls := "java/lang/StringUTF16", name := "checkBoundsOffCount", desc := "(II[B)V" } : Jvm.MethodName)) :: tS_2_679
def tS_2_677 : List Cond := (Jvm.Cond.methodLink "java/lang/StringUTF16" (173 : Nat) ({ cls := "java/lang/StringUTF16", name := "checkBoundsOffCount", desc := "(II[B)V" } : Jvm.MethodName)) :: tS_2_678
def tS_2_676 : List Cond := (Jvm.Cond.code ({ cls := "java/lang/StringUTF16", name := "inflate", desc := "([BI[BII)V" } : Jvm.MethodName) prog_17_method_86_code (6 : Nat) (Option.none : Option Jvm.ClassFile.FieldType)) :: tS_2_677
def tS_2_675 : List Cond := (Jvm.Cond.static ({ cls := "java/lang/StringUTF16", name := "inflate", desc := "([BI[BII)V" } : Jvm.MethodName)) :: tS_2_676
def tS_2_674 : List Cond := (Jvm.Cond.methodLink "java/lang/StringLatin1" (240 : Nat) ({ cls := "java/lang/StringUTF16", name := "inflate", desc := "([BI[BII)V" } : Jvm.MethodName)) :: tS_2_675
def tS_2_673 : List Cond := (Jvm.Cond.code ({ cls := "java/lang/StringLatin1", name := "inflate", desc := "([BI[BII)V" } : Jvm.MethodName) prog_16_method_50_code (5 : Nat) (Option.none : Option Jvm.ClassFile.FieldType)) :: tS_2_674
def tS_2_672 : List Cond := (Jvm.Cond.static ({ cls := "java/lang/StringLatin1", name := "inflate", desc := "([BI[BII)V" } : Jvm.MethodName)) :: tS_2_673
def tS_2_671 : List Cond := (Jvm.Cond.methodLink "java/lang/AbstractStringBuilder" (125 : Nat) ({ cls := "java/lang/StringLatin1", name := "inflate", desc := "([BI[BII)V" } : Jvm.MethodName)) :: tS_2_672
def tS_2_670 : List Cond := (Jvm.Cond.code ({ cls := "java/lang/AbstractStringBuilder", name := "inflate", desc := "()V" } : Jvm.MethodName) prog_6_method_11_code (2 : Nat) (Option.none : Option Jvm.ClassFile.FieldType)) :: tS_2_671
def tS_2_669 : List Cond := (Jvm.Cond.instanceMethod ({ cls := "java/lang/AbstractStringBuilder", name := "inflate", desc := "()V" } : Jvm.MethodName)) :: tS_2_670
def tS_2_668 : List Cond := (Jvm.Cond.privateMethod ({ cls := "java/lang/AbstractStringBuilder", name := "inflate", desc := "()V" } : Jvm.MethodName)) :: tS_2_669
def tS_2_667 : List Cond := (Jvm.Cond.methodLink "java/lang/AbstractStringBuilder" (195 : Nat) ({ cls := "java/lang/AbstractStringBuilder", name := "inflate", desc := "()V" } : Jvm.MethodName)) :: tS_2_668
def tS_2_666 : List Cond := (Jvm.Cond.code ({ cls := "java/lang/StringLatin1", name := "canEncode", desc := "(C)Z" } : Jvm.MethodName) prog_16_method_3_code (1 : Nat) (Option.some Jvm.ClassFile.FieldType.boolean)) :: tS_2_667
def tS_2_665 : List Cond := (Jvm.Cond.static ({ cls := "java/lang/StringLatin1", name := "canEncode", desc := "(C)Z" } : Jvm.MethodName)) :: tS_2_666
def tS_2_664 : List Cond := (Jvm.Cond.methodLink "java/lang/AbstractStringBuilder" (191 : Nat) ({ cls := "java/lang/StringLatin1", name := "canEncode", desc := "(C)Z" } : Jvm.MethodName)) :: tS_2_665
def tS_2_663 : List Cond := (Jvm.Cond.code ({ cls := "java/lang/AbstractStringBuilder", name := "isLatin1", desc := "()Z" } : Jvm.MethodName) prog_6_method_68_code (1 : Nat) (Option.some Jvm.ClassFile.FieldType.boolean)) :: tS_2_664
def tS_2_662 : List Cond := (Jvm.Cond.selects "java/lang/StringBuilder" ({ cls := "java/lang/AbstractStringBuilder", name := "isLatin1", desc := "()Z" } : Jvm.MethodName) ({ cls := "java/lang/AbstractStringBuilder", name := "isLatin1", desc := "()Z" } : Jvm.MethodName)) :: tS_2_663
def tS_2_661 : List Cond := (Jvm.Cond.sameMethod "java/lang/AbstractStringBuilder" "java/lang/AbstractStringBuilder" "isLatin1" "()Z") :: tS_2_662
def tS_2_660 : List Cond := (Jvm.Cond.instanceMethod ({ cls := "java/lang/AbstractStringBuilder", name := "isLatin1", desc := "()Z" } : Jvm.MethodName)) :: tS_2_661
def tS_2_659 : List Cond := (Jvm.Cond.methodLink "java/lang/AbstractStringBuilder" (83 : Nat) ({ cls := "java/lang/AbstractStringBuilder", name := "isLatin1", desc := "()Z" } : Jvm.MethodName)) :: tS_2_660
def tS_2_658 : List Cond := (Jvm.Cond.methodLink "java/util/Arrays" (150 : Nat) ({ cls := "java/lang/System", name := "arraycopy", desc := "(Ljava/lang/Object;ILjava/lang/Object;II)V" } : Jvm.MethodName)) :: tS_2_659
def tS_2_657 : List Cond := (Jvm.Cond.methodLink "java/util/Arrays" (304 : Nat) ({ cls := "java/lang/Math", name := "min", desc := "(II)I" } : Jvm.MethodName)) :: tS_2_658
def tS_2_656 : List Cond := (Jvm.Cond.classLink "java/util/Arrays" (311 : Nat) "[B") :: tS_2_657
def tS_2_655 : List Cond := (Jvm.Cond.castable "[B" "java/lang/Cloneable") :: tS_2_656
def tS_2_654 : List Cond := (Jvm.Cond.selects "[B" ({ cls := "[B", name := "clone", desc := "()Ljava/lang/Object;" } : Jvm.MethodName) ({ cls := "java/lang/Object", name := "clone", desc := "()Ljava/lang/Object;" } : Jvm.MethodName)) :: tS_2_655
def tS_2_653 : List Cond := (Jvm.Cond.instanceMethod ({ cls := "java/lang/Object", name := "clone", desc := "()Ljava/lang/Object;" } : Jvm.MethodName)) :: tS_2_654
def tS_2_652 : List Cond := (Jvm.Cond.native ({ cls := "java/lang/Object", name := "clone", desc := "()Ljava/lang/Object;" } : Jvm.MethodName)) :: tS_2_653
def tS_2_651 : List Cond := (Jvm.Cond.sameMethod "[B" "java/lang/Object" "clone" "()Ljava/lang/Object;") :: tS_2_652
def tS_2_650 : List Cond := (Jvm.Cond.methodLink "java/util/Arrays" (310 : Nat) ({ cls := "[B", name := "clone", desc := "()Ljava/lang/Object;" } : Jvm.MethodName)) :: tS_2_651
def tS_2_649 : List Cond := (Jvm.Cond.code ({ cls := "java/util/Arrays", name := "copyOf", desc := "([BI)[B" } : Jvm.MethodName) prog_20_method_121_code (3 : Nat) (Option.some (Jvm.ClassFile.FieldType.array Jvm.ClassFile.FieldType.byte))) :: tS_2_650
def tS_2_648 : List Cond := (Jvm.Cond.static ({ cls := "java/util/Arrays", name := "copyOf", desc := "([BI)[B" } : Jvm.MethodName)) :: tS_2_649
def tS_2_647 : List Cond := (Jvm.Cond.methodLink "java/lang/AbstractStringBuilder" (108 : Nat) ({ cls := "java/util/Arrays", name := "copyOf", desc := "([BI)[B" } : Jvm.MethodName)) :: tS_2_648
def tS_2_646 : List Cond := (Jvm.Cond.constant "java/lang/AbstractStringBuilder" (39 : Nat) (2147483647 : Int32)) :: tS_2_647
def tS_2_645 : List Cond := (Jvm.Cond.code ({ cls := "jdk/internal/util/ArraysSupport", name := "hugeLength", desc := "(II)I" } : Jvm.MethodName) prog_21_method_28_code (3 : Nat) (Option.some Jvm.ClassFile.FieldType.int)) :: tS_2_646
def tS_2_644 : List Cond := (Jvm.Cond.static ({ cls := "jdk/internal/util/ArraysSupport", name := "hugeLength", desc := "(II)I" } : Jvm.MethodName)) :: tS_2_645
def tS_2_643 : List Cond := (Jvm.Cond.methodLink "jdk/internal/util/ArraysSupport" (201 : Nat) ({ cls := "jdk/internal/util/ArraysSupport", name := "hugeLength", desc := "(II)I" } : Jvm.MethodName)) :: tS_2_644
def tS_2_642 : List Cond := (Jvm.Cond.constant "jdk/internal/util/ArraysSupport" (200 : Nat) (2147483639 : Int32)) :: tS_2_643
def tS_2_641 : List Cond := (Jvm.Cond.methodLink "jdk/internal/util/ArraysSupport" (194 : Nat) ({ cls := "java/lang/Math", name := "max", desc := "(II)I" } : Jvm.MethodName)) :: tS_2_642
def tS_2_640 : List Cond := (Jvm.Cond.code ({ cls := "jdk/internal/util/ArraysSupport", name := "newLength", desc := "(III)I" } : Jvm.MethodName) prog_21_method_27_code (4 : Nat) (Option.some Jvm.ClassFile.FieldType.int)) :: tS_2_641
def tS_2_639 : List Cond := (Jvm.Cond.static ({ cls := "jdk/internal/util/ArraysSupport", name := "newLength", desc := "(III)I" } : Jvm.MethodName)) :: tS_2_640
def tS_2_638 : List Cond := (Jvm.Cond.methodLink "java/lang/AbstractStringBuilder" (114 : Nat) ({ cls := "jdk/internal/util/ArraysSupport", name := "newLength", desc := "(III)I" } : Jvm.MethodName)) :: tS_2_639
def tS_2_637 : List Cond := (Jvm.Cond.code ({ cls := "java/lang/AbstractStringBuilder", name := "newCapacity", desc := "(I)I" } : Jvm.MethodName) prog_6_method_10_code (6 : Nat) (Option.some Jvm.ClassFile.FieldType.int)) :: tS_2_638
def tS_2_636 : List Cond := (Jvm.Cond.instanceMethod ({ cls := "java/lang/AbstractStringBuilder", name := "newCapacity", desc := "(I)I" } : Jvm.MethodName)) :: tS_2_637
def tS_2_635 : List Cond := (Jvm.Cond.privateMethod ({ cls := "java/lang/AbstractStringBuilder", name := "newCapacity", desc := "(I)I" } : Jvm.MethodName)) :: tS_2_636
def tS_2_634 : List Cond := (Jvm.Cond.methodLink "java/lang/AbstractStringBuilder" (104 : Nat) ({ cls := "java/lang/AbstractStringBuilder", name := "newCapacity", desc := "(I)I" } : Jvm.MethodName)) :: tS_2_635
def tS_2_633 : List Cond := (Jvm.Cond.code ({ cls := "java/lang/AbstractStringBuilder", name := "ensureCapacityInternal", desc := "(I)V" } : Jvm.MethodName) prog_6_method_9_code (3 : Nat) (Option.none : Option Jvm.ClassFile.FieldType)) :: tS_2_634
def tS_2_632 : List Cond := (Jvm.Cond.instanceMethod ({ cls := "java/lang/AbstractStringBuilder", name := "ensureCapacityInternal", desc := "(I)V" } : Jvm.MethodName)) :: tS_2_633
def tS_2_631 : List Cond := (Jvm.Cond.privateMethod ({ cls := "java/lang/AbstractStringBuilder", name := "ensureCapacityInternal", desc := "(I)V" } : Jvm.MethodName)) :: tS_2_632
def tS_2_630 : List Cond := (Jvm.Cond.methodLink "java/lang/AbstractStringBuilder" (100 : Nat) ({ cls := "java/lang/AbstractStringBuilder", name := "ensureCapacityInternal", desc := "(I)V" } : Jvm.MethodName)) :: tS_2_631
def tS_2_629 : List Cond := (Jvm.Cond.code ({ cls := "java/lang/AbstractStringBuilder", name := "append", desc := "(C)Ljava/lang/AbstractStringBuilder;" } : Jvm.MethodName) prog_6_method_31_code (2 : Nat) (Option.some (Jvm.ClassFile.FieldType.object "java/lang/AbstractStringBuilder"))) :: tS_2_630
def tS_2_628 : List Cond := (Jvm.Cond.instanceMethod ({ cls := "java/lang/AbstractStringBuilder", name := "append", desc := "(C)Ljava/lang/AbstractStringBuilder;" } : Jvm.MethodName)) :: tS_2_629
def tS_2_627 : List Cond := (Jvm.Cond.methodLink "java/lang/StringBuilder" (50 : Nat) ({ cls := "java/lang/AbstractStringBuilder", name := "append", desc := "(C)Ljava/lang/AbstractStringBuilder;" } : Jvm.MethodName)) :: tS_2_628
def tS_2_626 : List Cond := (Jvm.Cond.code ({ cls := "java/lang/StringBuilder", name := "append", desc := "(C)Ljava/lang/StringBuilder;" } : Jvm.MethodName) prog_15_method_14_code (2 : Nat) (Option.some (Jvm.ClassFile.FieldType.object "java/lang/StringBuilder"))) :: tS_2_627
def tS_2_625 : List Cond := (Jvm.Cond.selects "java/lang/StringBuilder" ({ cls := "java/lang/StringBuilder", name := "append", desc := "(C)Ljava/lang/StringBuilder;" } : Jvm.MethodName) ({ cls := "java/lang/StringBuilder", name := "append", desc := "(C)Ljava/lang/StringBuilder;" } : Jvm.MethodName)) :: tS_2_626
def tS_2_624 : List Cond := (Jvm.Cond.instanceMethod ({ cls := "java/lang/StringBuilder", name := "append", desc := "(C)Ljava/lang/StringBuilder;" } : Jvm.MethodName)) :: tS_2_625
def tS_2_623 : List Cond := (Jvm.Cond.methodLink "Runweaver" (159 : Nat) ({ cls := "java/lang/StringBuilder", name := "append", desc := "(C)Ljava/lang/StringBuilder;" } : Jvm.MethodName)) :: tS_2_624
def tS_2_622 : List Cond := (Jvm.Cond.superclass "java/lang/StringBuilder" "java/lang/AbstractStringBuilder") :: tS_2_623
def tS_2_621 : List Cond := (Jvm.Cond.soleField "java/lang/AbstractStringBuilder" "count") :: tS_2_622
def tS_2_620 : List Cond := (Jvm.Cond.lays "java/lang/StringBuilder" "java/lang/AbstractStringBuilder" "count" "I") :: tS_2_621
def tS_2_619 : List Cond := (Jvm.Cond.soleField "java/lang/AbstractStringBuilder" "maybeLatin1") :: tS_2_620
def tS_2_618 : List Cond := (Jvm.Cond.lays "java/lang/StringBuilder" "java/lang/AbstractStringBuilder" "maybeLatin1" "Z") :: tS_2_619
def tS_2_617 : List Cond := (Jvm.Cond.soleField "java/lang/AbstractStringBuilder" "coder") :: tS_2_618
def tS_2_616 : List Cond := (Jvm.Cond.lays "java/lang/StringBuilder" "java/lang/AbstractStringBuilder" "coder" "B") :: tS_2_617
def tS_2_615 : List Cond := (Jvm.Cond.soleField "java/lang/AbstractStringBuilder" "value") :: tS_2_616
def tS_2_614 : List Cond := (Jvm.Cond.lays "java/lang/StringBuilder" "java/lang/AbstractStringBuilder" "value" "[B") :: tS_2_615
def tS_2_613 : List Cond := (Jvm.Cond.fieldLink "java/lang/AbstractStringBuilder" (79 : Nat) "java/lang/AbstractStringBuilder" "count" "I") :: tS_2_614
def tS_2_612 : List Cond := (Jvm.Cond.fieldLink "java/lang/String" (1048 : Nat) "java/lang/AbstractStringBuilder" "maybeLatin1" "Z") :: tS_2_613
def tS_2_611 : List Cond := (Jvm.Cond.fieldLink "java/lang/AbstractStringBuilder" (22 : Nat) "java/lang/AbstractStringBuilder" "coder" "B") :: tS_2_612
def tS_2_610 : List Cond := (Jvm.Cond.fieldLink "java/lang/AbstractStringBuilder" (15 : Nat) "java/lang/AbstractStringBuilder" "value" "[B") :: tS_2_611
def tS_2_609 : List Cond := (Jvm.Cond.constant "java/lang/StringUTF16" (20 : Nat) (1073741823 : Int32)) :: tS_2_610
def tS_2_608 : List Cond := (Jvm.Cond.code ({ cls := "java/lang/StringUTF16", name := "newBytesLength", desc := "(I)I" } : Jvm.MethodName) prog_17_method_3_code (1 : Nat) (Option.some Jvm.ClassFile.FieldType.int)) :: tS_2_609
def tS_2_607 : List Cond := (Jvm.Cond.static ({ cls := "java/lang/StringUTF16", name := "newBytesLength", desc := "(I)I" } : Jvm.MethodName)) :: tS_2_608
def tS_2_606 : List Cond := (Jvm.Cond.methodLink "java/lang/StringUTF16" (11 : Nat) ({ cls := "java/lang/StringUTF16", name := "newBytesLength", desc := "(I)I" } : Jvm.MethodName)) :: tS_2_607
def tS_2_605 : List Cond := (Jvm.Cond.code ({ cls := "java/lang/StringUTF16", name := "newBytesFor", desc := "(I)[B" } : Jvm.MethodName) prog_17_method_2_code (1 : Nat) (Option.some (Jvm.ClassFile.FieldType.array Jvm.ClassFile.FieldType.byte))) :: tS_2_606
def tS_2_604 : List Cond := (Jvm.Cond.static ({ cls := "java/lang/StringUTF16", name := "newBytesFor", desc := "(I)[B" } : Jvm.MethodName)) :: tS_2_605
def tS_2_603 : List Cond := (Jvm.Cond.methodLink "java/lang/AbstractStringBuilder" (26 : Nat) ({ cls := "java/lang/StringUTF16", name := "newBytesFor", desc := "(I)[B" } : Jvm.MethodName)) :: tS_2_604
def tS_2_602 : List Cond := (Jvm.Cond.laysStatic "java/lang/String" "COMPACT_STRINGS" "Z") :: tS_2_603
def tS_2_601 : List Cond := (Jvm.Cond.fieldLink "java/lang/AbstractStringBuilder" (18 : Nat) "java/lang/String" "COMPACT_STRINGS" "Z") :: tS_2_602
def tS_2_600 : List Cond := (Jvm.Cond.methodLink "java/lang/AbstractStringBuilder" (3 : Nat) ({ cls := "java/lang/Object", name := "<init>", desc := "()V" } : Jvm.MethodName)) :: tS_2_601
def tS_2_599 : List Cond := (Jvm.Cond.code ({ cls := "java/lang/AbstractStringBuilder", name := "<init>", desc := "(I)V" } : Jvm.MethodName) prog_6_method_2_code (2 : Nat) (Option.none : Option Jvm.ClassFile.FieldType)) :: tS_2_600
def tS_2_598 : List Cond := (Jvm.Cond.instanceMethod ({ cls := "java/lang/AbstractStringBuilder", name := "<init>", desc := "(I)V" } : Jvm.MethodName)) :: tS_2_599
def tS_2_597 : List Cond := (Jvm.Cond.methodLink "java/lang/StringBuilder" (1 : Nat) ({ cls := "java/lang/AbstractStringBuilder", name := "<init>", desc := "(I)V" } : Jvm.MethodName)) :: tS_2_598
def tS_2_596 : List Cond := (Jvm.Cond.code ({ cls := "java/lang/StringBuilder", name := "<init>", desc := "()V" } : Jvm.MethodName) prog_15_method_1_code (1 : Nat) (Option.none : Option Jvm.ClassFile.FieldType)) :: tS_2_597
def tS_2_595 : List Cond := (Jvm.Cond.instanceMethod ({ cls := "java/lang/StringBuilder", name := "<init>", desc := "()V" } : Jvm.MethodName)) :: tS_2_596
def tS_2_594 : List Cond := (Jvm.Cond.methodLink "Runweaver" (158 : Nat) ({ cls := "java/lang/StringBuilder", name := "<init>", desc := "()V" } : Jvm.MethodName)) :: tS_2_595
def tS_2_593 : List Cond := (Jvm.Cond.instantiable "java/lang/StringBuilder" (4 : Nat)) :: tS_2_594
def tS_2_592 : List Cond := (Jvm.Cond.classLink "Runweaver" (156 : Nat) "java/lang/StringBuilder") :: tS_2_593
def tS_2_591 : List Cond := (Jvm.Cond.code ({ cls := "Runweaver", name := "text", desc := "(III)Ljava/lang/String;" } : Jvm.MethodName) prog_1_method_25_code (8 : Nat) (Option.some (Jvm.ClassFile.FieldType.object "java/lang/String"))) :: tS_2_592
def tS_2_590 : List Cond := (Jvm.Cond.selects "Runweaver" ({ cls := "Runweaver", name := "text", desc := "(III)Ljava/lang/String;" } : Jvm.MethodName) ({ cls := "Runweaver", name := "text", desc := "(III)Ljava/lang/String;" } : Jvm.MethodName)) :: tS_2_591
def tS_2_589 : List Cond := (Jvm.Cond.instanceMethod ({ cls := "Runweaver", name := "text", desc := "(III)Ljava/lang/String;" } : Jvm.MethodName)) :: tS_2_590
def tS_2_588 : List Cond := (Jvm.Cond.methodLink "RunweaverLaw" (169 : Nat) ({ cls := "Runweaver", name := "text", desc := "(III)Ljava/lang/String;" } : Jvm.MethodName)) :: tS_2_589
def tS_2_587 : List Cond := (Jvm.Cond.code ({ cls := "java/lang/Math", name := "abs", desc := "(I)I" } : Jvm.MethodName) prog_12_method_59_code (1 : Nat) (Option.some Jvm.ClassFile.FieldType.int)) :: tS_2_588
def tS_2_586 : List Cond := (Jvm.Cond.static ({ cls := "java/lang/Math", name := "abs", desc := "(I)I" } : Jvm.MethodName)) :: tS_2_587
def tS_2_585 : List Cond := (Jvm.Cond.methodLink "RunweaverLaw" (164 : Nat) ({ cls := "java/lang/Math", name := "abs", desc := "(I)I" } : Jvm.MethodName)) :: tS_2_586
def tS_2_584 : List Cond := (Jvm.Cond.code ({ cls := "Runweaver", name := "after", desc := "(II)I" } : Jvm.MethodName) prog_1_method_23_code (4 : Nat) (Option.some Jvm.ClassFile.FieldType.int)) :: tS_2_585
def tS_2_583 : List Cond := (Jvm.Cond.selects "Runweaver" ({ cls := "Runweaver", name := "after", desc := "(II)I" } : Jvm.MethodName) ({ cls := "Runweaver", name := "after", desc := "(II)I" } : Jvm.MethodName)) :: tS_2_584
def tS_2_582 : List Cond := (Jvm.Cond.instanceMethod ({ cls := "Runweaver", name := "after", desc := "(II)I" } : Jvm.MethodName)) :: tS_2_583
def tS_2_581 : List Cond := (Jvm.Cond.methodLink "RunweaverLaw" (161 : Nat) ({ cls := "Runweaver", name := "after", desc := "(II)I" } : Jvm.MethodName)) :: tS_2_582
def tS_2_580 : List Cond := (Jvm.Cond.methodLink "RunweaverLaw" (158 : Nat) ({ cls := "Runweaver", name := "longest", desc := "(I)I" } : Jvm.MethodName)) :: tS_2_581
def tS_2_579 : List Cond := (Jvm.Cond.code ({ cls := "Runweaver$Row", name := "endOfRun", desc := "(I)I" } : Jvm.MethodName) prog_3_method_20_code (3 : Nat) (Option.some Jvm.ClassFile.FieldType.int)) :: tS_2_580
def tS_2_578 : List Cond := (Jvm.Cond.selects "Runweaver$Row" ({ cls := "Runweaver$Row", name := "endOfRun", desc := "(I)I" } : Jvm.MethodName) ({ cls := "Runweaver$Row", name := "endOfRun", desc := "(I)I" } : Jvm.MethodName)) :: tS_2_579
def tS_2_577 : List Cond := (Jvm.Cond.instanceMethod ({ cls := "Runweaver$Row", name := "endOfRun", desc := "(I)I" } : Jvm.MethodName)) :: tS_2_578
def tS_2_576 : List Cond := (Jvm.Cond.methodLink "Runweaver" (147 : Nat) ({ cls := "Runweaver$Row", name := "endOfRun", desc := "(I)I" } : Jvm.MethodName)) :: tS_2_577
def tS_2_575 : List Cond := (Jvm.Cond.code ({ cls := "Runweaver", name := "runAt", desc := "(II)I" } : Jvm.MethodName) prog_1_method_24_code (4 : Nat) (Option.some Jvm.ClassFile.FieldType.int)) :: tS_2_576
def tS_2_574 : List Cond := (Jvm.Cond.selects "Runweaver" ({ cls := "Runweaver", name := "runAt", desc := "(II)I" } : Jvm.MethodName) ({ cls := "Runweaver", name := "runAt", desc := "(II)I" } : Jvm.MethodName)) :: tS_2_575
def tS_2_573 : List Cond := (Jvm.Cond.instanceMethod ({ cls := "Runweaver", name := "runAt", desc := "(II)I" } : Jvm.MethodName)) :: tS_2_574
def tS_2_572 : List Cond := (Jvm.Cond.methodLink "RunweaverLaw" (155 : Nat) ({ cls := "Runweaver", name := "runAt", desc := "(II)I" } : Jvm.MethodName)) :: tS_2_573
def tS_2_571 : List Cond := (Jvm.Cond.code ({ cls := "Runweaver$Row", name := "wrongPairsWith", desc := "(I)I" } : Jvm.MethodName) prog_3_method_17_code (5 : Nat) (Option.some Jvm.ClassFile.FieldType.int)) :: tS_2_572
def tS_2_570 : List Cond := (Jvm.Cond.selects "Runweaver$Row" ({ cls := "Runweaver$Row", name := "wrongPairsWith", desc := "(I)I" } : Jvm.MethodName) ({ cls := "Runweaver$Row", name := "wrongPairsWith", desc := "(I)I" } : Jvm.MethodName)) :: tS_2_571
def tS_2_569 : List Cond := (Jvm.Cond.instanceMethod ({ cls := "Runweaver$Row", name := "wrongPairsWith", desc := "(I)I" } : Jvm.MethodName)) :: tS_2_570
def tS_2_568 : List Cond := (Jvm.Cond.methodLink "Runweaver" (144 : Nat) ({ cls := "Runweaver$Row", name := "wrongPairsWith", desc := "(I)I" } : Jvm.MethodName)) :: tS_2_569
def tS_2_567 : List Cond := (Jvm.Cond.code ({ cls := "Runweaver", name := "wrongAt", desc := "(II)I" } : Jvm.MethodName) prog_1_method_22_code (4 : Nat) (Option.some Jvm.ClassFile.FieldType.int)) :: tS_2_568
def tS_2_566 : List Cond := (Jvm.Cond.selects "Runweaver" ({ cls := "Runweaver", name := "wrongAt", desc := "(II)I" } : Jvm.MethodName) ({ cls := "Runweaver", name := "wrongAt", desc := "(II)I" } : Jvm.MethodName)) :: tS_2_567
def tS_2_565 : List Cond := (Jvm.Cond.instanceMethod ({ cls := "Runweaver", name := "wrongAt", desc := "(II)I" } : Jvm.MethodName)) :: tS_2_566
def tS_2_564 : List Cond := (Jvm.Cond.methodLink "RunweaverLaw" (152 : Nat) ({ cls := "Runweaver", name := "wrongAt", desc := "(II)I" } : Jvm.MethodName)) :: tS_2_565
def tS_2_563 : List Cond := (Jvm.Cond.code ({ cls := "Runweaver", name := "wouldStamp", desc := "(II)I" } : Jvm.MethodName) prog_1_method_21_code (4 : Nat) (Option.some Jvm.ClassFile.FieldType.int)) :: tS_2_564
def tS_2_562 : List Cond := (Jvm.Cond.selects "Runweaver" ({ cls := "Runweaver", name := "wouldStamp", desc := "(II)I" } : Jvm.MethodName) ({ cls := "Runweaver", name := "wouldStamp", desc := "(II)I" } : Jvm.MethodName)) :: tS_2_563
def tS_2_561 : List Cond := (Jvm.Cond.instanceMethod ({ cls := "Runweaver", name := "wouldStamp", desc := "(II)I" } : Jvm.MethodName)) :: tS_2_562
def tS_2_560 : List Cond := (Jvm.Cond.methodLink "RunweaverLaw" (149 : Nat) ({ cls := "Runweaver", name := "wouldStamp", desc := "(II)I" } : Jvm.MethodName)) :: tS_2_561
def tS_2_559 : List Cond := (Jvm.Cond.code ({ cls := "Runweaver", name := "would", desc := "(II)I" } : Jvm.MethodName) prog_1_method_20_code (4 : Nat) (Option.some Jvm.ClassFile.FieldType.int)) :: tS_2_560
def tS_2_558 : List Cond := (Jvm.Cond.selects "Runweaver" ({ cls := "Runweaver", name := "would", desc := "(II)I" } : Jvm.MethodName) ({ cls := "Runweaver", name := "would", desc := "(II)I" } : Jvm.MethodName)) :: tS_2_559
def tS_2_557 : List Cond := (Jvm.Cond.instanceMethod ({ cls := "Runweaver", name := "would", desc := "(II)I" } : Jvm.MethodName)) :: tS_2_558
def tS_2_556 : List Cond := (Jvm.Cond.methodLink "RunweaverLaw" (146 : Nat) ({ cls := "Runweaver", name := "would", desc := "(II)I" } : Jvm.MethodName)) :: tS_2_557
def tS_2_555 : List Cond := (Jvm.Cond.methodLink "Runweaver" (282 : Nat) ({ cls := "Runweaver", name := "isSound", desc := "()Z" } : Jvm.MethodName)) :: tS_2_556
def tS_2_554 : List Cond := (Jvm.Cond.stringRef "Runweaver" (237 : Nat) "no such number of the house") :: tS_2_555
def tS_2_553 : List Cond := (Jvm.Cond.code ({ cls := "Runweaver", name := "sortedRows", desc := "()I" } : Jvm.MethodName) prog_1_method_64_code (3 : Nat) (Option.some Jvm.ClassFile.FieldType.int)) :: tS_2_554
def tS_2_552 : List Cond := (Jvm.Cond.instanceMethod ({ cls := "Runweaver", name := "sortedRows", desc := "()I" } : Jvm.MethodName)) :: tS_2_553
def tS_2_551 : List Cond := (Jvm.Cond.privateMethod ({ cls := "Runweaver", name := "sortedRows", desc := "()I" } : Jvm.MethodName)) :: tS_2_552
def tS_2_550 : List Cond := (Jvm.Cond.methodLink "Runweaver" (232 : Nat) ({ cls := "Runweaver", name := "sortedRows", desc := "()I" } : Jvm.MethodName)) :: tS_2_551
def tS_2_549 : List Cond := (Jvm.Cond.code ({ cls := "Runweaver", name := "itemsInAll", desc := "()I" } : Jvm.MethodName) prog_1_method_63_code (3 : Nat) (Option.some Jvm.ClassFile.FieldType.int)) :: tS_2_550
def tS_2_548 : List Cond := (Jvm.Cond.instanceMethod ({ cls := "Runweaver", name := "itemsInAll", desc := "()I" } : Jvm.MethodName)) :: tS_2_549
def tS_2_547 : List Cond := (Jvm.Cond.privateMethod ({ cls := "Runweaver", name := "itemsInAll", desc := "()I" } : Jvm.MethodName)) :: tS_2_548
def tS_2_546 : List Cond := (Jvm.Cond.methodLink "Runweaver" (217 : Nat) ({ cls := "Runweaver", name := "itemsInAll", desc := "()I" } : Jvm.MethodName)) :: tS_2_547
def tS_2_545 : List Cond := (Jvm.Cond.code ({ cls := "Runweaver", name := "house", desc := "(I)I" } : Jvm.MethodName) prog_1_method_44_code (2 : Nat) (Option.some Jvm.ClassFile.FieldType.int)) :: tS_2_546
def tS_2_544 : List Cond := (Jvm.Cond.selects "Runweaver" ({ cls := "Runweaver", name := "house", desc := "(I)I" } : Jvm.MethodName) ({ cls := "Runweaver", name := "house", desc := "(I)I" } : Jvm.MethodName)) :: tS_2_545
def tS_2_543 : List Cond := (Jvm.Cond.instanceMethod ({ cls := "Runweaver", name := "house", desc := "(I)I" } : Jvm.MethodName)) :: tS_2_544
def tS_2_542 : List Cond := (Jvm.Cond.methodLink "Runweaver" (279 : Nat) ({ cls := "Runweaver", name := "house", desc := "(I)I" } : Jvm.MethodName)) :: tS_2_543
def tS_2_541 : List Cond := (Jvm.Cond.code ({ cls := "Runweaver$Row", name := "unlikeKeysOfSorted", desc := "()I" } : Jvm.MethodName) prog_3_method_31_code (3 : Nat) (Option.some Jvm.ClassFile.FieldType.int)) :: tS_2_542
def tS_2_540 : List Cond := (Jvm.Cond.selects "Runweaver$Row" ({ cls := "Runweaver$Row", name := "unlikeKeysOfSorted", desc := "()I" } : Jvm.MethodName) ({ cls := "Runweaver$Row", name := "unlikeKeysOfSorted", desc := "()I" } : Jvm.MethodName)) :: tS_2_541
def tS_2_539 : List Cond := (Jvm.Cond.instanceMethod ({ cls := "Runweaver$Row", name := "unlikeKeysOfSorted", desc := "()I" } : Jvm.MethodName)) :: tS_2_540
def tS_2_538 : List Cond := (Jvm.Cond.methodLink "Runweaver" (208 : Nat) ({ cls := "Runweaver$Row", name := "unlikeKeysOfSorted", desc := "()I" } : Jvm.MethodName)) :: tS_2_539
def tS_2_537 : List Cond := (Jvm.Cond.code ({ cls := "Runweaver", name := "unlike", desc := "(I)I" } : Jvm.MethodName) prog_1_method_38_code (2 : Nat) (Option.some Jvm.ClassFile.FieldType.int)) :: tS_2_538
def tS_2_536 : List Cond := (Jvm.Cond.selects "Runweaver" ({ cls := "Runweaver", name := "unlike", desc := "(I)I" } : Jvm.MethodName) ({ cls := "Runweaver", name := "unlike", desc := "(I)I" } : Jvm.MethodName)) :: tS_2_537
def tS_2_535 : List Cond := (Jvm.Cond.instanceMethod ({ cls := "Runweaver", name := "unlike", desc := "(I)I" } : Jvm.MethodName)) :: tS_2_536
def tS_2_534 : List Cond := (Jvm.Cond.methodLink "Runweaver" (276 : Nat) ({ cls := "Runweaver", name := "unlike", desc := "(I)I" } : Jvm.MethodName)) :: tS_2_535
def tS_2_533 : List Cond := (Jvm.Cond.code ({ cls := "Runweaver$Row", name := "keysTogether", desc := "()I" } : Jvm.MethodName) prog_3_method_29_code (3 : Nat) (Option.some Jvm.ClassFile.FieldType.int)) :: tS_2_534
def tS_2_532 : List Cond := (Jvm.Cond.selects "Runweaver$Row" ({ cls := "Runweaver$Row", name := "keysTogether", desc := "()I" } : Jvm.MethodName) ({ cls := "Runweaver$Row", name := "keysTogether", desc := "()I" } : Jvm.MethodName)) :: tS_2_533
def tS_2_531 : List Cond := (Jvm.Cond.instanceMethod ({ cls := "Runweaver$Row", name := "keysTogether", desc := "()I" } : Jvm.MethodName)) :: tS_2_532
def tS_2_530 : List Cond := (Jvm.Cond.methodLink "Runweaver" (214 : Nat) ({ cls := "Runweaver$Row", name := "keysTogether", desc := "()I" } : Jvm.MethodName)) :: tS_2_531
def tS_2_529 : List Cond := (Jvm.Cond.code ({ cls := "Runweaver", name := "sum", desc := "(I)I" } : Jvm.MethodName) prog_1_method_40_code (2 : Nat) (Option.some Jvm.ClassFile.FieldType.int)) :: tS_2_530
def tS_2_528 : List Cond := (Jvm.Cond.selects "Runweaver" ({ cls := "Runweaver", name := "sum", desc := "(I)I" } : Jvm.MethodName) ({ cls := "Runweaver", name := "sum", desc := "(I)I" } : Jvm.MethodName)) :: tS_2_529
def tS_2_527 : List Cond := (Jvm.Cond.instanceMethod ({ cls := "Runweaver", name := "sum", desc := "(I)I" } : Jvm.MethodName)) :: tS_2_528
def tS_2_526 : List Cond := (Jvm.Cond.methodLink "Runweaver" (273 : Nat) ({ cls := "Runweaver", name := "sum", desc := "(I)I" } : Jvm.MethodName)) :: tS_2_527
def tS_2_525 : List Cond := (Jvm.Cond.code ({ cls := "Runweaver$Row", name := "longestRun", desc := "()I" } : Jvm.MethodName) prog_3_method_22_code (4 : Nat) (Option.some Jvm.ClassFile.FieldType.int)) :: tS_2_526
def tS_2_524 : List Cond := (Jvm.Cond.selects "Runweaver$Row" ({ cls := "Runweaver$Row", name := "longestRun", desc := "()I" } : Jvm.MethodName) ({ cls := "Runweaver$Row", name := "longestRun", desc := "()I" } : Jvm.MethodName)) :: tS_2_525
def tS_2_523 : List Cond := (Jvm.Cond.instanceMethod ({ cls := "Runweaver$Row", name := "longestRun", desc := "()I" } : Jvm.MethodName)) :: tS_2_524
def tS_2_522 : List Cond := (Jvm.Cond.methodLink "Runweaver" (187 : Nat) ({ cls := "Runweaver$Row", name := "longestRun", desc := "()I" } : Jvm.MethodName)) :: tS_2_523
def tS_2_521 : List Cond := (Jvm.Cond.code ({ cls := "Runweaver", name := "longest", desc := "(I)I" } : Jvm.MethodName) prog_1_method_33_code (2 : Nat) (Option.some Jvm.ClassFile.FieldType.int)) :: tS_2_522
def tS_2_520 : List Cond := (Jvm.Cond.selects "Runweaver" ({ cls := "Runweaver", name := "longest", desc := "(I)I" } : Jvm.MethodName) ({ cls := "Runweaver", name := "longest", desc := "(I)I" } : Jvm.MethodName)) :: tS_2_521
def tS_2_519 : List Cond := (Jvm.Cond.instanceMethod ({ cls := "Runweaver", name := "longest", desc := "(I)I" } : Jvm.MethodName)) :: tS_2_520
def tS_2_518 : List Cond := (Jvm.Cond.methodLink "Runweaver" (270 : Nat) ({ cls := "Runweaver", name := "longest", desc := "(I)I" } : Jvm.MethodName)) :: tS_2_519
def tS_2_517 : List Cond := (Jvm.Cond.methodLink "Runweaver" (267 : Nat) ({ cls := "Runweaver", name := "runs", desc := "(I)I" } : Jvm.MethodName)) :: tS_2_518
def tS_2_516 : List Cond := (Jvm.Cond.methodLink "Runweaver" (264 : Nat) ({ cls := "Runweaver", name := "ties", desc := "(I)I" } : Jvm.MethodName)) :: tS_2_517
def tS_2_515 : List Cond := (Jvm.Cond.methodLink "Runweaver" (261 : Nat) ({ cls := "Runweaver", name := "wrong", desc := "(II)I" } : Jvm.MethodName)) :: tS_2_516
def tS_2_514 : List Cond := (Jvm.Cond.methodLink "Runweaver" (257 : Nat) ({ cls := "Runweaver", name := "mark", desc := "(IZ)I" } : Jvm.MethodName)) :: tS_2_515
def tS_2_513 : List Cond := (Jvm.Cond.methodLink "Runweaver" (254 : Nat) ({ cls := "Runweaver", name := "many", desc := "(I)I" } : Jvm.MethodName)) :: tS_2_514
def tS_2_512 : List Cond := (Jvm.Cond.constantLong "Runweaver" (252 : Nat) (31 : Int64)) :: tS_2_513
def tS_2_511 : List Cond := (Jvm.Cond.constantLong "Runweaver" (250 : Nat) (8007 : Int64)) :: tS_2_512
def tS_2_510 : List Cond := (Jvm.Cond.code ({ cls := "Runweaver", name := "digest", desc := "()J" } : Jvm.MethodName) prog_1_method_47_code (4 : Nat) (Option.some Jvm.ClassFile.FieldType.long)) :: tS_2_511
def tS_2_509 : List Cond := (Jvm.Cond.selects "Runweaver" ({ cls := "Runweaver", name := "digest", desc := "()J" } : Jvm.MethodName) ({ cls := "Runweaver", name := "digest", desc := "()J" } : Jvm.MethodName)) :: tS_2_510
def tS_2_508 : List Cond := (Jvm.Cond.instanceMethod ({ cls := "Runweaver", name := "digest", desc := "()J" } : Jvm.MethodName)) :: tS_2_509
def tS_2_507 : List Cond := (Jvm.Cond.methodLink "RunweaverLaw" (142 : Nat) ({ cls := "Runweaver", name := "digest", desc := "()J" } : Jvm.MethodName)) :: tS_2_508
def tS_2_506 : List Cond := (Jvm.Cond.code ({ cls := "RunweaverLaw", name := "isAsked", desc := "(LRunweaver;I)Z" } : Jvm.MethodName) method_11_code (6 : Nat) (Option.some Jvm.ClassFile.FieldType.boolean)) :: tS_2_507
def tS_2_505 : List Cond := (Jvm.Cond.static ({ cls := "RunweaverLaw", name := "isAsked", desc := "(LRunweaver;I)Z" } : Jvm.MethodName)) :: tS_2_506
def tS_2_504 : List Cond := (Jvm.Cond.methodLink "RunweaverLaw" (42 : Nat) ({ cls := "RunweaverLaw", name := "isAsked", desc := "(LRunweaver;I)Z" } : Jvm.MethodName)) :: tS_2_505
def tS_2_503 : List Cond := (Jvm.Cond.code ({ cls := "RunweaverLaw", name := "areMerged", desc := "(LRunweaver;I)Z" } : Jvm.MethodName) method_10_code (7 : Nat) (Option.some Jvm.ClassFile.FieldType.boolean)) :: tS_2_504
def tS_2_502 : List Cond := (Jvm.Cond.static ({ cls := "RunweaverLaw", name := "areMerged", desc := "(LRunweaver;I)Z" } : Jvm.MethodName)) :: tS_2_503
def tS_2_501 : List Cond := (Jvm.Cond.methodLink "RunweaverLaw" (39 : Nat) ({ cls := "RunweaverLaw", name := "areMerged", desc := "(LRunweaver;I)Z" } : Jvm.MethodName)) :: tS_2_502
def tS_2_500 : List Cond := (Jvm.Cond.code ({ cls := "RunweaverLaw", name := "isTurned", desc := "(LRunweaver;II)Z" } : Jvm.MethodName) method_9_code (5 : Nat) (Option.some Jvm.ClassFile.FieldType.boolean)) :: tS_2_501
def tS_2_499 : List Cond := (Jvm.Cond.static ({ cls := "RunweaverLaw", name := "isTurned", desc := "(LRunweaver;II)Z" } : Jvm.MethodName)) :: tS_2_500
def tS_2_498 : List Cond := (Jvm.Cond.methodLink "RunweaverLaw" (36 : Nat) ({ cls := "RunweaverLaw", name := "isTurned", desc := "(LRunweaver;II)Z" } : Jvm.MethodName)) :: tS_2_499
def tS_2_497 : List Cond := (Jvm.Cond.arrayClass Jvm.ClassFile.FieldType.boolean) :: tS_2_498
def tS_2_496 : List Cond := (Jvm.Cond.code ({ cls := "Runweaver", name := "same", desc := "(II)Z" } : Jvm.MethodName) prog_1_method_41_code (5 : Nat) (Option.some Jvm.ClassFile.FieldType.boolean)) :: tS_2_497
def tS_2_495 : List Cond := (Jvm.Cond.selects "Runweaver" ({ cls := "Runweaver", name := "same", desc := "(II)Z" } : Jvm.MethodName) ({ cls := "Runweaver", name := "same", desc := "(II)Z" } : Jvm.MethodName)) :: tS_2_496
def tS_2_494 : List Cond := (Jvm.Cond.instanceMethod ({ cls := "Runweaver", name := "same", desc := "(II)Z" } : Jvm.MethodName)) :: tS_2_495
def tS_2_493 : List Cond := (Jvm.Cond.methodLink "RunweaverLaw" (139 : Nat) ({ cls := "Runweaver", name := "same", desc := "(II)Z" } : Jvm.MethodName)) :: tS_2_494
def tS_2_492 : List Cond := (Jvm.Cond.code ({ cls := "Runweaver", name := "mark", desc := "(IZ)I" } : Jvm.MethodName) prog_1_method_43_code (6 : Nat) (Option.some Jvm.ClassFile.FieldType.int)) :: tS_2_493
def tS_2_491 : List Cond := (Jvm.Cond.selects "Runweaver" ({ cls := "Runweaver", name := "mark", desc := "(IZ)I" } : Jvm.MethodName) ({ cls := "Runweaver", name := "mark", desc := "(IZ)I" } : Jvm.MethodName)) :: tS_2_492
def tS_2_490 : List Cond := (Jvm.Cond.instanceMethod ({ cls := "Runweaver", name := "mark", desc := "(IZ)I" } : Jvm.MethodName)) :: tS_2_491
def tS_2_489 : List Cond := (Jvm.Cond.methodLink "RunweaverLaw" (136 : Nat) ({ cls := "Runweaver", name := "mark", desc := "(IZ)I" } : Jvm.MethodName)) :: tS_2_490
def tS_2_488 : List Cond := (Jvm.Cond.code ({ cls := "Runweaver", name := "bag", desc := "(II)Z" } : Jvm.MethodName) prog_1_method_42_code (5 : Nat) (Option.some Jvm.ClassFile.FieldType.boolean)) :: tS_2_489
def tS_2_487 : List Cond := (Jvm.Cond.selects "Runweaver" ({ cls := "Runweaver", name := "bag", desc := "(II)Z" } : Jvm.MethodName) ({ cls := "Runweaver", name := "bag", desc := "(II)Z" } : Jvm.MethodName)) :: tS_2_488
def tS_2_486 : List Cond := (Jvm.Cond.instanceMethod ({ cls := "Runweaver", name := "bag", desc := "(II)Z" } : Jvm.MethodName)) :: tS_2_487
def tS_2_485 : List Cond := (Jvm.Cond.methodLink "RunweaverLaw" (132 : Nat) ({ cls := "Runweaver", name := "bag", desc := "(II)Z" } : Jvm.MethodName)) :: tS_2_486
def tS_2_484 : List Cond := (Jvm.Cond.code ({ cls := "Runweaver$Row", name := "leastKey", desc := "()I" } : Jvm.MethodName) prog_3_method_27_code (3 : Nat) (Option.some Jvm.ClassFile.FieldType.int)) :: tS_2_485
def tS_2_483 : List Cond := (Jvm.Cond.selects "Runweaver$Row" ({ cls := "Runweaver$Row", name := "leastKey", desc := "()I" } : Jvm.MethodName) ({ cls := "Runweaver$Row", name := "leastKey", desc := "()I" } : Jvm.MethodName)) :: tS_2_484
def tS_2_482 : List Cond := (Jvm.Cond.instanceMethod ({ cls := "Runweaver$Row", name := "leastKey", desc := "()I" } : Jvm.MethodName)) :: tS_2_483
def tS_2_481 : List Cond := (Jvm.Cond.methodLink "Runweaver" (205 : Nat) ({ cls := "Runweaver$Row", name := "leastKey", desc := "()I" } : Jvm.MethodName)) :: tS_2_482
def tS_2_480 : List Cond := (Jvm.Cond.code ({ cls := "java/lang/Math", name := "max", desc := "(II)I" } : Jvm.MethodName) prog_12_method_65_code (2 : Nat) (Option.some Jvm.ClassFile.FieldType.int)) :: tS_2_481
set_option maxRecDepth 100000 in
theorem tU_2 : tables_1_3 = tS_2_480 := rfl
theorem tV_2_480 {w : Cond} (h0 : w ∈ tS_2_480) : w ∈ lw_tbl := List.mem_append_left _ (List.mem_append_right _ (have h : w ∈ tables_1_3 := tU_2 ▸ h0; (List.mem_append_right _ (List.mem_append_right _ (List.mem_append_left _ h)) : w ∈ tables_1)))
theorem tV_2_481 {w : Cond} (h : w ∈ tS_2_481) : w ∈ lw_tbl := tV_2_480 (List.mem_cons_of_mem _ h)
theorem tV_2_482 {w : Cond} (h : w ∈ tS_2_482) : w ∈ lw_tbl := tV_2_481 (List.mem_cons_of_mem _ h)
theorem tV_2_483 {w : Cond} (h : w ∈ tS_2_483) : w ∈ lw_tbl := tV_2_482 (List.mem_cons_of_mem _ h)
theorem tV_2_484 {w : Cond} (h : w ∈ tS_2_484) : w ∈ lw_tbl := tV_2_483 (List.mem_cons_of_mem _ h)
theorem tV_2_485 {w : Cond} (h : w ∈ tS_2_485) : w ∈ lw_tbl := tV_2_484 (List.mem_cons_of_mem _ h)
theorem tV_2_486 {w : Cond} (h : w ∈ tS_2_486) : w ∈ lw_tbl := tV_2_485 (List.mem_cons_of_mem _ h)
theorem tV_2_487 {w : Cond} (h : w ∈ tS_2_487) : w ∈ lw_tbl := tV_2_486 (List.mem_cons_of_mem _ h)
theorem tV_2_488 {w : Cond} (h : w ∈ tS_2_488) : w ∈ lw_tbl := tV_2_487 (List.mem_cons_of_mem _ h)
theorem tV_2_489 {w : Cond} (h : w ∈ tS_2_489) : w ∈ lw_tbl := tV_2_488 (List.mem_cons_of_mem _ h)
theorem tV_2_490 {w : Cond} (h : w ∈ tS_2_490) : w ∈ lw_tbl := tV_2_489 (List.mem_cons_of_mem _ h)
theorem tV_2_491 {w : Cond} (h : w ∈ tS_2_491) : w ∈ lw_tbl := tV_2_490 (List.mem_cons_of_mem _ h)
theorem tV_2_492 {w : Cond} (h : w ∈ tS_2_492) : w ∈ lw_tbl := tV_2_491 (List.mem_cons_of_mem _ h)
theorem tV_2_493 {w : Cond} (h : w ∈ tS_2_493) : w ∈ lw_tbl := tV_2_492 (List.mem_cons_of_mem _ h)
theorem tV_2_494 {w : Cond} (h : w ∈ tS_2_494) : w ∈ lw_tbl := tV_2_493 (List.mem_cons_of_mem _ h)
theorem tV_2_495 {w : Cond} (h : w ∈ tS_2_495) : w ∈ lw_tbl := tV_2_494 (List.mem_cons_of_mem _ h)
theorem tV_2_496 {w : Cond} (h : w ∈ tS_2_496) : w ∈ lw_tbl := tV_2_495 (List.mem_cons_of_mem _ h)
theorem tV_2_497 {w : Cond} (h : w ∈ tS_2_497) : w ∈ lw_tbl := tV_2_496 (List.mem_cons_of_mem _ h)
theorem tV_2_498 {w : Cond} (h : w ∈ tS_2_498) : w ∈ lw_tbl := tV_2_497 (List.mem_cons_of_mem _ h)
theorem tV_2_499 {w : Cond} (h : w ∈ tS_2_499) : w ∈ lw_tbl := tV_2_498 (List.mem_cons_of_mem _ h)
theorem tV_2_500 {w : Cond} (h : w ∈ tS_2_500) : w ∈ lw_tbl := tV_2_499 (List.mem_cons_of_mem _ h)
theorem tV_2_501 {w : Cond} (h : w ∈ tS_2_501) : w ∈ lw_tbl := tV_2_500 (List.mem_cons_of_mem _ h)
theorem tV_2_502 {w : Cond} (h : w ∈ tS_2_502) : w ∈ lw_tbl := tV_2_501 (List.mem_cons_of_mem _ h)
theorem tV_2_503 {w : Cond} (h : w ∈ tS_2_503) : w ∈ lw_tbl := tV_2_502 (List.mem_cons_of_mem _ h)
theorem tV_2_504 {w : Cond} (h : w ∈ tS_2_504) : w ∈ lw_tbl := tV_2_503 (List.mem_cons_of_mem _ h)
theorem tV_2_505 {w : Cond} (h : w ∈ tS_2_505) : w ∈ lw_tbl := tV_2_504 (List.mem_cons_of_mem _ h)
theorem tV_2_506 {w : Cond} (h : w ∈ tS_2_506) : w ∈ lw_tbl := tV_2_505 (List.mem_cons_of_mem _ h)
theorem tV_2_507 {w : Cond} (h : w ∈ tS_2_507) : w ∈ lw_tbl := tV_2_506 (List.mem_cons_of_mem _ h)
theorem tV_2_508 {w : Cond} (h : w ∈ tS_2_508) : w ∈ lw_tbl := tV_2_507 (List.mem_cons_of_mem _ h)
theorem tV_2_509 {w : Cond} (h : w ∈ tS_2_509) : w ∈ lw_tbl := tV_2_508 (List.mem_cons_of_mem _ h)
theorem tV_2_510 {w : Cond} (h : w ∈ tS_2_510) : w ∈ lw_tbl := tV_2_509 (List.mem_cons_of_mem _ h)
theorem tV_2_511 {w : Cond} (h : w ∈ tS_2_511) : w ∈ lw_tbl := tV_2_510 (List.mem_cons_of_mem _ h)
theorem tV_2_512 {w : Cond} (h : w ∈ tS_2_512) : w ∈ lw_tbl := tV_2_511 (List.mem_cons_of_mem _ h)
theorem tV_2_513 {w : Cond} (h : w ∈ tS_2_513) : w ∈ lw_tbl := tV_2_512 (List.mem_cons_of_mem _ h)
theorem tV_2_514 {w : Cond} (h : w ∈ tS_2_514) : w ∈ lw_tbl := tV_2_513 (List.mem_cons_of_mem _ h)
theorem tV_2_515 {w : Cond} (h : w ∈ tS_2_515) : w ∈ lw_tbl := tV_2_514 (List.mem_cons_of_mem _ h)
theorem tV_2_516 {w : Cond} (h : w ∈ tS_2_516) : w ∈ lw_tbl := tV_2_515 (List.mem_cons_of_mem _ h)
theorem tV_2_517 {w : Cond} (h : w ∈ tS_2_517) : w ∈ lw_tbl := tV_2_516 (List.mem_cons_of_mem _ h)
theorem tV_2_518 {w : Cond} (h : w ∈ tS_2_518) : w ∈ lw_tbl := tV_2_517 (List.mem_cons_of_mem _ h)
theorem tV_2_519 {w : Cond} (h : w ∈ tS_2_519) : w ∈ lw_tbl := tV_2_518 (List.mem_cons_of_mem _ h)
theorem tV_2_520 {w : Cond} (h : w ∈ tS_2_520) : w ∈ lw_tbl := tV_2_519 (List.mem_cons_of_mem _ h)
theorem tV_2_521 {w : Cond} (h : w ∈ tS_2_521) : w ∈ lw_tbl := tV_2_520 (List.mem_cons_of_mem _ h)
theorem tV_2_522 {w : Cond} (h : w ∈ tS_2_522) : w ∈ lw_tbl := tV_2_521 (List.mem_cons_of_mem _ h)
theorem tV_2_523 {w : Cond} (h : w ∈ tS_2_523) : w ∈ lw_tbl := tV_2_522 (List.mem_cons_of_mem _ h)
theorem tV_2_524 {w : Cond} (h : w ∈ tS_2_524) : w ∈ lw_tbl := tV_2_523 (List.mem_cons_of_mem _ h)
theorem tV_2_525 {w : Cond} (h : w ∈ tS_2_525) : w ∈ lw_tbl := tV_2_524 (List.mem_cons_of_mem _ h)
theorem tV_2_526 {w : Cond} (h : w ∈ tS_2_526) : w ∈ lw_tbl := tV_2_525 (List.mem_cons_of_mem _ h)
theorem tV_2_527 {w : Cond} (h : w ∈ tS_2_527) : w ∈ lw_tbl := tV_2_526 (List.mem_cons_of_mem _ h)
theorem tV_2_528 {w : Cond} (h : w ∈ tS_2_528) : w ∈ lw_tbl := tV_2_527 (List.mem_cons_of_mem _ h)
theorem tV_2_529 {w : Cond} (h : w ∈ tS_2_529) : w ∈ lw_tbl := tV_2_528 (List.mem_cons_of_mem _ h)
theorem tV_2_530 {w : Cond} (h : w ∈ tS_2_530) : w ∈ lw_tbl := tV_2_529 (List.mem_cons_of_mem _ h)
theorem tV_2_531 {w : Cond} (h : w ∈ tS_2_531) : w ∈ lw_tbl := tV_2_530 (List.mem_cons_of_mem _ h)
theorem tV_2_532 {w : Cond} (h : w ∈ tS_2_532) : w ∈ lw_tbl := tV_2_531 (List.mem_cons_of_mem _ h)
theorem tV_2_533 {w : Cond} (h : w ∈ tS_2_533) : w ∈ lw_tbl := tV_2_532 (List.mem_cons_of_mem _ h)
theorem tV_2_534 {w : Cond} (h : w ∈ tS_2_534) : w ∈ lw_tbl := tV_2_533 (List.mem_cons_of_mem _ h)
theorem tV_2_535 {w : Cond} (h : w ∈ tS_2_535) : w ∈ lw_tbl := tV_2_534 (List.mem_cons_of_mem _ h)
theorem tV_2_536 {w : Cond} (h : w ∈ tS_2_536) : w ∈ lw_tbl := tV_2_535 (List.mem_cons_of_mem _ h)
theorem tV_2_537 {w : Cond} (h : w ∈ tS_2_537) : w ∈ lw_tbl := tV_2_536 (List.mem_cons_of_mem _ h)
theorem tV_2_538 {w : Cond} (h : w ∈ tS_2_538) : w ∈ lw_tbl := tV_2_537 (List.mem_cons_of_mem _ h)
theorem tV_2_539 {w : Cond} (h : w ∈ tS_2_539) : w ∈ lw_tbl := tV_2_538 (List.mem_cons_of_mem _ h)
theorem tV_2_540 {w : Cond} (h : w ∈ tS_2_540) : w ∈ lw_tbl := tV_2_539 (List.mem_cons_of_mem _ h)
theorem tV_2_541 {w : Cond} (h : w ∈ tS_2_541) : w ∈ lw_tbl := tV_2_540 (List.mem_cons_of_mem _ h)
theorem tV_2_542 {w : Cond} (h : w ∈ tS_2_542) : w ∈ lw_tbl := tV_2_541 (List.mem_cons_of_mem _ h)
theorem tV_2_543 {w : Cond} (h : w ∈ tS_2_543) : w ∈ lw_tbl := tV_2_542 (List.mem_cons_of_mem _ h)
theorem tV_2_544 {w : Cond} (h : w ∈ tS_2_544) : w ∈ lw_tbl := tV_2_543 (List.mem_cons_of_mem _ h)
theorem tV_2_545 {w : Cond} (h : w ∈ tS_2_545) : w ∈ lw_tbl := tV_2_544 (List.mem_cons_of_mem _ h)
theorem tV_2_546 {w : Cond} (h : w ∈ tS_2_546) : w ∈ lw_tbl := tV_2_545 (List.mem_cons_of_mem _ h)
theorem tV_2_547 {w : Cond} (h : w ∈ tS_2_547) : w ∈ lw_tbl := tV_2_546 (List.mem_cons_of_mem _ h)
theorem tV_2_548 {w : Cond} (h : w ∈ tS_2_548) : w ∈ lw_tbl := tV_2_547 (List.mem_cons_of_mem _ h)
theorem tV_2_549 {w : Cond} (h : w ∈ tS_2_549) : w ∈ lw_tbl := tV_2_548 (List.mem_cons_of_mem _ h)
theorem tV_2_550 {w : Cond} (h : w ∈ tS_2_550) : w ∈ lw_tbl := tV_2_549 (List.mem_cons_of_mem _ h)
theorem tV_2_551 {w : Cond} (h : w ∈ tS_2_551) : w ∈ lw_tbl := tV_2_550 (List.mem_cons_of_mem _ h)
theorem tV_2_552 {w : Cond} (h : w ∈ tS_2_552) : w ∈ lw_tbl := tV_2_551 (List.mem_cons_of_mem _ h)
theorem tV_2_553 {w : Cond} (h : w ∈ tS_2_553) : w ∈ lw_tbl := tV_2_552 (List.mem_cons_of_mem _ h)
theorem tV_2_554 {w : Cond} (h : w ∈ tS_2_554) : w ∈ lw_tbl := tV_2_553 (List.mem_cons_of_mem _ h)
theorem tV_2_555 {w : Cond} (h : w ∈ tS_2_555) : w ∈ lw_tbl := tV_2_554 (List.mem_cons_of_mem _ h)
theorem tV_2_556 {w : Cond} (h : w ∈ tS_2_556) : w ∈ lw_tbl := tV_2_555 (List.mem_cons_of_mem _ h)
theorem tV_2_557 {w : Cond} (h : w ∈ tS_2_557) : w ∈ lw_tbl := tV_2_556 (List.mem_cons_of_mem _ h)
theorem tV_2_558 {w : Cond} (h : w ∈ tS_2_558) : w ∈ lw_tbl := tV_2_557 (List.mem_cons_of_mem _ h)
theorem tV_2_559 {w : Cond} (h : w ∈ tS_2_559) : w ∈ lw_tbl := tV_2_558 (List.mem_cons_of_mem _ h)
theorem tV_2_560 {w : Cond} (h : w ∈ tS_2_560) : w ∈ lw_tbl := tV_2_559 (List.mem_cons_of_mem _ h)
theorem tV_2_561 {w : Cond} (h : w ∈ tS_2_561) : w ∈ lw_tbl := tV_2_560 (List.mem_cons_of_mem _ h)
theorem tV_2_562 {w : Cond} (h : w ∈ tS_2_562) : w ∈ lw_tbl := tV_2_561 (List.mem_cons_of_mem _ h)
theorem tV_2_563 {w : Cond} (h : w ∈ tS_2_563) : w ∈ lw_tbl := tV_2_562 (List.mem_cons_of_mem _ h)
theorem tV_2_564 {w : Cond} (h : w ∈ tS_2_564) : w ∈ lw_tbl := tV_2_563 (List.mem_cons_of_mem _ h)
theorem tV_2_565 {w : Cond} (h : w ∈ tS_2_565) : w ∈ lw_tbl := tV_2_564 (List.mem_cons_of_mem _ h)
theorem tV_2_566 {w : Cond} (h : w ∈ tS_2_566) : w ∈ lw_tbl := tV_2_565 (List.mem_cons_of_mem _ h)
theorem tV_2_567 {w : Cond} (h : w ∈ tS_2_567) : w ∈ lw_tbl := tV_2_566 (List.mem_cons_of_mem _ h)
theorem tV_2_568 {w : Cond} (h : w ∈ tS_2_568) : w ∈ lw_tbl := tV_2_567 (List.mem_cons_of_mem _ h)
theorem tV_2_569 {w : Cond} (h : w ∈ tS_2_569) : w ∈ lw_tbl := tV_2_568 (List.mem_cons_of_mem _ h)
theorem tV_2_570 {w : Cond} (h : w ∈ tS_2_570) : w ∈ lw_tbl := tV_2_569 (List.mem_cons_of_mem _ h)
theorem tV_2_571 {w : Cond} (h : w ∈ tS_2_571) : w ∈ lw_tbl := tV_2_570 (List.mem_cons_of_mem _ h)
theorem tV_2_572 {w : Cond} (h : w ∈ tS_2_572) : w ∈ lw_tbl := tV_2_571 (List.mem_cons_of_mem _ h)
theorem tV_2_573 {w : Cond} (h : w ∈ tS_2_573) : w ∈ lw_tbl := tV_2_572 (List.mem_cons_of_mem _ h)
theorem tV_2_574 {w : Cond} (h : w ∈ tS_2_574) : w ∈ lw_tbl := tV_2_573 (List.mem_cons_of_mem _ h)
theorem tV_2_575 {w : Cond} (h : w ∈ tS_2_575) : w ∈ lw_tbl := tV_2_574 (List.mem_cons_of_mem _ h)
theorem tV_2_576 {w : Cond} (h : w ∈ tS_2_576) : w ∈ lw_tbl := tV_2_575 (List.mem_cons_of_mem _ h)
theorem tV_2_577 {w : Cond} (h : w ∈ tS_2_577) : w ∈ lw_tbl := tV_2_576 (List.mem_cons_of_mem _ h)
theorem tV_2_578 {w : Cond} (h : w ∈ tS_2_578) : w ∈ lw_tbl := tV_2_577 (List.mem_cons_of_mem _ h)
theorem tV_2_579 {w : Cond} (h : w ∈ tS_2_579) : w ∈ lw_tbl := tV_2_578 (List.mem_cons_of_mem _ h)
theorem tV_2_580 {w : Cond} (h : w ∈ tS_2_580) : w ∈ lw_tbl := tV_2_579 (List.mem_cons_of_mem _ h)
theorem tV_2_581 {w : Cond} (h : w ∈ tS_2_581) : w ∈ lw_tbl := tV_2_580 (List.mem_cons_of_mem _ h)
theorem tV_2_582 {w : Cond} (h : w ∈ tS_2_582) : w ∈ lw_tbl := tV_2_581 (List.mem_cons_of_mem _ h)
theorem tV_2_583 {w : Cond} (h : w ∈ tS_2_583) : w ∈ lw_tbl := tV_2_582 (List.mem_cons_of_mem _ h)
theorem tV_2_584 {w : Cond} (h : w ∈ tS_2_584) : w ∈ lw_tbl := tV_2_583 (List.mem_cons_of_mem _ h)
theorem tV_2_585 {w : Cond} (h : w ∈ tS_2_585) : w ∈ lw_tbl := tV_2_584 (List.mem_cons_of_mem _ h)
theorem tV_2_586 {w : Cond} (h : w ∈ tS_2_586) : w ∈ lw_tbl := tV_2_585 (List.mem_cons_of_mem _ h)
theorem tV_2_587 {w : Cond} (h : w ∈ tS_2_587) : w ∈ lw_tbl := tV_2_586 (List.mem_cons_of_mem _ h)
theorem tV_2_588 {w : Cond} (h : w ∈ tS_2_588) : w ∈ lw_tbl := tV_2_587 (List.mem_cons_of_mem _ h)
theorem tV_2_589 {w : Cond} (h : w ∈ tS_2_589) : w ∈ lw_tbl := tV_2_588 (List.mem_cons_of_mem _ h)
theorem tV_2_590 {w : Cond} (h : w ∈ tS_2_590) : w ∈ lw_tbl := tV_2_589 (List.mem_cons_of_mem _ h)
theorem tV_2_591 {w : Cond} (h : w ∈ tS_2_591) : w ∈ lw_tbl := tV_2_590 (List.mem_cons_of_mem _ h)
theorem tV_2_592 {w : Cond} (h : w ∈ tS_2_592) : w ∈ lw_tbl := tV_2_591 (List.mem_cons_of_mem _ h)
theorem tV_2_593 {w : Cond} (h : w ∈ tS_2_593) : w ∈ lw_tbl := tV_2_592 (List.mem_cons_of_mem _ h)
theorem tV_2_594 {w : Cond} (h : w ∈ tS_2_594) : w ∈ lw_tbl := tV_2_593 (List.mem_cons_of_mem _ h)
theorem tV_2_595 {w : Cond} (h : w ∈ tS_2_595) : w ∈ lw_tbl := tV_2_594 (List.mem_cons_of_mem _ h)
theorem tV_2_596 {w : Cond} (h : w ∈ tS_2_596) : w ∈ lw_tbl := tV_2_595 (List.mem_cons_of_mem _ h)
theorem tV_2_597 {w : Cond} (h : w ∈ tS_2_597) : w ∈ lw_tbl := tV_2_596 (List.mem_cons_of_mem _ h)
theorem tV_2_598 {w : Cond} (h : w ∈ tS_2_598) : w ∈ lw_tbl := tV_2_597 (List.mem_cons_of_mem _ h)
theorem tV_2_599 {w : Cond} (h : w ∈ tS_2_599) : w ∈ lw_tbl := tV_2_598 (List.mem_cons_of_mem _ h)
theorem tV_2_600 {w : Cond} (h : w ∈ tS_2_600) : w ∈ lw_tbl := tV_2_599 (List.mem_cons_of_mem _ h)
theorem tV_2_601 {w : Cond} (h : w ∈ tS_2_601) : w ∈ lw_tbl := tV_2_600 (List.mem_cons_of_mem _ h)
theorem tV_2_602 {w : Cond} (h : w ∈ tS_2_602) : w ∈ lw_tbl := tV_2_601 (List.mem_cons_of_mem _ h)
theorem tV_2_603 {w : Cond} (h : w ∈ tS_2_603) : w ∈ lw_tbl := tV_2_602 (List.mem_cons_of_mem _ h)
theorem tV_2_604 {w : Cond} (h : w ∈ tS_2_604) : w ∈ lw_tbl := tV_2_603 (List.mem_cons_of_mem _ h)
theorem tV_2_605 {w : Cond} (h : w ∈ tS_2_605) : w ∈ lw_tbl := tV_2_604 (List.mem_cons_of_mem _ h)
theorem tV_2_606 {w : Cond} (h : w ∈ tS_2_606) : w ∈ lw_tbl := tV_2_605 (List.mem_cons_of_mem _ h)
theorem tV_2_607 {w : Cond} (h : w ∈ tS_2_607) : w ∈ lw_tbl := tV_2_606 (List.mem_cons_of_mem _ h)
theorem tV_2_608 {w : Cond} (h : w ∈ tS_2_608) : w ∈ lw_tbl := tV_2_607 (List.mem_cons_of_mem _ h)
theorem tV_2_609 {w : Cond} (h : w ∈ tS_2_609) : w ∈ lw_tbl := tV_2_608 (List.mem_cons_of_mem _ h)
theorem tV_2_610 {w : Cond} (h : w ∈ tS_2_610) : w ∈ lw_tbl := tV_2_609 (List.mem_cons_of_mem _ h)
theorem tV_2_611 {w : Cond} (h : w ∈ tS_2_611) : w ∈ lw_tbl := tV_2_610 (List.mem_cons_of_mem _ h)
theorem tV_2_612 {w : Cond} (h : w ∈ tS_2_612) : w ∈ lw_tbl := tV_2_611 (List.mem_cons_of_mem _ h)
theorem tV_2_613 {w : Cond} (h : w ∈ tS_2_613) : w ∈ lw_tbl := tV_2_612 (List.mem_cons_of_mem _ h)
theorem tV_2_614 {w : Cond} (h : w ∈ tS_2_614) : w ∈ lw_tbl := tV_2_613 (List.mem_cons_of_mem _ h)
theorem tV_2_615 {w : Cond} (h : w ∈ tS_2_615) : w ∈ lw_tbl := tV_2_614 (List.mem_cons_of_mem _ h)
theorem tV_2_616 {w : Cond} (h : w ∈ tS_2_616) : w ∈ lw_tbl := tV_2_615 (List.mem_cons_of_mem _ h)
theorem tV_2_617 {w : Cond} (h : w ∈ tS_2_617) : w ∈ lw_tbl := tV_2_616 (List.mem_cons_of_mem _ h)
theorem tV_2_618 {w : Cond} (h : w ∈ tS_2_618) : w ∈ lw_tbl := tV_2_617 (List.mem_cons_of_mem _ h)
theorem tV_2_619 {w : Cond} (h : w ∈ tS_2_619) : w ∈ lw_tbl := tV_2_618 (List.mem_cons_of_mem _ h)
theorem tV_2_620 {w : Cond} (h : w ∈ tS_2_620) : w ∈ lw_tbl := tV_2_619 (List.mem_cons_of_mem _ h)
theorem tV_2_621 {w : Cond} (h : w ∈ tS_2_621) : w ∈ lw_tbl := tV_2_620 (List.mem_cons_of_mem _ h)
theorem tV_2_622 {w : Cond} (h : w ∈ tS_2_622) : w ∈ lw_tbl := tV_2_621 (List.mem_cons_of_mem _ h)
theorem tV_2_623 {w : Cond} (h : w ∈ tS_2_623) : w ∈ lw_tbl := tV_2_622 (List.mem_cons_of_mem _ h)
theorem tV_2_624 {w : Cond} (h : w ∈ tS_2_624) : w ∈ lw_tbl := tV_2_623 (List.mem_cons_of_mem _ h)
theorem tV_2_625 {w : Cond} (h : w ∈ tS_2_625) : w ∈ lw_tbl := tV_2_624 (List.mem_cons_of_mem _ h)
theorem tV_2_626 {w : Cond} (h : w ∈ tS_2_626) : w ∈ lw_tbl := tV_2_625 (List.mem_cons_of_mem _ h)
theorem tV_2_627 {w : Cond} (h : w ∈ tS_2_627) : w ∈ lw_tbl := tV_2_626 (List.mem_cons_of_mem _ h)
theorem tV_2_628 {w : Cond} (h : w ∈ tS_2_628) : w ∈ lw_tbl := tV_2_627 (List.mem_cons_of_mem _ h)
theorem tV_2_629 {w : Cond} (h : w ∈ tS_2_629) : w ∈ lw_tbl := tV_2_628 (List.mem_cons_of_mem _ h)
theorem tV_2_630 {w : Cond} (h : w ∈ tS_2_630) : w ∈ lw_tbl := tV_2_629 (List.mem_cons_of_mem _ h)
theorem tV_2_631 {w : Cond} (h : w ∈ tS_2_631) : w ∈ lw_tbl := tV_2_630 (List.mem_cons_of_mem _ h)
theorem tV_2_632 {w : Cond} (h : w ∈ tS_2_632) : w ∈ lw_tbl := tV_2_631 (List.mem_cons_of_mem _ h)
theorem tV_2_633 {w : Cond} (h : w ∈ tS_2_633) : w ∈ lw_tbl := tV_2_632 (List.mem_cons_of_mem _ h)
theorem tV_2_634 {w : Cond} (h : w ∈ tS_2_634) : w ∈ lw_tbl := tV_2_633 (List.mem_cons_of_mem _ h)
theorem tV_2_635 {w : Cond} (h : w ∈ tS_2_635) : w ∈ lw_tbl := tV_2_634 (List.mem_cons_of_mem _ h)
theorem tV_2_636 {w : Cond} (h : w ∈ tS_2_636) : w ∈ lw_tbl := tV_2_635 (List.mem_cons_of_mem _ h)
theorem tV_2_637 {w : Cond} (h : w ∈ tS_2_637) : w ∈ lw_tbl := tV_2_636 (List.mem_cons_of_mem _ h)
theorem tV_2_638 {w : Cond} (h : w ∈ tS_2_638) : w ∈ lw_tbl := tV_2_637 (List.mem_cons_of_mem _ h)
theorem tV_2_639 {w : Cond} (h : w ∈ tS_2_639) : w ∈ lw_tbl := tV_2_638 (List.mem_cons_of_mem _ h)
theorem tV_2_640 {w : Cond} (h : w ∈ tS_2_640) : w ∈ lw_tbl := tV_2_639 (List.mem_cons_of_mem _ h)
theorem tV_2_641 {w : Cond} (h : w ∈ tS_2_641) : w ∈ lw_tbl := tV_2_640 (List.mem_cons_of_mem _ h)
theorem tV_2_642 {w : Cond} (h : w ∈ tS_2_642) : w ∈ lw_tbl := tV_2_641 (List.mem_cons_of_mem _ h)
theorem tV_2_643 {w : Cond} (h : w ∈ tS_2_643) : w ∈ lw_tbl := tV_2_642 (List.mem_cons_of_mem _ h)
theorem tV_2_644 {w : Cond} (h : w ∈ tS_2_644) : w ∈ lw_tbl := tV_2_643 (List.mem_cons_of_mem _ h)
theorem tV_2_645 {w : Cond} (h : w ∈ tS_2_645) : w ∈ lw_tbl := tV_2_644 (List.mem_cons_of_mem _ h)
theorem tV_2_646 {w : Cond} (h : w ∈ tS_2_646) : w ∈ lw_tbl := tV_2_645 (List.mem_cons_of_mem _ h)
theorem tV_2_647 {w : Cond} (h : w ∈ tS_2_647) : w ∈ lw_tbl := tV_2_646 (List.mem_cons_of_mem _ h)
theorem tV_2_648 {w : Cond} (h : w ∈ tS_2_648) : w ∈ lw_tbl := tV_2_647 (List.mem_cons_of_mem _ h)
theorem tV_2_649 {w : Cond} (h : w ∈ tS_2_649) : w ∈ lw_tbl := tV_2_648 (List.mem_cons_of_mem _ h)
theorem tV_2_650 {w : Cond} (h : w ∈ tS_2_650) : w ∈ lw_tbl := tV_2_649 (List.mem_cons_of_mem _ h)
theorem tV_2_651 {w : Cond} (h : w ∈ tS_2_651) : w ∈ lw_tbl := tV_2_650 (List.mem_cons_of_mem _ h)
theorem tV_2_652 {w : Cond} (h : w ∈ tS_2_652) : w ∈ lw_tbl := tV_2_651 (List.mem_cons_of_mem _ h)
theorem tV_2_653 {w : Cond} (h : w ∈ tS_2_653) : w ∈ lw_tbl := tV_2_652 (List.mem_cons_of_mem _ h)
theorem tV_2_654 {w : Cond} (h : w ∈ tS_2_654) : w ∈ lw_tbl := tV_2_653 (List.mem_cons_of_mem _ h)
theorem tV_2_655 {w : Cond} (h : w ∈ tS_2_655) : w ∈ lw_tbl := tV_2_654 (List.mem_cons_of_mem _ h)
theorem tV_2_656 {w : Cond} (h : w ∈ tS_2_656) : w ∈ lw_tbl := tV_2_655 (List.mem_cons_of_mem _ h)
theorem tV_2_657 {w : Cond} (h : w ∈ tS_2_657) : w ∈ lw_tbl := tV_2_656 (List.mem_cons_of_mem _ h)
theorem tV_2_658 {w : Cond} (h : w ∈ tS_2_658) : w ∈ lw_tbl := tV_2_657 (List.mem_cons_of_mem _ h)
theorem tV_2_659 {w : Cond} (h : w ∈ tS_2_659) : w ∈ lw_tbl := tV_2_658 (List.mem_cons_of_mem _ h)
theorem tV_2_660 {w : Cond} (h : w ∈ tS_2_660) : w ∈ lw_tbl := tV_2_659 (List.mem_cons_of_mem _ h)
theorem tV_2_661 {w : Cond} (h : w ∈ tS_2_661) : w ∈ lw_tbl := tV_2_660 (List.mem_cons_of_mem _ h)
theorem tV_2_662 {w : Cond} (h : w ∈ tS_2_662) : w ∈ lw_tbl := tV_2_661 (List.mem_cons_of_mem _ h)
theorem tV_2_663 {w : Cond} (h : w ∈ tS_2_663) : w ∈ lw_tbl := tV_2_662 (List.mem_cons_of_mem _ h)
theorem tV_2_664 {w : Cond} (h : w ∈ tS_2_664) : w ∈ lw_tbl := tV_2_663 (List.mem_cons_of_mem _ h)
theorem tV_2_665 {w : Cond} (h : w ∈ tS_2_665) : w ∈ lw_tbl := tV_2_664 (List.mem_cons_of_mem _ h)
theorem tV_2_666 {w : Cond} (h : w ∈ tS_2_666) : w ∈ lw_tbl := tV_2_665 (List.mem_cons_of_mem _ h)
theorem tV_2_667 {w : Cond} (h : w ∈ tS_2_667) : w ∈ lw_tbl := tV_2_666 (List.mem_cons_of_mem _ h)
theorem tV_2_668 {w : Cond} (h : w ∈ tS_2_668) : w ∈ lw_tbl := tV_2_667 (List.mem_cons_of_mem _ h)
theorem tV_2_669 {w : Cond} (h : w ∈ tS_2_669) : w ∈ lw_tbl := tV_2_668 (List.mem_cons_of_mem _ h)
theorem tV_2_670 {w : Cond} (h : w ∈ tS_2_670) : w ∈ lw_tbl := tV_2_669 (List.mem_cons_of_mem _ h)
theorem tV_2_671 {w : Cond} (h : w ∈ tS_2_671) : w ∈ lw_tbl := tV_2_670 (List.mem_cons_of_mem _ h)
theorem tV_2_672 {w : Cond} (h : w ∈ tS_2_672) : w ∈ lw_tbl := tV_2_671 (List.mem_cons_of_mem _ h)
theorem tV_2_673 {w : Cond} (h : w ∈ tS_2_673) : w ∈ lw_tbl := tV_2_672 (List.mem_cons_of_mem _ h)
theorem tV_2_674 {w : Cond} (h : w ∈ tS_2_674) : w ∈ lw_tbl := tV_2_673 (List.mem_cons_of_mem _ h)
theorem tV_2_675 {w : Cond} (h : w ∈ tS_2_675) : w ∈ lw_tbl := tV_2_674 (List.mem_cons_of_mem _ h)
theorem tV_2_676 {w : Cond} (h : w ∈ tS_2_676) : w ∈ lw_tbl := tV_2_675 (List.mem_cons_of_mem _ h)
theorem tV_2_677 {w : Cond} (h : w ∈ tS_2_677) : w ∈ lw_tbl := tV_2_676 (List.mem_cons_of_mem _ h)
theorem tV_2_678 {w : Cond} (h : w ∈ tS_2_678) : w ∈ lw_tbl := tV_2_677 (List.mem_cons_of_mem _ h)
theorem tV_2_679 {w : Cond} (h : w ∈ tS_2_679) : w ∈ lw_tbl := tV_2_678 (List.mem_cons_of_mem _ h)
theorem tV_2_680 {w : Cond} (h : w ∈ tS_2_680) : w ∈ lw_tbl := tV_2_679 (List.mem_cons_of_mem _ h)
theorem tV_2_681 {w : Cond} (h : w ∈ tS_2_681) : w ∈ lw_tbl := tV_2_680 (List.mem_cons_of_mem _ h)
theorem tV_2_682 {w : Cond} (h : w ∈ tS_2_682) : w ∈ lw_tbl := tV_2_681 (List.mem_cons_of_mem _ h)
theorem tV_2_683 {w : Cond} (h : w ∈ tS_2_683) : w ∈ lw_tbl := tV_2_682 (List.mem_cons_of_mem _ h)
theorem tV_2_684 {w : Cond} (h : w ∈ tS_2_684) : w ∈ lw_tbl := tV_2_683 (List.mem_cons_of_mem _ h)
theorem tV_2_685 {w : Cond} (h : w ∈ tS_2_685) : w ∈ lw_tbl := tV_2_684 (List.mem_cons_of_mem _ h)
theorem tV_2_686 {w : Cond} (h : w ∈ tS_2_686) : w ∈ lw_tbl := tV_2_685 (List.mem_cons_of_mem _ h)
theorem tV_2_687 {w : Cond} (h : w ∈ tS_2_687) : w ∈ lw_tbl := tV_2_686 (List.mem_cons_of_mem _ h)
theorem tV_2_688 {w : Cond} (h : w ∈ tS_2_688) : w ∈ lw_tbl := tV_2_687 (List.mem_cons_of_mem _ h)
theorem tV_2_689 {w : Cond} (h : w ∈ tS_2_689) : w ∈ lw_tbl := tV_2_688 (List.mem_cons_of_mem _ h)
theorem tV_2_690 {w : Cond} (h : w ∈ tS_2_690) : w ∈ lw_tbl := tV_2_689 (List.mem_cons_of_mem _ h)
theorem tV_2_691 {w : Cond} (h : w ∈ tS_2_691) : w ∈ lw_tbl := tV_2_690 (List.mem_cons_of_mem _ h)
theorem tV_2_692 {w : Cond} (h : w ∈ tS_2_692) : w ∈ lw_tbl := tV_2_691 (List.mem_cons_of_mem _ h)
theorem tV_2_693 {w : Cond} (h : w ∈ tS_2_693) : w ∈ lw_tbl := tV_2_692 (List.mem_cons_of_mem _ h)
theorem tV_2_694 {w : Cond} (h : w ∈ tS_2_694) : w ∈ lw_tbl := tV_2_693 (List.mem_cons_of_mem _ h)
theorem tV_2_695 {w : Cond} (h : w ∈ tS_2_695) : w ∈ lw_tbl := tV_2_694 (List.mem_cons_of_mem _ h)
theorem tV_2_696 {w : Cond} (h : w ∈ tS_2_696) : w ∈ lw_tbl := tV_2_695 (List.mem_cons_of_mem _ h)
theorem tV_2_697 {w : Cond} (h : w ∈ tS_2_697) : w ∈ lw_tbl := tV_2_696 (List.mem_cons_of_mem _ h)
theorem tV_2_698 {w : Cond} (h : w ∈ tS_2_698) : w ∈ lw_tbl := tV_2_697 (List.mem_cons_of_mem _ h)
theorem tV_2_699 {w : Cond} (h : w ∈ tS_2_699) : w ∈ lw_tbl := tV_2_698 (List.mem_cons_of_mem _ h)
theorem tV_2_700 {w : Cond} (h : w ∈ tS_2_700) : w ∈ lw_tbl := tV_2_699 (List.mem_cons_of_mem _ h)
theorem tV_2_701 {w : Cond} (h : w ∈ tS_2_701) : w ∈ lw_tbl := tV_2_700 (List.mem_cons_of_mem _ h)
theorem tV_2_702 {w : Cond} (h : w ∈ tS_2_702) : w ∈ lw_tbl := tV_2_701 (List.mem_cons_of_mem _ h)
theorem tV_2_703 {w : Cond} (h : w ∈ tS_2_703) : w ∈ lw_tbl := tV_2_702 (List.mem_cons_of_mem _ h)
theorem tV_2_704 {w : Cond} (h : w ∈ tS_2_704) : w ∈ lw_tbl := tV_2_703 (List.mem_cons_of_mem _ h)
theorem tV_2_705 {w : Cond} (h : w ∈ tS_2_705) : w ∈ lw_tbl := tV_2_704 (List.mem_cons_of_mem _ h)
theorem tV_2_706 {w : Cond} (h : w ∈ tS_2_706) : w ∈ lw_tbl := tV_2_705 (List.mem_cons_of_mem _ h)
theorem tV_2_707 {w : Cond} (h : w ∈ tS_2_707) : w ∈ lw_tbl := tV_2_706 (List.mem_cons_of_mem _ h)
theorem tV_2_708 {w : Cond} (h : w ∈ tS_2_708) : w ∈ lw_tbl := tV_2_707 (List.mem_cons_of_mem _ h)
theorem tV_2_709 {w : Cond} (h : w ∈ tS_2_709) : w ∈ lw_tbl := tV_2_708 (List.mem_cons_of_mem _ h)
theorem tV_2_710 {w : Cond} (h : w ∈ tS_2_710) : w ∈ lw_tbl := tV_2_709 (List.mem_cons_of_mem _ h)
theorem tV_2_711 {w : Cond} (h : w ∈ tS_2_711) : w ∈ lw_tbl := tV_2_710 (List.mem_cons_of_mem _ h)
theorem tV_2_712 {w : Cond} (h : w ∈ tS_2_712) : w ∈ lw_tbl := tV_2_711 (List.mem_cons_of_mem _ h)
theorem tV_2_713 {w : Cond} (h : w ∈ tS_2_713) : w ∈ lw_tbl := tV_2_712 (List.mem_cons_of_mem _ h)
theorem tV_2_714 {w : Cond} (h : w ∈ tS_2_714) : w ∈ lw_tbl := tV_2_713 (List.mem_cons_of_mem _ h)
theorem tV_2_715 {w : Cond} (h : w ∈ tS_2_715) : w ∈ lw_tbl := tV_2_714 (List.mem_cons_of_mem _ h)
theorem tV_2_716 {w : Cond} (h : w ∈ tS_2_716) : w ∈ lw_tbl := tV_2_715 (List.mem_cons_of_mem _ h)
theorem tV_2_717 {w : Cond} (h : w ∈ tS_2_717) : w ∈ lw_tbl := tV_2_716 (List.mem_cons_of_mem _ h)
theorem tV_2_718 {w : Cond} (h : w ∈ tS_2_718) : w ∈ lw_tbl := tV_2_717 (List.mem_cons_of_mem _ h)
theorem tV_2_719 {w : Cond} (h : w ∈ tS_2_719) : w ∈ lw_tbl := tV_2_718 (List.mem_cons_of_mem _ h)
def tS_3_896 : List Cond := []
def tS_3_895 : List Cond := (Jvm.Cond.sameMethod "java/lang/AbstractStringBuilder" "java/lang/AbstractStringBuilder" "inflateIfNeededFor" "(Ljava/lang/String;)V") :: tS_3_896
def tS_3_894 : List Cond := (Jvm.Cond.sameMethod "java/lang/AbstractStringBuilder" "java/lang/AbstractStringBuilder" "putStringAt" "(ILjava/lang/String;)V") :: tS_3_895
def tS_3_893 : List Cond := (Jvm.Cond.sameMethod "java/lang/AbstractStringBuilder" "java/lang/AbstractStringBuilder" "appendNull" "()Ljava/lang/AbstractStringBuilder;") :: tS_3_894
def tS_3_892 : List Cond := (Jvm.Cond.sameMethod "java/lang/AbstractStringBuilder" "java/lang/AbstractStringBuilder" "append" "(Ljava/lang/String;)Ljava/lang/AbstractStringBuilder;") :: tS_3_893
def tS_3_891 : List Cond := (Jvm.Cond.sameMethod "java/lang/AbstractStringBuilder" "java/lang/AbstractStringBuilder" "append" "(I)Ljava/lang/AbstractStringBuilder;") :: tS_3_892
def tS_3_890 : List Cond := (Jvm.Cond.sameMethod "java/lang/AbstractStringBuilder" "java/lang/AbstractStringBuilder" "inflate" "()V") :: tS_3_891
def tS_3_889 : List Cond := (Jvm.Cond.sameMethod "java/lang/AbstractStringBuilder" "java/lang/AbstractStringBuilder" "newCapacity" "(I)I") :: tS_3_890
def tS_3_888 : List Cond := (Jvm.Cond.sameMethod "java/lang/AbstractStringBuilder" "java/lang/AbstractStringBuilder" "ensureCapacityInternal" "(I)V") :: tS_3_889
def tS_3_887 : List Cond := (Jvm.Cond.sameMethod "java/lang/AbstractStringBuilder" "java/lang/AbstractStringBuilder" "append" "(C)Ljava/lang/AbstractStringBuilder;") :: tS_3_888
def tS_3_886 : List Cond := (Jvm.Cond.sameMethod "java/lang/Throwable" "java/lang/Throwable" "fillInStackTrace" "(I)Ljava/lang/Throwable;") :: tS_3_887
def tS_3_885 : List Cond := (Jvm.Cond.constant "RunweaverLaw" (19 : Nat) (1013904223 : Int32)) :: tS_3_886
def tS_3_884 : List Cond := (Jvm.Cond.code ({ cls := "Runweaver$Row", name := "firstPlaceOf", desc := "(I)I" } : Jvm.MethodName) prog_3_method_25_code (3 : Nat) (Option.some Jvm.ClassFile.FieldType.int)) :: tS_3_885
def tS_3_883 : List Cond := (Jvm.Cond.selects "Runweaver$Row" ({ cls := "Runweaver$Row", name := "firstPlaceOf", desc := "(I)I" } : Jvm.MethodName) ({ cls := "Runweaver$Row", name := "firstPlaceOf", desc := "(I)I" } : Jvm.MethodName)) :: tS_3_884
def tS_3_882 : List Cond := (Jvm.Cond.instanceMethod ({ cls := "Runweaver$Row", name := "firstPlaceOf", desc := "(I)I" } : Jvm.MethodName)) :: tS_3_883
def tS_3_881 : List Cond := (Jvm.Cond.methodLink "Runweaver" (199 : Nat) ({ cls := "Runweaver$Row", name := "firstPlaceOf", desc := "(I)I" } : Jvm.MethodName)) :: tS_3_882
def tS_3_880 : List Cond := (Jvm.Cond.code ({ cls := "Runweaver$Row", name := "lastPlaceOf", desc := "(I)I" } : Jvm.MethodName) prog_3_method_26_code (3 : Nat) (Option.some Jvm.ClassFile.FieldType.int)) :: tS_3_881
def tS_3_879 : List Cond := (Jvm.Cond.selects "Runweaver$Row" ({ cls := "Runweaver$Row", name := "lastPlaceOf", desc := "(I)I" } : Jvm.MethodName) ({ cls := "Runweaver$Row", name := "lastPlaceOf", desc := "(I)I" } : Jvm.MethodName)) :: tS_3_880
def tS_3_878 : List Cond := (Jvm.Cond.instanceMethod ({ cls := "Runweaver$Row", name := "lastPlaceOf", desc := "(I)I" } : Jvm.MethodName)) :: tS_3_879
def tS_3_877 : List Cond := (Jvm.Cond.methodLink "Runweaver" (196 : Nat) ({ cls := "Runweaver$Row", name := "lastPlaceOf", desc := "(I)I" } : Jvm.MethodName)) :: tS_3_878
def tS_3_876 : List Cond := (Jvm.Cond.code ({ cls := "Runweaver", name := "first", desc := "(IIZ)I" } : Jvm.MethodName) prog_1_method_36_code (5 : Nat) (Option.some Jvm.ClassFile.FieldType.int)) :: tS_3_877
def tS_3_875 : List Cond := (Jvm.Cond.selects "Runweaver" ({ cls := "Runweaver", name := "first", desc := "(IIZ)I" } : Jvm.MethodName) ({ cls := "Runweaver", name := "first", desc := "(IIZ)I" } : Jvm.MethodName)) :: tS_3_876
def tS_3_874 : List Cond := (Jvm.Cond.instanceMethod ({ cls := "Runweaver", name := "first", desc := "(IIZ)I" } : Jvm.MethodName)) :: tS_3_875
def tS_3_873 : List Cond := (Jvm.Cond.methodLink "RunweaverLaw" (188 : Nat) ({ cls := "Runweaver", name := "first", desc := "(IIZ)I" } : Jvm.MethodName)) :: tS_3_874
def tS_3_872 : List Cond := (Jvm.Cond.code ({ cls := "Runweaver$Row", name := "itemsBelow", desc := "(I)I" } : Jvm.MethodName) prog_3_method_24_code (4 : Nat) (Option.some Jvm.ClassFile.FieldType.int)) :: tS_3_873
def tS_3_871 : List Cond := (Jvm.Cond.selects "Runweaver$Row" ({ cls := "Runweaver$Row", name := "itemsBelow", desc := "(I)I" } : Jvm.MethodName) ({ cls := "Runweaver$Row", name := "itemsBelow", desc := "(I)I" } : Jvm.MethodName)) :: tS_3_872
def tS_3_870 : List Cond := (Jvm.Cond.instanceMethod ({ cls := "Runweaver$Row", name := "itemsBelow", desc := "(I)I" } : Jvm.MethodName)) :: tS_3_871
def tS_3_869 : List Cond := (Jvm.Cond.methodLink "Runweaver" (193 : Nat) ({ cls := "Runweaver$Row", name := "itemsBelow", desc := "(I)I" } : Jvm.MethodName)) :: tS_3_870
def tS_3_868 : List Cond := (Jvm.Cond.code ({ cls := "Runweaver", name := "below", desc := "(II)I" } : Jvm.MethodName) prog_1_method_35_code (4 : Nat) (Option.some Jvm.ClassFile.FieldType.int)) :: tS_3_869
def tS_3_867 : List Cond := (Jvm.Cond.selects "Runweaver" ({ cls := "Runweaver", name := "below", desc := "(II)I" } : Jvm.MethodName) ({ cls := "Runweaver", name := "below", desc := "(II)I" } : Jvm.MethodName)) :: tS_3_868
def tS_3_866 : List Cond := (Jvm.Cond.instanceMethod ({ cls := "Runweaver", name := "below", desc := "(II)I" } : Jvm.MethodName)) :: tS_3_867
def tS_3_865 : List Cond := (Jvm.Cond.methodLink "RunweaverLaw" (185 : Nat) ({ cls := "Runweaver", name := "below", desc := "(II)I" } : Jvm.MethodName)) :: tS_3_866
def tS_3_864 : List Cond := (Jvm.Cond.constant "RunweaverLaw" (184 : Nat) (99999 : Int32)) :: tS_3_865
def tS_3_863 : List Cond := (Jvm.Cond.code ({ cls := "Runweaver$Row", name := "itemsWith", desc := "(I)I" } : Jvm.MethodName) prog_3_method_23_code (4 : Nat) (Option.some Jvm.ClassFile.FieldType.int)) :: tS_3_864
def tS_3_862 : List Cond := (Jvm.Cond.selects "Runweaver$Row" ({ cls := "Runweaver$Row", name := "itemsWith", desc := "(I)I" } : Jvm.MethodName) ({ cls := "Runweaver$Row", name := "itemsWith", desc := "(I)I" } : Jvm.MethodName)) :: tS_3_863
def tS_3_861 : List Cond := (Jvm.Cond.instanceMethod ({ cls := "Runweaver$Row", name := "itemsWith", desc := "(I)I" } : Jvm.MethodName)) :: tS_3_862
def tS_3_860 : List Cond := (Jvm.Cond.methodLink "Runweaver" (190 : Nat) ({ cls := "Runweaver$Row", name := "itemsWith", desc := "(I)I" } : Jvm.MethodName)) :: tS_3_861
def tS_3_859 : List Cond := (Jvm.Cond.code ({ cls := "Runweaver", name := "count", desc := "(II)I" } : Jvm.MethodName) prog_1_method_34_code (4 : Nat) (Option.some Jvm.ClassFile.FieldType.int)) :: tS_3_860
def tS_3_858 : List Cond := (Jvm.Cond.selects "Runweaver" ({ cls := "Runweaver", name := "count", desc := "(II)I" } : Jvm.MethodName) ({ cls := "Runweaver", name := "count", desc := "(II)I" } : Jvm.MethodName)) :: tS_3_859
def tS_3_857 : List Cond := (Jvm.Cond.instanceMethod ({ cls := "Runweaver", name := "count", desc := "(II)I" } : Jvm.MethodName)) :: tS_3_858
def tS_3_856 : List Cond := (Jvm.Cond.methodLink "RunweaverLaw" (181 : Nat) ({ cls := "Runweaver", name := "count", desc := "(II)I" } : Jvm.MethodName)) :: tS_3_857
def tS_3_855 : List Cond := (Jvm.Cond.methodLink "RunweaverLaw" (178 : Nat) ({ cls := "Runweaver", name := "unlike", desc := "(I)I" } : Jvm.MethodName)) :: tS_3_856
def tS_3_854 : List Cond := (Jvm.Cond.code ({ cls := "java/lang/String", name := "isEmpty", desc := "()Z" } : Jvm.MethodName) prog_14_method_55_code (1 : Nat) (Option.some Jvm.ClassFile.FieldType.boolean)) :: tS_3_855
def tS_3_853 : List Cond := (Jvm.Cond.selects "java/lang/String" ({ cls := "java/lang/String", name := "isEmpty", desc := "()Z" } : Jvm.MethodName) ({ cls := "java/lang/String", name := "isEmpty", desc := "()Z" } : Jvm.MethodName)) :: tS_3_854
def tS_3_852 : List Cond := (Jvm.Cond.instanceMethod ({ cls := "java/lang/String", name := "isEmpty", desc := "()Z" } : Jvm.MethodName)) :: tS_3_853
def tS_3_851 : List Cond := (Jvm.Cond.methodLink "RunweaverLaw" (173 : Nat) ({ cls := "java/lang/String", name := "isEmpty", desc := "()Z" } : Jvm.MethodName)) :: tS_3_852
def tS_3_850 : List Cond := (Jvm.Cond.superclass "java/lang/String" "java/lang/Object") :: tS_3_851
def tS_3_849 : List Cond := (Jvm.Cond.soleField "java/lang/String" "hashIsZero") :: tS_3_850
def tS_3_848 : List Cond := (Jvm.Cond.lays "java/lang/String" "java/lang/String" "hashIsZero" "Z") :: tS_3_849
def tS_3_847 : List Cond := (Jvm.Cond.soleField "java/lang/String" "hash") :: tS_3_848
def tS_3_846 : List Cond := (Jvm.Cond.lays "java/lang/String" "java/lang/String" "hash" "I") :: tS_3_847
def tS_3_845 : List Cond := (Jvm.Cond.soleField "java/lang/String" "coder") :: tS_3_846
def tS_3_844 : List Cond := (Jvm.Cond.laysFinal "java/lang/String" "java/lang/String" "coder" "B") :: tS_3_845
def tS_3_843 : List Cond := (Jvm.Cond.soleField "java/lang/String" "value") :: tS_3_844
def tS_3_842 : List Cond := (Jvm.Cond.laysFinal "java/lang/String" "java/lang/String" "value" "[B") :: tS_3_843
def tS_3_841 : List Cond := (Jvm.Cond.fieldLink "java/lang/String" (15 : Nat) "java/lang/String" "coder" "B") :: tS_3_842
def tS_3_840 : List Cond := (Jvm.Cond.fieldLink "java/lang/String" (9 : Nat) "java/lang/String" "value" "[B") :: tS_3_841
def tS_3_839 : List Cond := (Jvm.Cond.code ({ cls := "java/lang/StringUTF16", name := "coderFromArrayLen", desc := "([BI)B" } : Jvm.MethodName) prog_17_method_15_code (2 : Nat) (Option.some Jvm.ClassFile.FieldType.byte)) :: tS_3_840
def tS_3_838 : List Cond := (Jvm.Cond.static ({ cls := "java/lang/StringUTF16", name := "coderFromArrayLen", desc := "([BI)B" } : Jvm.MethodName)) :: tS_3_839
def tS_3_837 : List Cond := (Jvm.Cond.methodLink "java/lang/String" (47 : Nat) ({ cls := "java/lang/StringUTF16", name := "coderFromArrayLen", desc := "([BI)B" } : Jvm.MethodName)) :: tS_3_838
def tS_3_836 : List Cond := (Jvm.Cond.methodLink "java/lang/StringUTF16" (126 : Nat) ({ cls := "java/util/Arrays", name := "copyOfRange", desc := "([BII)[B" } : Jvm.MethodName)) :: tS_3_837
def tS_3_835 : List Cond := (Jvm.Cond.code ({ cls := "java/lang/StringUTF16", name := "getChar", desc := "([BI)C" } : Jvm.MethodName) prog_17_method_5_code (2 : Nat) (Option.some Jvm.ClassFile.FieldType.char)) :: tS_3_836
def tS_3_834 : List Cond := (Jvm.Cond.static ({ cls := "java/lang/StringUTF16", name := "getChar", desc := "([BI)C" } : Jvm.MethodName)) :: tS_3_835
def tS_3_833 : List Cond := (Jvm.Cond.methodLink "java/lang/StringUTF16" (71 : Nat) ({ cls := "java/lang/StringUTF16", name := "getChar", desc := "([BI)C" } : Jvm.MethodName)) :: tS_3_834
def tS_3_832 : List Cond := (Jvm.Cond.code ({ cls := "java/lang/StringUTF16", name := "compress", desc := "([BI[BII)I" } : Jvm.MethodName) prog_17_method_22_code (7 : Nat) (Option.some Jvm.ClassFile.FieldType.int)) :: tS_3_833
def tS_3_831 : List Cond := (Jvm.Cond.static ({ cls := "java/lang/StringUTF16", name := "compress", desc := "([BI[BII)I" } : Jvm.MethodName)) :: tS_3_832
def tS_3_830 : List Cond := (Jvm.Cond.methodLink "java/lang/StringUTF16" (123 : Nat) ({ cls := "java/lang/StringUTF16", name := "compress", desc := "([BI[BII)I" } : Jvm.MethodName)) :: tS_3_831
def tS_3_829 : List Cond := (Jvm.Cond.code ({ cls := "java/lang/StringUTF16", name := "compress", desc := "([BII)[B" } : Jvm.MethodName) prog_17_method_17_code (6 : Nat) (Option.some (Jvm.ClassFile.FieldType.array Jvm.ClassFile.FieldType.byte))) :: tS_3_830
def tS_3_828 : List Cond := (Jvm.Cond.static ({ cls := "java/lang/StringUTF16", name := "compress", desc := "([BII)[B" } : Jvm.MethodName)) :: tS_3_829
def tS_3_827 : List Cond := (Jvm.Cond.methodLink "java/lang/String" (1051 : Nat) ({ cls := "java/lang/StringUTF16", name := "compress", desc := "([BII)[B" } : Jvm.MethodName)) :: tS_3_828
def tS_3_826 : List Cond := (Jvm.Cond.methodLink "java/util/Arrays" (65 : Nat) ({ cls := "java/lang/IllegalArgumentException", name := "<init>", desc := "(Ljava/lang/String;)V" } : Jvm.MethodName)) :: tS_3_827
def tS_3_825 : List Cond := (Jvm.Cond.methodLink "java/util/Arrays" (61 : Nat) ({ cls := "java/lang/StringBuilder", name := "toString", desc := "()Ljava/lang/String;" } : Jvm.MethodName)) :: tS_3_826
def tS_3_824 : List Cond := (Jvm.Cond.methodLink "java/lang/String" (106 : Nat) ({ cls := "java/lang/StringLatin1", name := "inflate", desc := "([BI[BII)V" } : Jvm.MethodName)) :: tS_3_825
def tS_3_823 : List Cond := (Jvm.Cond.methodLink "java/lang/String" (212 : Nat) ({ cls := "java/lang/System", name := "arraycopy", desc := "(Ljava/lang/Object;ILjava/lang/Object;II)V" } : Jvm.MethodName)) :: tS_3_824
def tS_3_822 : List Cond := (Jvm.Cond.code ({ cls := "java/lang/String", name := "getBytes", desc := "([BIB)V" } : Jvm.MethodName) prog_14_method_147_code (4 : Nat) (Option.none : Option Jvm.ClassFile.FieldType)) :: tS_3_823
def tS_3_821 : List Cond := (Jvm.Cond.selects "java/lang/String" ({ cls := "java/lang/String", name := "getBytes", desc := "([BIB)V" } : Jvm.MethodName) ({ cls := "java/lang/String", name := "getBytes", desc := "([BIB)V" } : Jvm.MethodName)) :: tS_3_822
def tS_3_820 : List Cond := (Jvm.Cond.instanceMethod ({ cls := "java/lang/String", name := "getBytes", desc := "([BIB)V" } : Jvm.MethodName)) :: tS_3_821
def tS_3_819 : List Cond := (Jvm.Cond.methodLink "java/lang/AbstractStringBuilder" (399 : Nat) ({ cls := "java/lang/String", name := "getBytes", desc := "([BIB)V" } : Jvm.MethodName)) :: tS_3_820
def tS_3_818 : List Cond := (Jvm.Cond.methodLink "java/lang/AbstractStringBuilder" (40 : Nat) ({ cls := "java/lang/String", name := "coder", desc := "()B" } : Jvm.MethodName)) :: tS_3_819
def tS_3_817 : List Cond := (Jvm.Cond.code ({ cls := "java/lang/AbstractStringBuilder", name := "inflateIfNeededFor", desc := "(Ljava/lang/String;)V" } : Jvm.MethodName) prog_6_method_71_code (2 : Nat) (Option.none : Option Jvm.ClassFile.FieldType)) :: tS_3_818
def tS_3_816 : List Cond := (Jvm.Cond.instanceMethod ({ cls := "java/lang/AbstractStringBuilder", name := "inflateIfNeededFor", desc := "(Ljava/lang/String;)V" } : Jvm.MethodName)) :: tS_3_817
def tS_3_815 : List Cond := (Jvm.Cond.privateMethod ({ cls := "java/lang/AbstractStringBuilder", name := "inflateIfNeededFor", desc := "(Ljava/lang/String;)V" } : Jvm.MethodName)) :: tS_3_816
def tS_3_814 : List Cond := (Jvm.Cond.methodLink "java/lang/AbstractStringBuilder" (397 : Nat) ({ cls := "java/lang/AbstractStringBuilder", name := "inflateIfNeededFor", desc := "(Ljava/lang/String;)V" } : Jvm.MethodName)) :: tS_3_815
def tS_3_813 : List Cond := (Jvm.Cond.code ({ cls := "java/lang/AbstractStringBuilder", name := "putStringAt", desc := "(ILjava/lang/String;)V" } : Jvm.MethodName) prog_6_method_73_code (3 : Nat) (Option.none : Option Jvm.ClassFile.FieldType)) :: tS_3_814
def tS_3_812 : List Cond := (Jvm.Cond.instanceMethod ({ cls := "java/lang/AbstractStringBuilder", name := "putStringAt", desc := "(ILjava/lang/String;)V" } : Jvm.MethodName)) :: tS_3_813
def tS_3_811 : List Cond := (Jvm.Cond.privateMethod ({ cls := "java/lang/AbstractStringBuilder", name := "putStringAt", desc := "(ILjava/lang/String;)V" } : Jvm.MethodName)) :: tS_3_812
def tS_3_810 : List Cond := (Jvm.Cond.methodLink "java/lang/AbstractStringBuilder" (208 : Nat) ({ cls := "java/lang/AbstractStringBuilder", name := "putStringAt", desc := "(ILjava/lang/String;)V" } : Jvm.MethodName)) :: tS_3_811
def tS_3_809 : List Cond := (Jvm.Cond.fieldLink "java/lang/String" (38 : Nat) "java/lang/String" "COMPACT_STRINGS" "Z") :: tS_3_810
def tS_3_808 : List Cond := (Jvm.Cond.code ({ cls := "java/lang/String", name := "coder", desc := "()B" } : Jvm.MethodName) prog_14_method_152_code (1 : Nat) (Option.some Jvm.ClassFile.FieldType.byte)) :: tS_3_809
def tS_3_807 : List Cond := (Jvm.Cond.selects "java/lang/String" ({ cls := "java/lang/String", name := "coder", desc := "()B" } : Jvm.MethodName) ({ cls := "java/lang/String", name := "coder", desc := "()B" } : Jvm.MethodName)) :: tS_3_808
def tS_3_806 : List Cond := (Jvm.Cond.instanceMethod ({ cls := "java/lang/String", name := "coder", desc := "()B" } : Jvm.MethodName)) :: tS_3_807
def tS_3_805 : List Cond := (Jvm.Cond.methodLink "java/lang/String" (335 : Nat) ({ cls := "java/lang/String", name := "coder", desc := "()B" } : Jvm.MethodName)) :: tS_3_806
def tS_3_804 : List Cond := (Jvm.Cond.code ({ cls := "java/lang/String", name := "length", desc := "()I" } : Jvm.MethodName) prog_14_method_54_code (1 : Nat) (Option.some Jvm.ClassFile.FieldType.int)) :: tS_3_805
def tS_3_803 : List Cond := (Jvm.Cond.selects "java/lang/String" ({ cls := "java/lang/String", name := "length", desc := "()I" } : Jvm.MethodName) ({ cls := "java/lang/String", name := "length", desc := "()I" } : Jvm.MethodName)) :: tS_3_804
def tS_3_802 : List Cond := (Jvm.Cond.instanceMethod ({ cls := "java/lang/String", name := "length", desc := "()I" } : Jvm.MethodName)) :: tS_3_803
def tS_3_801 : List Cond := (Jvm.Cond.methodLink "java/lang/AbstractStringBuilder" (32 : Nat) ({ cls := "java/lang/String", name := "length", desc := "()I" } : Jvm.MethodName)) :: tS_3_802
def tS_3_800 : List Cond := (Jvm.Cond.code ({ cls := "java/lang/StringUTF16", name := "putCharsAt", desc := "([BICCCC)I" } : Jvm.MethodName) prog_17_method_81_code (7 : Nat) (Option.some Jvm.ClassFile.FieldType.int)) :: tS_3_801
def tS_3_799 : List Cond := (Jvm.Cond.static ({ cls := "java/lang/StringUTF16", name := "putCharsAt", desc := "([BICCCC)I" } : Jvm.MethodName)) :: tS_3_800
def tS_3_798 : List Cond := (Jvm.Cond.methodLink "java/lang/AbstractStringBuilder" (226 : Nat) ({ cls := "java/lang/StringUTF16", name := "putCharsAt", desc := "([BICCCC)I" } : Jvm.MethodName)) :: tS_3_799
def tS_3_797 : List Cond := (Jvm.Cond.code ({ cls := "java/lang/AbstractStringBuilder", name := "appendNull", desc := "()Ljava/lang/AbstractStringBuilder;" } : Jvm.MethodName) prog_6_method_26_code (3 : Nat) (Option.some (Jvm.ClassFile.FieldType.object "java/lang/AbstractStringBuilder"))) :: tS_3_798
def tS_3_796 : List Cond := (Jvm.Cond.instanceMethod ({ cls := "java/lang/AbstractStringBuilder", name := "appendNull", desc := "()Ljava/lang/AbstractStringBuilder;" } : Jvm.MethodName)) :: tS_3_797
def tS_3_795 : List Cond := (Jvm.Cond.privateMethod ({ cls := "java/lang/AbstractStringBuilder", name := "appendNull", desc := "()Ljava/lang/AbstractStringBuilder;" } : Jvm.MethodName)) :: tS_3_796
def tS_3_794 : List Cond := (Jvm.Cond.methodLink "java/lang/AbstractStringBuilder" (204 : Nat) ({ cls := "java/lang/AbstractStringBuilder", name := "appendNull", desc := "()Ljava/lang/AbstractStringBuilder;" } : Jvm.MethodName)) :: tS_3_795
def tS_3_793 : List Cond := (Jvm.Cond.code ({ cls := "java/lang/AbstractStringBuilder", name := "append", desc := "(Ljava/lang/String;)Ljava/lang/AbstractStringBuilder;" } : Jvm.MethodName) prog_6_method_22_code (3 : Nat) (Option.some (Jvm.ClassFile.FieldType.object "java/lang/AbstractStringBuilder"))) :: tS_3_794
def tS_3_792 : List Cond := (Jvm.Cond.instanceMethod ({ cls := "java/lang/AbstractStringBuilder", name := "append", desc := "(Ljava/lang/String;)Ljava/lang/AbstractStringBuilder;" } : Jvm.MethodName)) :: tS_3_793
def tS_3_791 : List Cond := (Jvm.Cond.methodLink "java/lang/StringBuilder" (29 : Nat) ({ cls := "java/lang/AbstractStringBuilder", name := "append", desc := "(Ljava/lang/String;)Ljava/lang/AbstractStringBuilder;" } : Jvm.MethodName)) :: tS_3_792
def tS_3_790 : List Cond := (Jvm.Cond.code ({ cls := "java/lang/StringBuilder", name := "append", desc := "(Ljava/lang/String;)Ljava/lang/StringBuilder;" } : Jvm.MethodName) prog_15_method_7_code (2 : Nat) (Option.some (Jvm.ClassFile.FieldType.object "java/lang/StringBuilder"))) :: tS_3_791
def tS_3_789 : List Cond := (Jvm.Cond.selects "java/lang/StringBuilder" ({ cls := "java/lang/StringBuilder", name := "append", desc := "(Ljava/lang/String;)Ljava/lang/StringBuilder;" } : Jvm.MethodName) ({ cls := "java/lang/StringBuilder", name := "append", desc := "(Ljava/lang/String;)Ljava/lang/StringBuilder;" } : Jvm.MethodName)) :: tS_3_790
def tS_3_788 : List Cond := (Jvm.Cond.instanceMethod ({ cls := "java/lang/StringBuilder", name := "append", desc := "(Ljava/lang/String;)Ljava/lang/StringBuilder;" } : Jvm.MethodName)) :: tS_3_789
def tS_3_787 : List Cond := (Jvm.Cond.methodLink "java/util/Arrays" (50 : Nat) ({ cls := "java/lang/StringBuilder", name := "append", desc := "(Ljava/lang/String;)Ljava/lang/StringBuilder;" } : Jvm.MethodName)) :: tS_3_788
def tS_3_786 : List Cond := (Jvm.Cond.stringRef "java/util/Arrays" (337 : Nat) " > ") :: tS_3_787
def tS_3_785 : List Cond := (Jvm.Cond.methodLink "java/util/Arrays" (54 : Nat) ({ cls := "java/lang/StringBuilder", name := "append", desc := "(I)Ljava/lang/StringBuilder;" } : Jvm.MethodName)) :: tS_3_786
def tS_3_784 : List Cond := (Jvm.Cond.methodLink "java/util/Arrays" (47 : Nat) ({ cls := "java/lang/StringBuilder", name := "<init>", desc := "()V" } : Jvm.MethodName)) :: tS_3_785
def tS_3_783 : List Cond := (Jvm.Cond.classLink "java/util/Arrays" (45 : Nat) "java/lang/StringBuilder") :: tS_3_784
def tS_3_782 : List Cond := (Jvm.Cond.classLink "java/util/Arrays" (43 : Nat) "java/lang/IllegalArgumentException") :: tS_3_783
def tS_3_781 : List Cond := (Jvm.Cond.code ({ cls := "java/util/Arrays", name := "checkLength", desc := "(II)V" } : Jvm.MethodName) prog_20_method_131_code (2 : Nat) (Option.none : Option Jvm.ClassFile.FieldType)) :: tS_3_782
def tS_3_780 : List Cond := (Jvm.Cond.static ({ cls := "java/util/Arrays", name := "checkLength", desc := "(II)V" } : Jvm.MethodName)) :: tS_3_781
def tS_3_779 : List Cond := (Jvm.Cond.methodLink "java/util/Arrays" (343 : Nat) ({ cls := "java/util/Arrays", name := "checkLength", desc := "(II)V" } : Jvm.MethodName)) :: tS_3_780
def tS_3_778 : List Cond := (Jvm.Cond.code ({ cls := "java/util/Arrays", name := "copyOfRangeByte", desc := "([BII)[B" } : Jvm.MethodName) prog_20_method_133_code (5 : Nat) (Option.some (Jvm.ClassFile.FieldType.array Jvm.ClassFile.FieldType.byte))) :: tS_3_779
def tS_3_777 : List Cond := (Jvm.Cond.static ({ cls := "java/util/Arrays", name := "copyOfRangeByte", desc := "([BII)[B" } : Jvm.MethodName)) :: tS_3_778
def tS_3_776 : List Cond := (Jvm.Cond.methodLink "java/util/Arrays" (339 : Nat) ({ cls := "java/util/Arrays", name := "copyOfRangeByte", desc := "([BII)[B" } : Jvm.MethodName)) :: tS_3_777
def tS_3_775 : List Cond := (Jvm.Cond.code ({ cls := "java/util/Arrays", name := "copyOfRange", desc := "([BII)[B" } : Jvm.MethodName) prog_20_method_132_code (3 : Nat) (Option.some (Jvm.ClassFile.FieldType.array Jvm.ClassFile.FieldType.byte))) :: tS_3_776
def tS_3_774 : List Cond := (Jvm.Cond.static ({ cls := "java/util/Arrays", name := "copyOfRange", desc := "([BII)[B" } : Jvm.MethodName)) :: tS_3_775
def tS_3_773 : List Cond := (Jvm.Cond.methodLink "java/lang/String" (54 : Nat) ({ cls := "java/util/Arrays", name := "copyOfRange", desc := "([BII)[B" } : Jvm.MethodName)) :: tS_3_774
def tS_3_772 : List Cond := (Jvm.Cond.methodLink "java/lang/String" (1047 : Nat) ({ cls := "java/lang/AbstractStringBuilder", name := "isLatin1", desc := "()Z" } : Jvm.MethodName)) :: tS_3_773
def tS_3_771 : List Cond := (Jvm.Cond.code ({ cls := "java/lang/AbstractStringBuilder", name := "length", desc := "()I" } : Jvm.MethodName) prog_6_method_6_code (1 : Nat) (Option.some Jvm.ClassFile.FieldType.int)) :: tS_3_772
def tS_3_770 : List Cond := (Jvm.Cond.methodLink "java/lang/StringBuilder" (343 : Nat) ({ cls := "java/lang/AbstractStringBuilder", name := "length", desc := "()I" } : Jvm.MethodName)) :: tS_3_771
def tS_3_769 : List Cond := (Jvm.Cond.code ({ cls := "java/lang/StringBuilder", name := "length", desc := "()I" } : Jvm.MethodName) prog_15_method_93_code (1 : Nat) (Option.some Jvm.ClassFile.FieldType.int)) :: tS_3_770
def tS_3_768 : List Cond := (Jvm.Cond.instanceMethod ({ cls := "java/lang/StringBuilder", name := "length", desc := "()I" } : Jvm.MethodName)) :: tS_3_769
def tS_3_767 : List Cond := (Jvm.Cond.selects "java/lang/StringBuilder" ({ cls := "java/lang/AbstractStringBuilder", name := "length", desc := "()I" } : Jvm.MethodName) ({ cls := "java/lang/StringBuilder", name := "length", desc := "()I" } : Jvm.MethodName)) :: tS_3_768
def tS_3_766 : List Cond := (Jvm.Cond.sameMethod "java/lang/AbstractStringBuilder" "java/lang/AbstractStringBuilder" "length" "()I") :: tS_3_767
def tS_3_765 : List Cond := (Jvm.Cond.instanceMethod ({ cls := "java/lang/AbstractStringBuilder", name := "length", desc := "()I" } : Jvm.MethodName)) :: tS_3_766
def tS_3_764 : List Cond := (Jvm.Cond.methodLink "java/lang/String" (549 : Nat) ({ cls := "java/lang/AbstractStringBuilder", name := "length", desc := "()I" } : Jvm.MethodName)) :: tS_3_765
def tS_3_763 : List Cond := (Jvm.Cond.code ({ cls := "java/lang/AbstractStringBuilder", name := "getValue", desc := "()[B" } : Jvm.MethodName) prog_6_method_64_code (1 : Nat) (Option.some (Jvm.ClassFile.FieldType.array Jvm.ClassFile.FieldType.byte))) :: tS_3_764
def tS_3_762 : List Cond := (Jvm.Cond.selects "java/lang/StringBuilder" ({ cls := "java/lang/AbstractStringBuilder", name := "getValue", desc := "()[B" } : Jvm.MethodName) ({ cls := "java/lang/AbstractStringBuilder", name := "getValue", desc := "()[B" } : Jvm.MethodName)) :: tS_3_763
def tS_3_761 : List Cond := (Jvm.Cond.sameMethod "java/lang/AbstractStringBuilder" "java/lang/AbstractStringBuilder" "getValue" "()[B") :: tS_3_762
def tS_3_760 : List Cond := (Jvm.Cond.instanceMethod ({ cls := "java/lang/AbstractStringBuilder", name := "getValue", desc := "()[B" } : Jvm.MethodName)) :: tS_3_761
def tS_3_759 : List Cond := (Jvm.Cond.methodLink "java/lang/String" (552 : Nat) ({ cls := "java/lang/AbstractStringBuilder", name := "getValue", desc := "()[B" } : Jvm.MethodName)) :: tS_3_760
def tS_3_758 : List Cond := (Jvm.Cond.methodLink "java/lang/String" (1 : Nat) ({ cls := "java/lang/Object", name := "<init>", desc := "()V" } : Jvm.MethodName)) :: tS_3_759
def tS_3_757 : List Cond := (Jvm.Cond.code ({ cls := "java/lang/String", name := "<init>", desc := "(Ljava/lang/AbstractStringBuilder;Ljava/lang/Void;)V" } : Jvm.MethodName) prog_14_method_150_code (5 : Nat) (Option.none : Option Jvm.ClassFile.FieldType)) :: tS_3_758
def tS_3_756 : List Cond := (Jvm.Cond.instanceMethod ({ cls := "java/lang/String", name := "<init>", desc := "(Ljava/lang/AbstractStringBuilder;Ljava/lang/Void;)V" } : Jvm.MethodName)) :: tS_3_757
def tS_3_755 : List Cond := (Jvm.Cond.methodLink "java/lang/String" (489 : Nat) ({ cls := "java/lang/String", name := "<init>", desc := "(Ljava/lang/AbstractStringBuilder;Ljava/lang/Void;)V" } : Jvm.MethodName)) :: tS_3_756
def tS_3_754 : List Cond := (Jvm.Cond.code ({ cls := "java/lang/String", name := "<init>", desc := "(Ljava/lang/StringBuilder;)V" } : Jvm.MethodName) prog_14_method_53_code (2 : Nat) (Option.none : Option Jvm.ClassFile.FieldType)) :: tS_3_755
def tS_3_753 : List Cond := (Jvm.Cond.instanceMethod ({ cls := "java/lang/String", name := "<init>", desc := "(Ljava/lang/StringBuilder;)V" } : Jvm.MethodName)) :: tS_3_754
def tS_3_752 : List Cond := (Jvm.Cond.methodLink "java/lang/StringBuilder" (137 : Nat) ({ cls := "java/lang/String", name := "<init>", desc := "(Ljava/lang/StringBuilder;)V" } : Jvm.MethodName)) :: tS_3_753
def tS_3_751 : List Cond := (Jvm.Cond.instantiable "java/lang/String" (4 : Nat)) :: tS_3_752
def tS_3_750 : List Cond := (Jvm.Cond.classLink "java/lang/StringBuilder" (18 : Nat) "java/lang/String") :: tS_3_751
def tS_3_749 : List Cond := (Jvm.Cond.code ({ cls := "java/lang/StringBuilder", name := "toString", desc := "()Ljava/lang/String;" } : Jvm.MethodName) prog_15_method_42_code (1 : Nat) (Option.some (Jvm.ClassFile.FieldType.object "java/lang/String"))) :: tS_3_750
def tS_3_748 : List Cond := (Jvm.Cond.selects "java/lang/StringBuilder" ({ cls := "java/lang/StringBuilder", name := "toString", desc := "()Ljava/lang/String;" } : Jvm.MethodName) ({ cls := "java/lang/StringBuilder", name := "toString", desc := "()Ljava/lang/String;" } : Jvm.MethodName)) :: tS_3_749
def tS_3_747 : List Cond := (Jvm.Cond.instanceMethod ({ cls := "java/lang/StringBuilder", name := "toString", desc := "()Ljava/lang/String;" } : Jvm.MethodName)) :: tS_3_748
def tS_3_746 : List Cond := (Jvm.Cond.methodLink "Runweaver" (165 : Nat) ({ cls := "java/lang/StringBuilder", name := "toString", desc := "()Ljava/lang/String;" } : Jvm.MethodName)) :: tS_3_747
def tS_3_745 : List Cond := (Jvm.Cond.fieldLink "java/lang/StringUTF16" (407 : Nat) "java/lang/Integer" "DigitTens" "[B") :: tS_3_746
def tS_3_744 : List Cond := (Jvm.Cond.fieldLink "java/lang/StringUTF16" (403 : Nat) "java/lang/Integer" "DigitOnes" "[B") :: tS_3_745
def tS_3_743 : List Cond := (Jvm.Cond.code ({ cls := "java/lang/StringUTF16", name := "getChars", desc := "(II[B)I" } : Jvm.MethodName) prog_17_method_89_code (7 : Nat) (Option.some Jvm.ClassFile.FieldType.int)) :: tS_3_744
def tS_3_742 : List Cond := (Jvm.Cond.static ({ cls := "java/lang/StringUTF16", name := "getChars", desc := "(II[B)I" } : Jvm.MethodName)) :: tS_3_743
def tS_3_741 : List Cond := (Jvm.Cond.methodLink "java/lang/StringUTF16" (393 : Nat) ({ cls := "java/lang/StringUTF16", name := "getChars", desc := "(II[B)I" } : Jvm.MethodName)) :: tS_3_742
def tS_3_740 : List Cond := (Jvm.Cond.code ({ cls := "jdk/internal/util/Preconditions", name := "checkFromToIndex", desc := "(IIILjava/util/function/BiFunction;)I" } : Jvm.MethodName) prog_22_method_12_code (4 : Nat) (Option.some Jvm.ClassFile.FieldType.int)) :: tS_3_741
def tS_3_739 : List Cond := (Jvm.Cond.static ({ cls := "jdk/internal/util/Preconditions", name := "checkFromToIndex", desc := "(IIILjava/util/function/BiFunction;)I" } : Jvm.MethodName)) :: tS_3_740
def tS_3_738 : List Cond := (Jvm.Cond.methodLink "java/lang/String" (1062 : Nat) ({ cls := "jdk/internal/util/Preconditions", name := "checkFromToIndex", desc := "(IIILjava/util/function/BiFunction;)I" } : Jvm.MethodName)) :: tS_3_739
def tS_3_737 : List Cond := (Jvm.Cond.code ({ cls := "java/lang/String", name := "checkBoundsBeginEnd", desc := "(III)V" } : Jvm.MethodName) prog_14_method_158_code (3 : Nat) (Option.none : Option Jvm.ClassFile.FieldType)) :: tS_3_738
def tS_3_736 : List Cond := (Jvm.Cond.static ({ cls := "java/lang/String", name := "checkBoundsBeginEnd", desc := "(III)V" } : Jvm.MethodName)) :: tS_3_737
def tS_3_735 : List Cond := (Jvm.Cond.methodLink "java/lang/StringUTF16" (241 : Nat) ({ cls := "java/lang/String", name := "checkBoundsBeginEnd", desc := "(III)V" } : Jvm.MethodName)) :: tS_3_736
def tS_3_734 : List Cond := (Jvm.Cond.code ({ cls := "java/lang/StringUTF16", name := "checkBoundsBeginEnd", desc := "(II[B)V" } : Jvm.MethodName) prog_17_method_93_code (3 : Nat) (Option.none : Option Jvm.ClassFile.FieldType)) :: tS_3_735
def tS_3_733 : List Cond := (Jvm.Cond.static ({ cls := "java/lang/StringUTF16", name := "checkBoundsBeginEnd", desc := "(II[B)V" } : Jvm.MethodName)) :: tS_3_734
def tS_3_732 : List Cond := (Jvm.Cond.methodLink "java/lang/StringUTF16" (96 : Nat) ({ cls := "java/lang/StringUTF16", name := "checkBoundsBeginEnd", desc := "(II[B)V" } : Jvm.MethodName)) :: tS_3_733
def tS_3_731 : List Cond := (Jvm.Cond.code ({ cls := "java/lang/StringUTF16", name := "getChars", desc := "(III[B)I" } : Jvm.MethodName) prog_17_method_77_code (5 : Nat) (Option.some Jvm.ClassFile.FieldType.int)) :: tS_3_732
def tS_3_730 : List Cond := (Jvm.Cond.static ({ cls := "java/lang/StringUTF16", name := "getChars", desc := "(III[B)I" } : Jvm.MethodName)) :: tS_3_731
def tS_3_729 : List Cond := (Jvm.Cond.methodLink "java/lang/AbstractStringBuilder" (251 : Nat) ({ cls := "java/lang/StringUTF16", name := "getChars", desc := "(III[B)I" } : Jvm.MethodName)) :: tS_3_730
def tS_3_728 : List Cond := (Jvm.Cond.laysStatic "java/lang/Integer" "DigitTens" "[B") :: tS_3_729
def tS_3_727 : List Cond := (Jvm.Cond.fieldLink "java/lang/Integer" (87 : Nat) "java/lang/Integer" "DigitTens" "[B") :: tS_3_728
def tS_3_726 : List Cond := (Jvm.Cond.laysStatic "java/lang/Integer" "DigitOnes" "[B") :: tS_3_727
def tS_3_725 : List Cond := (Jvm.Cond.fieldLink "java/lang/Integer" (83 : Nat) "java/lang/Integer" "DigitOnes" "[B") :: tS_3_726
def tS_3_724 : List Cond := (Jvm.Cond.code ({ cls := "java/lang/Integer", name := "getChars", desc := "(II[B)I" } : Jvm.MethodName) prog_11_method_12_code (7 : Nat) (Option.some Jvm.ClassFile.FieldType.int)) :: tS_3_725
def tS_3_723 : List Cond := (Jvm.Cond.static ({ cls := "java/lang/Integer", name := "getChars", desc := "(II[B)I" } : Jvm.MethodName)) :: tS_3_724
def tS_3_722 : List Cond := (Jvm.Cond.methodLink "java/lang/AbstractStringBuilder" (248 : Nat) ({ cls := "java/lang/Integer", name := "getChars", desc := "(II[B)I" } : Jvm.MethodName)) :: tS_3_723
def tS_3_721 : List Cond := (Jvm.Cond.code ({ cls := "java/lang/Integer", name := "stringSize", desc := "(I)I" } : Jvm.MethodName) prog_11_method_13_code (4 : Nat) (Option.some Jvm.ClassFile.FieldType.int)) :: tS_3_722
def tS_3_720 : List Cond := (Jvm.Cond.static ({ cls := "java/lang/Integer", name := "stringSize", desc := "(I)I" } : Jvm.MethodName)) :: tS_3_721
set_option maxRecDepth 100000 in
theorem tU_3 : tables_1_4 = tS_3_720 := rfl
theorem tV_3_720 {w : Cond} (h0 : w ∈ tS_3_720) : w ∈ lw_tbl := List.mem_append_left _ (List.mem_append_right _ (have h : w ∈ tables_1_4 := tU_3 ▸ h0; (List.mem_append_right _ (List.mem_append_right _ (List.mem_append_right _ (h))) : w ∈ tables_1)))
theorem tV_3_721 {w : Cond} (h : w ∈ tS_3_721) : w ∈ lw_tbl := tV_3_720 (List.mem_cons_of_mem _ h)
theorem tV_3_722 {w : Cond} (h : w ∈ tS_3_722) : w ∈ lw_tbl := tV_3_721 (List.mem_cons_of_mem _ h)
theorem tV_3_723 {w : Cond} (h : w ∈ tS_3_723) : w ∈ lw_tbl := tV_3_722 (List.mem_cons_of_mem _ h)
theorem tV_3_724 {w : Cond} (h : w ∈ tS_3_724) : w ∈ lw_tbl := tV_3_723 (List.mem_cons_of_mem _ h)
theorem tV_3_725 {w : Cond} (h : w ∈ tS_3_725) : w ∈ lw_tbl := tV_3_724 (List.mem_cons_of_mem _ h)
theorem tV_3_726 {w : Cond} (h : w ∈ tS_3_726) : w ∈ lw_tbl := tV_3_725 (List.mem_cons_of_mem _ h)
theorem tV_3_727 {w : Cond} (h : w ∈ tS_3_727) : w ∈ lw_tbl := tV_3_726 (List.mem_cons_of_mem _ h)
theorem tV_3_728 {w : Cond} (h : w ∈ tS_3_728) : w ∈ lw_tbl := tV_3_727 (List.mem_cons_of_mem _ h)
theorem tV_3_729 {w : Cond} (h : w ∈ tS_3_729) : w ∈ lw_tbl := tV_3_728 (List.mem_cons_of_mem _ h)
theorem tV_3_730 {w : Cond} (h : w ∈ tS_3_730) : w ∈ lw_tbl := tV_3_729 (List.mem_cons_of_mem _ h)
theorem tV_3_731 {w : Cond} (h : w ∈ tS_3_731) : w ∈ lw_tbl := tV_3_730 (List.mem_cons_of_mem _ h)
theorem tV_3_732 {w : Cond} (h : w ∈ tS_3_732) : w ∈ lw_tbl := tV_3_731 (List.mem_cons_of_mem _ h)
theorem tV_3_733 {w : Cond} (h : w ∈ tS_3_733) : w ∈ lw_tbl := tV_3_732 (List.mem_cons_of_mem _ h)
theorem tV_3_734 {w : Cond} (h : w ∈ tS_3_734) : w ∈ lw_tbl := tV_3_733 (List.mem_cons_of_mem _ h)
theorem tV_3_735 {w : Cond} (h : w ∈ tS_3_735) : w ∈ lw_tbl := tV_3_734 (List.mem_cons_of_mem _ h)
theorem tV_3_736 {w : Cond} (h : w ∈ tS_3_736) : w ∈ lw_tbl := tV_3_735 (List.mem_cons_of_mem _ h)
theorem tV_3_737 {w : Cond} (h : w ∈ tS_3_737) : w ∈ lw_tbl := tV_3_736 (List.mem_cons_of_mem _ h)
theorem tV_3_738 {w : Cond} (h : w ∈ tS_3_738) : w ∈ lw_tbl := tV_3_737 (List.mem_cons_of_mem _ h)
theorem tV_3_739 {w : Cond} (h : w ∈ tS_3_739) : w ∈ lw_tbl := tV_3_738 (List.mem_cons_of_mem _ h)
theorem tV_3_740 {w : Cond} (h : w ∈ tS_3_740) : w ∈ lw_tbl := tV_3_739 (List.mem_cons_of_mem _ h)
theorem tV_3_741 {w : Cond} (h : w ∈ tS_3_741) : w ∈ lw_tbl := tV_3_740 (List.mem_cons_of_mem _ h)
theorem tV_3_742 {w : Cond} (h : w ∈ tS_3_742) : w ∈ lw_tbl := tV_3_741 (List.mem_cons_of_mem _ h)
theorem tV_3_743 {w : Cond} (h : w ∈ tS_3_743) : w ∈ lw_tbl := tV_3_742 (List.mem_cons_of_mem _ h)
theorem tV_3_744 {w : Cond} (h : w ∈ tS_3_744) : w ∈ lw_tbl := tV_3_743 (List.mem_cons_of_mem _ h)
theorem tV_3_745 {w : Cond} (h : w ∈ tS_3_745) : w ∈ lw_tbl := tV_3_744 (List.mem_cons_of_mem _ h)
theorem tV_3_746 {w : Cond} (h : w ∈ tS_3_746) : w ∈ lw_tbl := tV_3_745 (List.mem_cons_of_mem _ h)
theorem tV_3_747 {w : Cond} (h : w ∈ tS_3_747) : w ∈ lw_tbl := tV_3_746 (List.mem_cons_of_mem _ h)
theorem tV_3_748 {w : Cond} (h : w ∈ tS_3_748) : w ∈ lw_tbl := tV_3_747 (List.mem_cons_of_mem _ h)
theorem tV_3_749 {w : Cond} (h : w ∈ tS_3_749) : w ∈ lw_tbl := tV_3_748 (List.mem_cons_of_mem _ h)
theorem tV_3_750 {w : Cond} (h : w ∈ tS_3_750) : w ∈ lw_tbl := tV_3_749 (List.mem_cons_of_mem _ h)
theorem tV_3_751 {w : Cond} (h : w ∈ tS_3_751) : w ∈ lw_tbl := tV_3_750 (List.mem_cons_of_mem _ h)
theorem tV_3_752 {w : Cond} (h : w ∈ tS_3_752) : w ∈ lw_tbl := tV_3_751 (List.mem_cons_of_mem _ h)
theorem tV_3_753 {w : Cond} (h : w ∈ tS_3_753) : w ∈ lw_tbl := tV_3_752 (List.mem_cons_of_mem _ h)
theorem tV_3_754 {w : Cond} (h : w ∈ tS_3_754) : w ∈ lw_tbl := tV_3_753 (List.mem_cons_of_mem _ h)
theorem tV_3_755 {w : Cond} (h : w ∈ tS_3_755) : w ∈ lw_tbl := tV_3_754 (List.mem_cons_of_mem _ h)
theorem tV_3_756 {w : Cond} (h : w ∈ tS_3_756) : w ∈ lw_tbl := tV_3_755 (List.mem_cons_of_mem _ h)
theorem tV_3_757 {w : Cond} (h : w ∈ tS_3_757) : w ∈ lw_tbl := tV_3_756 (List.mem_cons_of_mem _ h)
theorem tV_3_758 {w : Cond} (h : w ∈ tS_3_758) : w ∈ lw_tbl := tV_3_757 (List.mem_cons_of_mem _ h)
theorem tV_3_759 {w : Cond} (h : w ∈ tS_3_759) : w ∈ lw_tbl := tV_3_758 (List.mem_cons_of_mem _ h)
theorem tV_3_760 {w : Cond} (h : w ∈ tS_3_760) : w ∈ lw_tbl := tV_3_759 (List.mem_cons_of_mem _ h)
theorem tV_3_761 {w : Cond} (h : w ∈ tS_3_761) : w ∈ lw_tbl := tV_3_760 (List.mem_cons_of_mem _ h)
theorem tV_3_762 {w : Cond} (h : w ∈ tS_3_762) : w ∈ lw_tbl := tV_3_761 (List.mem_cons_of_mem _ h)
theorem tV_3_763 {w : Cond} (h : w ∈ tS_3_763) : w ∈ lw_tbl := tV_3_762 (List.mem_cons_of_mem _ h)
theorem tV_3_764 {w : Cond} (h : w ∈ tS_3_764) : w ∈ lw_tbl := tV_3_763 (List.mem_cons_of_mem _ h)
theorem tV_3_765 {w : Cond} (h : w ∈ tS_3_765) : w ∈ lw_tbl := tV_3_764 (List.mem_cons_of_mem _ h)
theorem tV_3_766 {w : Cond} (h : w ∈ tS_3_766) : w ∈ lw_tbl := tV_3_765 (List.mem_cons_of_mem _ h)
theorem tV_3_767 {w : Cond} (h : w ∈ tS_3_767) : w ∈ lw_tbl := tV_3_766 (List.mem_cons_of_mem _ h)
theorem tV_3_768 {w : Cond} (h : w ∈ tS_3_768) : w ∈ lw_tbl := tV_3_767 (List.mem_cons_of_mem _ h)
theorem tV_3_769 {w : Cond} (h : w ∈ tS_3_769) : w ∈ lw_tbl := tV_3_768 (List.mem_cons_of_mem _ h)
theorem tV_3_770 {w : Cond} (h : w ∈ tS_3_770) : w ∈ lw_tbl := tV_3_769 (List.mem_cons_of_mem _ h)
theorem tV_3_771 {w : Cond} (h : w ∈ tS_3_771) : w ∈ lw_tbl := tV_3_770 (List.mem_cons_of_mem _ h)
theorem tV_3_772 {w : Cond} (h : w ∈ tS_3_772) : w ∈ lw_tbl := tV_3_771 (List.mem_cons_of_mem _ h)
theorem tV_3_773 {w : Cond} (h : w ∈ tS_3_773) : w ∈ lw_tbl := tV_3_772 (List.mem_cons_of_mem _ h)
theorem tV_3_774 {w : Cond} (h : w ∈ tS_3_774) : w ∈ lw_tbl := tV_3_773 (List.mem_cons_of_mem _ h)
theorem tV_3_775 {w : Cond} (h : w ∈ tS_3_775) : w ∈ lw_tbl := tV_3_774 (List.mem_cons_of_mem _ h)
theorem tV_3_776 {w : Cond} (h : w ∈ tS_3_776) : w ∈ lw_tbl := tV_3_775 (List.mem_cons_of_mem _ h)
theorem tV_3_777 {w : Cond} (h : w ∈ tS_3_777) : w ∈ lw_tbl := tV_3_776 (List.mem_cons_of_mem _ h)
theorem tV_3_778 {w : Cond} (h : w ∈ tS_3_778) : w ∈ lw_tbl := tV_3_777 (List.mem_cons_of_mem _ h)
theorem tV_3_779 {w : Cond} (h : w ∈ tS_3_779) : w ∈ lw_tbl := tV_3_778 (List.mem_cons_of_mem _ h)
theorem tV_3_780 {w : Cond} (h : w ∈ tS_3_780) : w ∈ lw_tbl := tV_3_779 (List.mem_cons_of_mem _ h)
theorem tV_3_781 {w : Cond} (h : w ∈ tS_3_781) : w ∈ lw_tbl := tV_3_780 (List.mem_cons_of_mem _ h)
theorem tV_3_782 {w : Cond} (h : w ∈ tS_3_782) : w ∈ lw_tbl := tV_3_781 (List.mem_cons_of_mem _ h)
theorem tV_3_783 {w : Cond} (h : w ∈ tS_3_783) : w ∈ lw_tbl := tV_3_782 (List.mem_cons_of_mem _ h)
theorem tV_3_784 {w : Cond} (h : w ∈ tS_3_784) : w ∈ lw_tbl := tV_3_783 (List.mem_cons_of_mem _ h)
theorem tV_3_785 {w : Cond} (h : w ∈ tS_3_785) : w ∈ lw_tbl := tV_3_784 (List.mem_cons_of_mem _ h)
theorem tV_3_786 {w : Cond} (h : w ∈ tS_3_786) : w ∈ lw_tbl := tV_3_785 (List.mem_cons_of_mem _ h)
theorem tV_3_787 {w : Cond} (h : w ∈ tS_3_787) : w ∈ lw_tbl := tV_3_786 (List.mem_cons_of_mem _ h)
theorem tV_3_788 {w : Cond} (h : w ∈ tS_3_788) : w ∈ lw_tbl := tV_3_787 (List.mem_cons_of_mem _ h)
theorem tV_3_789 {w : Cond} (h : w ∈ tS_3_789) : w ∈ lw_tbl := tV_3_788 (List.mem_cons_of_mem _ h)
theorem tV_3_790 {w : Cond} (h : w ∈ tS_3_790) : w ∈ lw_tbl := tV_3_789 (List.mem_cons_of_mem _ h)
theorem tV_3_791 {w : Cond} (h : w ∈ tS_3_791) : w ∈ lw_tbl := tV_3_790 (List.mem_cons_of_mem _ h)
theorem tV_3_792 {w : Cond} (h : w ∈ tS_3_792) : w ∈ lw_tbl := tV_3_791 (List.mem_cons_of_mem _ h)
theorem tV_3_793 {w : Cond} (h : w ∈ tS_3_793) : w ∈ lw_tbl := tV_3_792 (List.mem_cons_of_mem _ h)
theorem tV_3_794 {w : Cond} (h : w ∈ tS_3_794) : w ∈ lw_tbl := tV_3_793 (List.mem_cons_of_mem _ h)
theorem tV_3_795 {w : Cond} (h : w ∈ tS_3_795) : w ∈ lw_tbl := tV_3_794 (List.mem_cons_of_mem _ h)
theorem tV_3_796 {w : Cond} (h : w ∈ tS_3_796) : w ∈ lw_tbl := tV_3_795 (List.mem_cons_of_mem _ h)
theorem tV_3_797 {w : Cond} (h : w ∈ tS_3_797) : w ∈ lw_tbl := tV_3_796 (List.mem_cons_of_mem _ h)
theorem tV_3_798 {w : Cond} (h : w ∈ tS_3_798) : w ∈ lw_tbl := tV_3_797 (List.mem_cons_of_mem _ h)
theorem tV_3_799 {w : Cond} (h : w ∈ tS_3_799) : w ∈ lw_tbl := tV_3_798 (List.mem_cons_of_mem _ h)
theorem tV_3_800 {w : Cond} (h : w ∈ tS_3_800) : w ∈ lw_tbl := tV_3_799 (List.mem_cons_of_mem _ h)
theorem tV_3_801 {w : Cond} (h : w ∈ tS_3_801) : w ∈ lw_tbl := tV_3_800 (List.mem_cons_of_mem _ h)
theorem tV_3_802 {w : Cond} (h : w ∈ tS_3_802) : w ∈ lw_tbl := tV_3_801 (List.mem_cons_of_mem _ h)
theorem tV_3_803 {w : Cond} (h : w ∈ tS_3_803) : w ∈ lw_tbl := tV_3_802 (List.mem_cons_of_mem _ h)
theorem tV_3_804 {w : Cond} (h : w ∈ tS_3_804) : w ∈ lw_tbl := tV_3_803 (List.mem_cons_of_mem _ h)
theorem tV_3_805 {w : Cond} (h : w ∈ tS_3_805) : w ∈ lw_tbl := tV_3_804 (List.mem_cons_of_mem _ h)
theorem tV_3_806 {w : Cond} (h : w ∈ tS_3_806) : w ∈ lw_tbl := tV_3_805 (List.mem_cons_of_mem _ h)
theorem tV_3_807 {w : Cond} (h : w ∈ tS_3_807) : w ∈ lw_tbl := tV_3_806 (List.mem_cons_of_mem _ h)
theorem tV_3_808 {w : Cond} (h : w ∈ tS_3_808) : w ∈ lw_tbl := tV_3_807 (List.mem_cons_of_mem _ h)
theorem tV_3_809 {w : Cond} (h : w ∈ tS_3_809) : w ∈ lw_tbl := tV_3_808 (List.mem_cons_of_mem _ h)
theorem tV_3_810 {w : Cond} (h : w ∈ tS_3_810) : w ∈ lw_tbl := tV_3_809 (List.mem_cons_of_mem _ h)
theorem tV_3_811 {w : Cond} (h : w ∈ tS_3_811) : w ∈ lw_tbl := tV_3_810 (List.mem_cons_of_mem _ h)
theorem tV_3_812 {w : Cond} (h : w ∈ tS_3_812) : w ∈ lw_tbl := tV_3_811 (List.mem_cons_of_mem _ h)
theorem tV_3_813 {w : Cond} (h : w ∈ tS_3_813) : w ∈ lw_tbl := tV_3_812 (List.mem_cons_of_mem _ h)
theorem tV_3_814 {w : Cond} (h : w ∈ tS_3_814) : w ∈ lw_tbl := tV_3_813 (List.mem_cons_of_mem _ h)
theorem tV_3_815 {w : Cond} (h : w ∈ tS_3_815) : w ∈ lw_tbl := tV_3_814 (List.mem_cons_of_mem _ h)
theorem tV_3_816 {w : Cond} (h : w ∈ tS_3_816) : w ∈ lw_tbl := tV_3_815 (List.mem_cons_of_mem _ h)
theorem tV_3_817 {w : Cond} (h : w ∈ tS_3_817) : w ∈ lw_tbl := tV_3_816 (List.mem_cons_of_mem _ h)
theorem tV_3_818 {w : Cond} (h : w ∈ tS_3_818) : w ∈ lw_tbl := tV_3_817 (List.mem_cons_of_mem _ h)
theorem tV_3_819 {w : Cond} (h : w ∈ tS_3_819) : w ∈ lw_tbl := tV_3_818 (List.mem_cons_of_mem _ h)
theorem tV_3_820 {w : Cond} (h : w ∈ tS_3_820) : w ∈ lw_tbl := tV_3_819 (List.mem_cons_of_mem _ h)
theorem tV_3_821 {w : Cond} (h : w ∈ tS_3_821) : w ∈ lw_tbl := tV_3_820 (List.mem_cons_of_mem _ h)
theorem tV_3_822 {w : Cond} (h : w ∈ tS_3_822) : w ∈ lw_tbl := tV_3_821 (List.mem_cons_of_mem _ h)
theorem tV_3_823 {w : Cond} (h : w ∈ tS_3_823) : w ∈ lw_tbl := tV_3_822 (List.mem_cons_of_mem _ h)
theorem tV_3_824 {w : Cond} (h : w ∈ tS_3_824) : w ∈ lw_tbl := tV_3_823 (List.mem_cons_of_mem _ h)
theorem tV_3_825 {w : Cond} (h : w ∈ tS_3_825) : w ∈ lw_tbl := tV_3_824 (List.mem_cons_of_mem _ h)
theorem tV_3_826 {w : Cond} (h : w ∈ tS_3_826) : w ∈ lw_tbl := tV_3_825 (List.mem_cons_of_mem _ h)
theorem tV_3_827 {w : Cond} (h : w ∈ tS_3_827) : w ∈ lw_tbl := tV_3_826 (List.mem_cons_of_mem _ h)
theorem tV_3_828 {w : Cond} (h : w ∈ tS_3_828) : w ∈ lw_tbl := tV_3_827 (List.mem_cons_of_mem _ h)
theorem tV_3_829 {w : Cond} (h : w ∈ tS_3_829) : w ∈ lw_tbl := tV_3_828 (List.mem_cons_of_mem _ h)
theorem tV_3_830 {w : Cond} (h : w ∈ tS_3_830) : w ∈ lw_tbl := tV_3_829 (List.mem_cons_of_mem _ h)
theorem tV_3_831 {w : Cond} (h : w ∈ tS_3_831) : w ∈ lw_tbl := tV_3_830 (List.mem_cons_of_mem _ h)
theorem tV_3_832 {w : Cond} (h : w ∈ tS_3_832) : w ∈ lw_tbl := tV_3_831 (List.mem_cons_of_mem _ h)
theorem tV_3_833 {w : Cond} (h : w ∈ tS_3_833) : w ∈ lw_tbl := tV_3_832 (List.mem_cons_of_mem _ h)
theorem tV_3_834 {w : Cond} (h : w ∈ tS_3_834) : w ∈ lw_tbl := tV_3_833 (List.mem_cons_of_mem _ h)
theorem tV_3_835 {w : Cond} (h : w ∈ tS_3_835) : w ∈ lw_tbl := tV_3_834 (List.mem_cons_of_mem _ h)
theorem tV_3_836 {w : Cond} (h : w ∈ tS_3_836) : w ∈ lw_tbl := tV_3_835 (List.mem_cons_of_mem _ h)
theorem tV_3_837 {w : Cond} (h : w ∈ tS_3_837) : w ∈ lw_tbl := tV_3_836 (List.mem_cons_of_mem _ h)
theorem tV_3_838 {w : Cond} (h : w ∈ tS_3_838) : w ∈ lw_tbl := tV_3_837 (List.mem_cons_of_mem _ h)
theorem tV_3_839 {w : Cond} (h : w ∈ tS_3_839) : w ∈ lw_tbl := tV_3_838 (List.mem_cons_of_mem _ h)
theorem tV_3_840 {w : Cond} (h : w ∈ tS_3_840) : w ∈ lw_tbl := tV_3_839 (List.mem_cons_of_mem _ h)
theorem tV_3_841 {w : Cond} (h : w ∈ tS_3_841) : w ∈ lw_tbl := tV_3_840 (List.mem_cons_of_mem _ h)
theorem tV_3_842 {w : Cond} (h : w ∈ tS_3_842) : w ∈ lw_tbl := tV_3_841 (List.mem_cons_of_mem _ h)
theorem tV_3_843 {w : Cond} (h : w ∈ tS_3_843) : w ∈ lw_tbl := tV_3_842 (List.mem_cons_of_mem _ h)
theorem tV_3_844 {w : Cond} (h : w ∈ tS_3_844) : w ∈ lw_tbl := tV_3_843 (List.mem_cons_of_mem _ h)
theorem tV_3_845 {w : Cond} (h : w ∈ tS_3_845) : w ∈ lw_tbl := tV_3_844 (List.mem_cons_of_mem _ h)
theorem tV_3_846 {w : Cond} (h : w ∈ tS_3_846) : w ∈ lw_tbl := tV_3_845 (List.mem_cons_of_mem _ h)
theorem tV_3_847 {w : Cond} (h : w ∈ tS_3_847) : w ∈ lw_tbl := tV_3_846 (List.mem_cons_of_mem _ h)
theorem tV_3_848 {w : Cond} (h : w ∈ tS_3_848) : w ∈ lw_tbl := tV_3_847 (List.mem_cons_of_mem _ h)
theorem tV_3_849 {w : Cond} (h : w ∈ tS_3_849) : w ∈ lw_tbl := tV_3_848 (List.mem_cons_of_mem _ h)
theorem tV_3_850 {w : Cond} (h : w ∈ tS_3_850) : w ∈ lw_tbl := tV_3_849 (List.mem_cons_of_mem _ h)
theorem tV_3_851 {w : Cond} (h : w ∈ tS_3_851) : w ∈ lw_tbl := tV_3_850 (List.mem_cons_of_mem _ h)
theorem tV_3_852 {w : Cond} (h : w ∈ tS_3_852) : w ∈ lw_tbl := tV_3_851 (List.mem_cons_of_mem _ h)
theorem tV_3_853 {w : Cond} (h : w ∈ tS_3_853) : w ∈ lw_tbl := tV_3_852 (List.mem_cons_of_mem _ h)
theorem tV_3_854 {w : Cond} (h : w ∈ tS_3_854) : w ∈ lw_tbl := tV_3_853 (List.mem_cons_of_mem _ h)
theorem tV_3_855 {w : Cond} (h : w ∈ tS_3_855) : w ∈ lw_tbl := tV_3_854 (List.mem_cons_of_mem _ h)
theorem tV_3_856 {w : Cond} (h : w ∈ tS_3_856) : w ∈ lw_tbl := tV_3_855 (List.mem_cons_of_mem _ h)
theorem tV_3_857 {w : Cond} (h : w ∈ tS_3_857) : w ∈ lw_tbl := tV_3_856 (List.mem_cons_of_mem _ h)
theorem tV_3_858 {w : Cond} (h : w ∈ tS_3_858) : w ∈ lw_tbl := tV_3_857 (List.mem_cons_of_mem _ h)
theorem tV_3_859 {w : Cond} (h : w ∈ tS_3_859) : w ∈ lw_tbl := tV_3_858 (List.mem_cons_of_mem _ h)
theorem tV_3_860 {w : Cond} (h : w ∈ tS_3_860) : w ∈ lw_tbl := tV_3_859 (List.mem_cons_of_mem _ h)
theorem tV_3_861 {w : Cond} (h : w ∈ tS_3_861) : w ∈ lw_tbl := tV_3_860 (List.mem_cons_of_mem _ h)
theorem tV_3_862 {w : Cond} (h : w ∈ tS_3_862) : w ∈ lw_tbl := tV_3_861 (List.mem_cons_of_mem _ h)
theorem tV_3_863 {w : Cond} (h : w ∈ tS_3_863) : w ∈ lw_tbl := tV_3_862 (List.mem_cons_of_mem _ h)
theorem tV_3_864 {w : Cond} (h : w ∈ tS_3_864) : w ∈ lw_tbl := tV_3_863 (List.mem_cons_of_mem _ h)
theorem tV_3_865 {w : Cond} (h : w ∈ tS_3_865) : w ∈ lw_tbl := tV_3_864 (List.mem_cons_of_mem _ h)
theorem tV_3_866 {w : Cond} (h : w ∈ tS_3_866) : w ∈ lw_tbl := tV_3_865 (List.mem_cons_of_mem _ h)
theorem tV_3_867 {w : Cond} (h : w ∈ tS_3_867) : w ∈ lw_tbl := tV_3_866 (List.mem_cons_of_mem _ h)
theorem tV_3_868 {w : Cond} (h : w ∈ tS_3_868) : w ∈ lw_tbl := tV_3_867 (List.mem_cons_of_mem _ h)
theorem tV_3_869 {w : Cond} (h : w ∈ tS_3_869) : w ∈ lw_tbl := tV_3_868 (List.mem_cons_of_mem _ h)
theorem tV_3_870 {w : Cond} (h : w ∈ tS_3_870) : w ∈ lw_tbl := tV_3_869 (List.mem_cons_of_mem _ h)
theorem tV_3_871 {w : Cond} (h : w ∈ tS_3_871) : w ∈ lw_tbl := tV_3_870 (List.mem_cons_of_mem _ h)
theorem tV_3_872 {w : Cond} (h : w ∈ tS_3_872) : w ∈ lw_tbl := tV_3_871 (List.mem_cons_of_mem _ h)
theorem tV_3_873 {w : Cond} (h : w ∈ tS_3_873) : w ∈ lw_tbl := tV_3_872 (List.mem_cons_of_mem _ h)
theorem tV_3_874 {w : Cond} (h : w ∈ tS_3_874) : w ∈ lw_tbl := tV_3_873 (List.mem_cons_of_mem _ h)
theorem tV_3_875 {w : Cond} (h : w ∈ tS_3_875) : w ∈ lw_tbl := tV_3_874 (List.mem_cons_of_mem _ h)
theorem tV_3_876 {w : Cond} (h : w ∈ tS_3_876) : w ∈ lw_tbl := tV_3_875 (List.mem_cons_of_mem _ h)
theorem tV_3_877 {w : Cond} (h : w ∈ tS_3_877) : w ∈ lw_tbl := tV_3_876 (List.mem_cons_of_mem _ h)
theorem tV_3_878 {w : Cond} (h : w ∈ tS_3_878) : w ∈ lw_tbl := tV_3_877 (List.mem_cons_of_mem _ h)
theorem tV_3_879 {w : Cond} (h : w ∈ tS_3_879) : w ∈ lw_tbl := tV_3_878 (List.mem_cons_of_mem _ h)
theorem tV_3_880 {w : Cond} (h : w ∈ tS_3_880) : w ∈ lw_tbl := tV_3_879 (List.mem_cons_of_mem _ h)
theorem tV_3_881 {w : Cond} (h : w ∈ tS_3_881) : w ∈ lw_tbl := tV_3_880 (List.mem_cons_of_mem _ h)
theorem tV_3_882 {w : Cond} (h : w ∈ tS_3_882) : w ∈ lw_tbl := tV_3_881 (List.mem_cons_of_mem _ h)
theorem tV_3_883 {w : Cond} (h : w ∈ tS_3_883) : w ∈ lw_tbl := tV_3_882 (List.mem_cons_of_mem _ h)
theorem tV_3_884 {w : Cond} (h : w ∈ tS_3_884) : w ∈ lw_tbl := tV_3_883 (List.mem_cons_of_mem _ h)
theorem tV_3_885 {w : Cond} (h : w ∈ tS_3_885) : w ∈ lw_tbl := tV_3_884 (List.mem_cons_of_mem _ h)
theorem tV_3_886 {w : Cond} (h : w ∈ tS_3_886) : w ∈ lw_tbl := tV_3_885 (List.mem_cons_of_mem _ h)
theorem tV_3_887 {w : Cond} (h : w ∈ tS_3_887) : w ∈ lw_tbl := tV_3_886 (List.mem_cons_of_mem _ h)
theorem tV_3_888 {w : Cond} (h : w ∈ tS_3_888) : w ∈ lw_tbl := tV_3_887 (List.mem_cons_of_mem _ h)
theorem tV_3_889 {w : Cond} (h : w ∈ tS_3_889) : w ∈ lw_tbl := tV_3_888 (List.mem_cons_of_mem _ h)
theorem tV_3_890 {w : Cond} (h : w ∈ tS_3_890) : w ∈ lw_tbl := tV_3_889 (List.mem_cons_of_mem _ h)
theorem tV_3_891 {w : Cond} (h : w ∈ tS_3_891) : w ∈ lw_tbl := tV_3_890 (List.mem_cons_of_mem _ h)
theorem tV_3_892 {w : Cond} (h : w ∈ tS_3_892) : w ∈ lw_tbl := tV_3_891 (List.mem_cons_of_mem _ h)
theorem tV_3_893 {w : Cond} (h : w ∈ tS_3_893) : w ∈ lw_tbl := tV_3_892 (List.mem_cons_of_mem _ h)
theorem tV_3_894 {w : Cond} (h : w ∈ tS_3_894) : w ∈ lw_tbl := tV_3_893 (List.mem_cons_of_mem _ h)
theorem tV_3_895 {w : Cond} (h : w ∈ tS_3_895) : w ∈ lw_tbl := tV_3_894 (List.mem_cons_of_mem _ h)
theorem mw_0 : Jvm.Cond.selects "Runweaver" ({ cls := "Runweaver", name := "isRowSound", desc := "(LRunweaver$Row;)Z" } : Jvm.MethodName) ({ cls := "Runweaver", name := "isRowSound", desc := "(LRunweaver$Row;)Z" } : Jvm.MethodName) ∈ mGw := mGw_of (List.mem_of_getElem? (i := 0) (by decide +kernel)) (by decide +kernel)
theorem mw_1 : Jvm.Cond.selects "Runweaver$Loom" ({ cls := "Runweaver$Loom", name := "mergeNeighbours", desc := "(LRunweaver$Row;I)I" } : Jvm.MethodName) ({ cls := "Runweaver$Loom", name := "mergeNeighbours", desc := "(LRunweaver$Row;I)I" } : Jvm.MethodName) ∈ mGw := mGw_of (List.mem_of_getElem? (i := 1) (by decide +kernel)) (by decide +kernel)
theorem mw_2 : Jvm.Cond.selects "Runweaver" ({ cls := "Runweaver", name := "isWeaveSound", desc := "(LRunweaver$Row;LRunweaver$Row;)Z" } : Jvm.MethodName) ({ cls := "Runweaver", name := "isWeaveSound", desc := "(LRunweaver$Row;LRunweaver$Row;)Z" } : Jvm.MethodName) ∈ mGw := mGw_of (List.mem_of_getElem? (i := 2) (by decide +kernel)) (by decide +kernel)
theorem mw_3 : Jvm.Cond.selects "Runweaver" ({ cls := "Runweaver", name := "rowOf", desc := "(I)LRunweaver$Row;" } : Jvm.MethodName) ({ cls := "Runweaver", name := "rowOf", desc := "(I)LRunweaver$Row;" } : Jvm.MethodName) ∈ mGw := mGw_of (List.mem_of_getElem? (i := 3) (by decide +kernel)) (by decide +kernel)
theorem mw_4 : Jvm.Cond.selects "java/lang/Throwable" ({ cls := "java/lang/Throwable", name := "fillInStackTrace", desc := "(I)Ljava/lang/Throwable;" } : Jvm.MethodName) ({ cls := "java/lang/Throwable", name := "fillInStackTrace", desc := "(I)Ljava/lang/Throwable;" } : Jvm.MethodName) ∈ mGw := mGw_of (List.mem_of_getElem? (i := 4) (by decide +kernel)) (by decide +kernel)
theorem mw_5 : Jvm.Cond.selects "Runweaver" ({ cls := "Runweaver", name := "appendDrawn", desc := "(LRunweaver$Row;III)V" } : Jvm.MethodName) ({ cls := "Runweaver", name := "appendDrawn", desc := "(LRunweaver$Row;III)V" } : Jvm.MethodName) ∈ mGw := mGw_of (List.mem_of_getElem? (i := 5) (by decide +kernel)) (by decide +kernel)
theorem mw_6 : Jvm.Cond.selects "Runweaver" ({ cls := "Runweaver", name := "stampOfNew", desc := "(LRunweaver$Row;)I" } : Jvm.MethodName) ({ cls := "Runweaver", name := "stampOfNew", desc := "(LRunweaver$Row;)I" } : Jvm.MethodName) ∈ mGw := mGw_of (List.mem_of_getElem? (i := 6) (by decide +kernel)) (by decide +kernel)
theorem mw_7 : Jvm.Cond.selects "Runweaver" ({ cls := "Runweaver", name := "nextStamp", desc := "()I" } : Jvm.MethodName) ({ cls := "Runweaver", name := "nextStamp", desc := "()I" } : Jvm.MethodName) ∈ mGw := mGw_of (List.mem_of_getElem? (i := 7) (by decide +kernel)) (by decide +kernel)
theorem mw_8 : Jvm.Cond.selects "Runweaver" ({ cls := "Runweaver", name := "appendPattern", desc := "(LRunweaver$Row;IIII)V" } : Jvm.MethodName) ({ cls := "Runweaver", name := "appendPattern", desc := "(LRunweaver$Row;IIII)V" } : Jvm.MethodName) ∈ mGw := mGw_of (List.mem_of_getElem? (i := 8) (by decide +kernel)) (by decide +kernel)
theorem mw_9 : Jvm.Cond.selects "Runweaver" ({ cls := "Runweaver", name := "done", desc := "(I)I" } : Jvm.MethodName) ({ cls := "Runweaver", name := "done", desc := "(I)I" } : Jvm.MethodName) ∈ mGw := mGw_of (List.mem_of_getElem? (i := 9) (by decide +kernel)) (by decide +kernel)
theorem mw_10 : Jvm.Cond.selects "Runweaver" ({ cls := "Runweaver", name := "refused", desc := "()I" } : Jvm.MethodName) ({ cls := "Runweaver", name := "refused", desc := "()I" } : Jvm.MethodName) ∈ mGw := mGw_of (List.mem_of_getElem? (i := 10) (by decide +kernel)) (by decide +kernel)
theorem mw_11 : Jvm.Cond.selects "Runweaver" ({ cls := "Runweaver", name := "bring", desc := "(LRunweaver$Row;LRunweaver$Row;Z)V" } : Jvm.MethodName) ({ cls := "Runweaver", name := "bring", desc := "(LRunweaver$Row;LRunweaver$Row;Z)V" } : Jvm.MethodName) ∈ mGw := mGw_of (List.mem_of_getElem? (i := 11) (by decide +kernel)) (by decide +kernel)
theorem mw_12 : Jvm.Cond.selects "Runweaver" ({ cls := "Runweaver", name := "stampOfComer", desc := "(LRunweaver$Row;IZ)I" } : Jvm.MethodName) ({ cls := "Runweaver", name := "stampOfComer", desc := "(LRunweaver$Row;IZ)I" } : Jvm.MethodName) ∈ mGw := mGw_of (List.mem_of_getElem? (i := 12) (by decide +kernel)) (by decide +kernel)
theorem mw_13 : Jvm.Cond.selects "Runweaver" ({ cls := "Runweaver", name := "itemsInAll", desc := "()I" } : Jvm.MethodName) ({ cls := "Runweaver", name := "itemsInAll", desc := "()I" } : Jvm.MethodName) ∈ mGw := mGw_of (List.mem_of_getElem? (i := 13) (by decide +kernel)) (by decide +kernel)
theorem mw_14 : Jvm.Cond.selects "Runweaver" ({ cls := "Runweaver", name := "sortedRows", desc := "()I" } : Jvm.MethodName) ({ cls := "Runweaver", name := "sortedRows", desc := "()I" } : Jvm.MethodName) ∈ mGw := mGw_of (List.mem_of_getElem? (i := 14) (by decide +kernel)) (by decide +kernel)
theorem mw_15 : Jvm.Cond.initialized "RunweaverLaw" ∈ mGw := mGw_of (tV_0_0 List.mem_cons_self) (by decide +kernel)
theorem mw_16 : Jvm.Cond.initialized "Runweaver" ∈ mGw := mGw_of (tV_0_1 List.mem_cons_self) (by decide +kernel)
theorem mw_17 : Jvm.Cond.initialized "Runweaver$Row" ∈ mGw := mGw_of (tV_0_2 List.mem_cons_self) (by decide +kernel)
theorem mw_18 : Jvm.Cond.initialized "Runweaver$Loom" ∈ mGw := mGw_of (tV_0_3 List.mem_cons_self) (by decide +kernel)
theorem mw_19 : Jvm.Cond.initialized "java/lang/Throwable" ∈ mGw := mGw_of (tV_0_4 List.mem_cons_self) (by decide +kernel)
theorem mw_20 : Jvm.Cond.initialized "java/lang/Exception" ∈ mGw := mGw_of (tV_0_5 List.mem_cons_self) (by decide +kernel)
theorem mw_21 : Jvm.Cond.initialized "java/lang/RuntimeException" ∈ mGw := mGw_of (tV_0_6 List.mem_cons_self) (by decide +kernel)
theorem mw_22 : Jvm.Cond.initialized "java/lang/IndexOutOfBoundsException" ∈ mGw := mGw_of (tV_0_7 List.mem_cons_self) (by decide +kernel)
theorem mw_23 : Jvm.Cond.initialized "java/lang/IllegalArgumentException" ∈ mGw := mGw_of (tV_0_8 List.mem_cons_self) (by decide +kernel)
theorem mw_24 : Jvm.Cond.initialized "java/lang/Math" ∈ mGw := mGw_of (tV_0_9 List.mem_cons_self) (by decide +kernel)
theorem mw_25 : Jvm.Cond.initialized "java/lang/System" ∈ mGw := mGw_of (tV_0_10 List.mem_cons_self) (by decide +kernel)
theorem mw_26 : Jvm.Cond.initialized "java/lang/AbstractStringBuilder" ∈ mGw := mGw_of (tV_0_11 List.mem_cons_self) (by decide +kernel)
theorem mw_27 : Jvm.Cond.initialized "java/lang/StringBuilder" ∈ mGw := mGw_of (tV_0_12 List.mem_cons_self) (by decide +kernel)
theorem mw_28 : Jvm.Cond.initialized "java/lang/String" ∈ mGw := mGw_of (tV_0_13 List.mem_cons_self) (by decide +kernel)
theorem mw_29 : Jvm.Cond.initialized "java/lang/StringUTF16" ∈ mGw := mGw_of (tV_0_14 List.mem_cons_self) (by decide +kernel)
theorem mw_30 : Jvm.Cond.initialized "jdk/internal/util/ArraysSupport" ∈ mGw := mGw_of (tV_0_15 List.mem_cons_self) (by decide +kernel)
theorem mw_31 : Jvm.Cond.initialized "java/util/Arrays" ∈ mGw := mGw_of (tV_0_16 List.mem_cons_self) (by decide +kernel)
theorem mw_32 : Jvm.Cond.initialized "java/lang/StringLatin1" ∈ mGw := mGw_of (tV_0_17 List.mem_cons_self) (by decide +kernel)
theorem mw_33 : Jvm.Cond.initialized "jdk/internal/util/Preconditions" ∈ mGw := mGw_of (tV_0_18 List.mem_cons_self) (by decide +kernel)
theorem mw_34 : Jvm.Cond.initialized "java/lang/Integer" ∈ mGw := mGw_of (tV_0_19 List.mem_cons_self) (by decide +kernel)
theorem mw_35 : Jvm.Cond.classLink "RunweaverLaw" (10 : Nat) "Runweaver" ∈ mGw := mGw_of (tV_0_20 List.mem_cons_self) (by decide +kernel)
theorem mw_36 : Jvm.Cond.instantiable "Runweaver" (6 : Nat) ∈ mGw := mGw_of (tV_0_21 List.mem_cons_self) (by decide +kernel)
theorem mw_37 : Jvm.Cond.methodLink "RunweaverLaw" (12 : Nat) ({ cls := "Runweaver", name := "<init>", desc := "()V" } : Jvm.MethodName) ∈ mGw := mGw_of (tV_0_22 List.mem_cons_self) (by decide +kernel)
theorem mw_38 : Jvm.Cond.instanceMethod ({ cls := "Runweaver", name := "<init>", desc := "()V" } : Jvm.MethodName) ∈ mGw := mGw_of (tV_0_23 List.mem_cons_self) (by decide +kernel)
theorem mw_39 : Jvm.Cond.code ({ cls := "Runweaver", name := "<init>", desc := "()V" } : Jvm.MethodName) prog_1_method_1_code (1 : Nat) (Option.none : Option Jvm.ClassFile.FieldType) ∈ mGw := mGw_of (tV_0_24 List.mem_cons_self) (by decide +kernel)
theorem mw_40 : Jvm.Cond.methodLink "Runweaver" (1 : Nat) ({ cls := "java/lang/Object", name := "<init>", desc := "()V" } : Jvm.MethodName) ∈ mGw := mGw_of (tV_0_25 List.mem_cons_self) (by decide +kernel)
theorem mw_41 : Jvm.Cond.instanceMethod ({ cls := "java/lang/Object", name := "<init>", desc := "()V" } : Jvm.MethodName) ∈ mGw := mGw_of (tV_0_26 List.mem_cons_self) (by decide +kernel)
theorem mw_42 : Jvm.Cond.code ({ cls := "java/lang/Object", name := "<init>", desc := "()V" } : Jvm.MethodName) object_method_1_code (1 : Nat) (Option.none : Option Jvm.ClassFile.FieldType) ∈ mGw := mGw_of (tV_0_27 List.mem_cons_self) (by decide +kernel)
theorem mw_43 : Jvm.Cond.classLink "Runweaver" (9 : Nat) "Runweaver$Row" ∈ mGw := mGw_of (tV_0_28 List.mem_cons_self) (by decide +kernel)
theorem mw_45 : Jvm.Cond.instantiable "Runweaver$Row" (4 : Nat) ∈ mGw := mGw_of (tV_0_30 List.mem_cons_self) (by decide +kernel)
theorem mw_46 : Jvm.Cond.methodLink "Runweaver" (15 : Nat) ({ cls := "Runweaver$Row", name := "<init>", desc := "(IZ)V" } : Jvm.MethodName) ∈ mGw := mGw_of (tV_0_31 List.mem_cons_self) (by decide +kernel)
theorem mw_47 : Jvm.Cond.instanceMethod ({ cls := "Runweaver$Row", name := "<init>", desc := "(IZ)V" } : Jvm.MethodName) ∈ mGw := mGw_of (tV_0_32 List.mem_cons_self) (by decide +kernel)
theorem mw_48 : Jvm.Cond.code ({ cls := "Runweaver$Row", name := "<init>", desc := "(IZ)V" } : Jvm.MethodName) prog_3_method_1_code (3 : Nat) (Option.none : Option Jvm.ClassFile.FieldType) ∈ mGw := mGw_of (tV_0_33 List.mem_cons_self) (by decide +kernel)
theorem mw_49 : Jvm.Cond.methodLink "Runweaver$Row" (3 : Nat) ({ cls := "java/lang/Object", name := "<init>", desc := "()V" } : Jvm.MethodName) ∈ mGw := mGw_of (tV_0_34 List.mem_cons_self) (by decide +kernel)
theorem mw_50 : Jvm.Cond.fieldLink "Runweaver$Row" (9 : Nat) "Runweaver$Row" "keys" "[I" ∈ mGw := mGw_of (tV_0_35 List.mem_cons_self) (by decide +kernel)
theorem mw_51 : Jvm.Cond.fieldLink "Runweaver" (79 : Nat) "Runweaver$Row" "keys" "[I" ∈ mGw := mGw_of (tV_0_36 List.mem_cons_self) (by decide +kernel)
theorem mw_52 : Jvm.Cond.fieldLink "Runweaver$Loom" (52 : Nat) "Runweaver$Row" "keys" "[I" ∈ mGw := mGw_of (tV_0_37 List.mem_cons_self) (by decide +kernel)
theorem mw_53 : Jvm.Cond.fieldLink "Runweaver$Row" (15 : Nat) "Runweaver$Row" "stamps" "[I" ∈ mGw := mGw_of (tV_0_38 List.mem_cons_self) (by decide +kernel)
theorem mw_54 : Jvm.Cond.fieldLink "Runweaver" (83 : Nat) "Runweaver$Row" "stamps" "[I" ∈ mGw := mGw_of (tV_0_39 List.mem_cons_self) (by decide +kernel)
theorem mw_55 : Jvm.Cond.fieldLink "Runweaver$Loom" (56 : Nat) "Runweaver$Row" "stamps" "[I" ∈ mGw := mGw_of (tV_0_40 List.mem_cons_self) (by decide +kernel)
theorem mw_56 : Jvm.Cond.fieldLink "Runweaver$Row" (18 : Nat) "Runweaver$Row" "isOfThings" "Z" ∈ mGw := mGw_of (tV_0_41 List.mem_cons_self) (by decide +kernel)
theorem mw_57 : Jvm.Cond.fieldLink "Runweaver" (123 : Nat) "Runweaver$Row" "isOfThings" "Z" ∈ mGw := mGw_of (tV_0_42 List.mem_cons_self) (by decide +kernel)
theorem mw_58 : Jvm.Cond.fieldLink "Runweaver$Loom" (31 : Nat) "Runweaver$Row" "size" "I" ∈ mGw := mGw_of (tV_0_43 List.mem_cons_self) (by decide +kernel)
theorem mw_59 : Jvm.Cond.fieldLink "Runweaver" (39 : Nat) "Runweaver$Row" "size" "I" ∈ mGw := mGw_of (tV_0_44 List.mem_cons_self) (by decide +kernel)
theorem mw_60 : Jvm.Cond.fieldLink "Runweaver$Row" (22 : Nat) "Runweaver$Row" "size" "I" ∈ mGw := mGw_of (tV_0_45 List.mem_cons_self) (by decide +kernel)
theorem mw_69 : Jvm.Cond.superclass "Runweaver$Row" "java/lang/Object" ∈ mGw := mGw_of (tV_0_54 List.mem_cons_self) (by decide +kernel)
theorem mw_70 : Jvm.Cond.arrayClass Jvm.ClassFile.FieldType.int ∈ mGw := mGw_of (tV_0_55 List.mem_cons_self) (by decide +kernel)
theorem mw_71 : Jvm.Cond.classLink "Runweaver" (18 : Nat) "Runweaver$Loom" ∈ mGw := mGw_of (tV_0_56 List.mem_cons_self) (by decide +kernel)
theorem mw_72 : Jvm.Cond.instantiable "Runweaver$Loom" (4 : Nat) ∈ mGw := mGw_of (tV_0_57 List.mem_cons_self) (by decide +kernel)
theorem mw_73 : Jvm.Cond.methodLink "Runweaver" (20 : Nat) ({ cls := "Runweaver$Loom", name := "<init>", desc := "(I)V" } : Jvm.MethodName) ∈ mGw := mGw_of (tV_0_58 List.mem_cons_self) (by decide +kernel)
theorem mw_74 : Jvm.Cond.instanceMethod ({ cls := "Runweaver$Loom", name := "<init>", desc := "(I)V" } : Jvm.MethodName) ∈ mGw := mGw_of (tV_0_59 List.mem_cons_self) (by decide +kernel)
theorem mw_75 : Jvm.Cond.code ({ cls := "Runweaver$Loom", name := "<init>", desc := "(I)V" } : Jvm.MethodName) prog_2_method_1_code (2 : Nat) (Option.none : Option Jvm.ClassFile.FieldType) ∈ mGw := mGw_of (tV_0_60 List.mem_cons_self) (by decide +kernel)
theorem mw_76 : Jvm.Cond.methodLink "Runweaver$Loom" (1 : Nat) ({ cls := "java/lang/Object", name := "<init>", desc := "()V" } : Jvm.MethodName) ∈ mGw := mGw_of (tV_0_61 List.mem_cons_self) (by decide +kernel)
theorem mw_77 : Jvm.Cond.classLink "Runweaver$Loom" (7 : Nat) "Runweaver$Row" ∈ mGw := mGw_of (tV_0_62 List.mem_cons_self) (by decide +kernel)
theorem mw_78 : Jvm.Cond.methodLink "Runweaver$Loom" (9 : Nat) ({ cls := "Runweaver$Row", name := "<init>", desc := "(IZ)V" } : Jvm.MethodName) ∈ mGw := mGw_of (tV_0_63 List.mem_cons_self) (by decide +kernel)
theorem mw_79 : Jvm.Cond.fieldLink "Runweaver$Loom" (12 : Nat) "Runweaver$Loom" "sorted" "LRunweaver$Row;" ∈ mGw := mGw_of (tV_0_64 List.mem_cons_self) (by decide +kernel)
theorem mw_80 : Jvm.Cond.fieldLink "Runweaver" (113 : Nat) "Runweaver$Loom" "sorted" "LRunweaver$Row;" ∈ mGw := mGw_of (tV_0_65 List.mem_cons_self) (by decide +kernel)
theorem mw_81 : Jvm.Cond.fieldLink "Runweaver$Loom" (18 : Nat) "Runweaver$Loom" "joined" "LRunweaver$Row;" ∈ mGw := mGw_of (tV_0_66 List.mem_cons_self) (by decide +kernel)
theorem mw_82 : Jvm.Cond.fieldLink "Runweaver" (135 : Nat) "Runweaver$Loom" "joined" "LRunweaver$Row;" ∈ mGw := mGw_of (tV_0_67 List.mem_cons_self) (by decide +kernel)
theorem mw_83 : Jvm.Cond.fieldLink "Runweaver$Loom" (21 : Nat) "Runweaver$Loom" "woven" "LRunweaver$Row;" ∈ mGw := mGw_of (tV_0_68 List.mem_cons_self) (by decide +kernel)
theorem mw_84 : Jvm.Cond.fieldLink "Runweaver" (86 : Nat) "Runweaver$Loom" "woven" "LRunweaver$Row;" ∈ mGw := mGw_of (tV_0_69 List.mem_cons_self) (by decide +kernel)
theorem mw_85 : Jvm.Cond.fieldLink "Runweaver$Loom" (24 : Nat) "Runweaver$Loom" "spare" "LRunweaver$Row;" ∈ mGw := mGw_of (tV_0_70 List.mem_cons_self) (by decide +kernel)
theorem mw_94 : Jvm.Cond.superclass "Runweaver$Loom" "java/lang/Object" ∈ mGw := mGw_of (tV_0_79 List.mem_cons_self) (by decide +kernel)
theorem mw_95 : Jvm.Cond.fieldLink "Runweaver" (11 : Nat) "Runweaver" "rows" "[LRunweaver$Row;" ∈ mGw := mGw_of (tV_0_80 List.mem_cons_self) (by decide +kernel)
theorem mw_96 : Jvm.Cond.fieldLink "Runweaver" (23 : Nat) "Runweaver" "loom" "LRunweaver$Loom;" ∈ mGw := mGw_of (tV_0_81 List.mem_cons_self) (by decide +kernel)
theorem mw_97 : Jvm.Cond.fieldLink "Runweaver" (229 : Nat) "Runweaver" "stampsGiven" "I" ∈ mGw := mGw_of (tV_0_82 List.mem_cons_self) (by decide +kernel)
theorem mw_98 : Jvm.Cond.fieldLink "Runweaver" (220 : Nat) "Runweaver" "acts" "I" ∈ mGw := mGw_of (tV_0_83 List.mem_cons_self) (by decide +kernel)
theorem mw_99 : Jvm.Cond.fieldLink "Runweaver" (223 : Nat) "Runweaver" "refusals" "I" ∈ mGw := mGw_of (tV_0_84 List.mem_cons_self) (by decide +kernel)
theorem mw_100 : Jvm.Cond.fieldLink "Runweaver" (226 : Nat) "Runweaver" "knocks" "I" ∈ mGw := mGw_of (tV_0_85 List.mem_cons_self) (by decide +kernel)
theorem mw_113 : Jvm.Cond.superclass "Runweaver" "java/lang/Object" ∈ mGw := mGw_of (tV_0_98 List.mem_cons_self) (by decide +kernel)
theorem mw_114 : Jvm.Cond.methodLink "RunweaverLaw" (45 : Nat) ({ cls := "Runweaver", name := "isSound", desc := "()Z" } : Jvm.MethodName) ∈ mGw := mGw_of (tV_0_99 List.mem_cons_self) (by decide +kernel)
theorem mw_115 : Jvm.Cond.instanceMethod ({ cls := "Runweaver", name := "isSound", desc := "()Z" } : Jvm.MethodName) ∈ mGw := mGw_of (tV_0_100 List.mem_cons_self) (by decide +kernel)
theorem mw_116 : Jvm.Cond.selects "Runweaver" ({ cls := "Runweaver", name := "isSound", desc := "()Z" } : Jvm.MethodName) ({ cls := "Runweaver", name := "isSound", desc := "()Z" } : Jvm.MethodName) ∈ mGw := mGw_of (tV_0_101 List.mem_cons_self) (by decide +kernel)
theorem mw_117 : Jvm.Cond.code ({ cls := "Runweaver", name := "isSound", desc := "()Z" } : Jvm.MethodName) prog_1_method_46_code (2 : Nat) (Option.some Jvm.ClassFile.FieldType.boolean) ∈ mGw := mGw_of (tV_0_102 List.mem_cons_self) (by decide +kernel)
theorem mw_118 : Jvm.Cond.methodLink "Runweaver" (242 : Nat) ({ cls := "Runweaver", name := "isRowSound", desc := "(LRunweaver$Row;)Z" } : Jvm.MethodName) ∈ mGw := mGw_of (tV_0_103 List.mem_cons_self) (by decide +kernel)
theorem mw_120 : Jvm.Cond.instanceMethod ({ cls := "Runweaver", name := "isRowSound", desc := "(LRunweaver$Row;)Z" } : Jvm.MethodName) ∈ mGw := mGw_of (tV_0_105 List.mem_cons_self) (by decide +kernel)
theorem mw_121 : Jvm.Cond.code ({ cls := "Runweaver", name := "isRowSound", desc := "(LRunweaver$Row;)Z" } : Jvm.MethodName) prog_1_method_65_code (4 : Nat) (Option.some Jvm.ClassFile.FieldType.boolean) ∈ mGw := mGw_of (tV_0_106 List.mem_cons_self) (by decide +kernel)
theorem mw_122 : Jvm.Cond.methodLink "Runweaver" (116 : Nat) ({ cls := "Runweaver$Loom", name := "sortUp", desc := "(LRunweaver$Row;LRunweaver$Row;)I" } : Jvm.MethodName) ∈ mGw := mGw_of (tV_0_107 List.mem_cons_self) (by decide +kernel)
theorem mw_123 : Jvm.Cond.instanceMethod ({ cls := "Runweaver$Loom", name := "sortUp", desc := "(LRunweaver$Row;LRunweaver$Row;)I" } : Jvm.MethodName) ∈ mGw := mGw_of (tV_0_108 List.mem_cons_self) (by decide +kernel)
theorem mw_124 : Jvm.Cond.selects "Runweaver$Loom" ({ cls := "Runweaver$Loom", name := "sortUp", desc := "(LRunweaver$Row;LRunweaver$Row;)I" } : Jvm.MethodName) ({ cls := "Runweaver$Loom", name := "sortUp", desc := "(LRunweaver$Row;LRunweaver$Row;)I" } : Jvm.MethodName) ∈ mGw := mGw_of (tV_0_109 List.mem_cons_self) (by decide +kernel)
theorem mw_125 : Jvm.Cond.code ({ cls := "Runweaver$Loom", name := "sortUp", desc := "(LRunweaver$Row;LRunweaver$Row;)I" } : Jvm.MethodName) prog_2_method_2_code (5 : Nat) (Option.some Jvm.ClassFile.FieldType.int) ∈ mGw := mGw_of (tV_0_110 List.mem_cons_self) (by decide +kernel)
theorem mw_126 : Jvm.Cond.methodLink "Runweaver$Loom" (27 : Nat) ({ cls := "Runweaver$Row", name := "become", desc := "(LRunweaver$Row;)V" } : Jvm.MethodName) ∈ mGw := mGw_of (tV_0_111 List.mem_cons_self) (by decide +kernel)
theorem mw_127 : Jvm.Cond.instanceMethod ({ cls := "Runweaver$Row", name := "become", desc := "(LRunweaver$Row;)V" } : Jvm.MethodName) ∈ mGw := mGw_of (tV_0_112 List.mem_cons_self) (by decide +kernel)
theorem mw_128 : Jvm.Cond.selects "Runweaver$Row" ({ cls := "Runweaver$Row", name := "become", desc := "(LRunweaver$Row;)V" } : Jvm.MethodName) ({ cls := "Runweaver$Row", name := "become", desc := "(LRunweaver$Row;)V" } : Jvm.MethodName) ∈ mGw := mGw_of (tV_0_113 List.mem_cons_self) (by decide +kernel)
theorem mw_129 : Jvm.Cond.code ({ cls := "Runweaver$Row", name := "become", desc := "(LRunweaver$Row;)V" } : Jvm.MethodName) prog_3_method_7_code (3 : Nat) (Option.none : Option Jvm.ClassFile.FieldType) ∈ mGw := mGw_of (tV_0_114 List.mem_cons_self) (by decide +kernel)
theorem mw_130 : Jvm.Cond.methodLink "Runweaver$Row" (30 : Nat) ({ cls := "java/lang/Math", name := "min", desc := "(II)I" } : Jvm.MethodName) ∈ mGw := mGw_of (tV_0_115 List.mem_cons_self) (by decide +kernel)
theorem mw_131 : Jvm.Cond.static ({ cls := "java/lang/Math", name := "min", desc := "(II)I" } : Jvm.MethodName) ∈ mGw := mGw_of (tV_0_116 List.mem_cons_self) (by decide +kernel)
theorem mw_132 : Jvm.Cond.code ({ cls := "java/lang/Math", name := "min", desc := "(II)I" } : Jvm.MethodName) prog_12_method_69_code (2 : Nat) (Option.some Jvm.ClassFile.FieldType.int) ∈ mGw := mGw_of (tV_0_117 List.mem_cons_self) (by decide +kernel)
theorem mw_133 : Jvm.Cond.methodLink "Runweaver$Row" (36 : Nat) ({ cls := "java/lang/System", name := "arraycopy", desc := "(Ljava/lang/Object;ILjava/lang/Object;II)V" } : Jvm.MethodName) ∈ mGw := mGw_of (tV_0_118 List.mem_cons_self) (by decide +kernel)
theorem mw_134 : Jvm.Cond.static ({ cls := "java/lang/System", name := "arraycopy", desc := "(Ljava/lang/Object;ILjava/lang/Object;II)V" } : Jvm.MethodName) ∈ mGw := mGw_of (tV_0_119 List.mem_cons_self) (by decide +kernel)
theorem mw_135 : Jvm.Cond.native ({ cls := "java/lang/System", name := "arraycopy", desc := "(Ljava/lang/Object;ILjava/lang/Object;II)V" } : Jvm.MethodName) ∈ mGw := mGw_of (tV_0_120 List.mem_cons_self) (by decide +kernel)
theorem mw_136 : Jvm.Cond.methodLink "Runweaver$Loom" (35 : Nat) ({ cls := "Runweaver$Loom", name := "mergeNeighbours", desc := "(LRunweaver$Row;I)I" } : Jvm.MethodName) ∈ mGw := mGw_of (tV_0_121 List.mem_cons_self) (by decide +kernel)
theorem mw_138 : Jvm.Cond.instanceMethod ({ cls := "Runweaver$Loom", name := "mergeNeighbours", desc := "(LRunweaver$Row;I)I" } : Jvm.MethodName) ∈ mGw := mGw_of (tV_0_123 List.mem_cons_self) (by decide +kernel)
theorem mw_139 : Jvm.Cond.code ({ cls := "Runweaver$Loom", name := "mergeNeighbours", desc := "(LRunweaver$Row;I)I" } : Jvm.MethodName) prog_2_method_4_code (7 : Nat) (Option.some Jvm.ClassFile.FieldType.int) ∈ mGw := mGw_of (tV_0_124 List.mem_cons_self) (by decide +kernel)
theorem mw_140 : Jvm.Cond.methodLink "Runweaver$Loom" (39 : Nat) ({ cls := "Runweaver$Row", name := "empty", desc := "()V" } : Jvm.MethodName) ∈ mGw := mGw_of (tV_0_125 List.mem_cons_self) (by decide +kernel)
theorem mw_141 : Jvm.Cond.instanceMethod ({ cls := "Runweaver$Row", name := "empty", desc := "()V" } : Jvm.MethodName) ∈ mGw := mGw_of (tV_0_126 List.mem_cons_self) (by decide +kernel)
theorem mw_142 : Jvm.Cond.selects "Runweaver$Row" ({ cls := "Runweaver$Row", name := "empty", desc := "()V" } : Jvm.MethodName) ({ cls := "Runweaver$Row", name := "empty", desc := "()V" } : Jvm.MethodName) ∈ mGw := mGw_of (tV_0_127 List.mem_cons_self) (by decide +kernel)
theorem mw_143 : Jvm.Cond.code ({ cls := "Runweaver$Row", name := "empty", desc := "()V" } : Jvm.MethodName) prog_3_method_4_code (1 : Nat) (Option.none : Option Jvm.ClassFile.FieldType) ∈ mGw := mGw_of (tV_0_128 List.mem_cons_self) (by decide +kernel)
theorem mw_144 : Jvm.Cond.methodLink "Runweaver$Loom" (46 : Nat) ({ cls := "java/lang/Math", name := "min", desc := "(II)I" } : Jvm.MethodName) ∈ mGw := mGw_of (tV_0_129 List.mem_cons_self) (by decide +kernel)
theorem mw_145 : Jvm.Cond.methodLink "Runweaver$Loom" (42 : Nat) ({ cls := "Runweaver$Loom", name := "mergeSpans", desc := "(LRunweaver$Row;IIILRunweaver$Row;)I" } : Jvm.MethodName) ∈ mGw := mGw_of (tV_0_130 List.mem_cons_self) (by decide +kernel)
theorem mw_146 : Jvm.Cond.static ({ cls := "Runweaver$Loom", name := "mergeSpans", desc := "(LRunweaver$Row;IIILRunweaver$Row;)I" } : Jvm.MethodName) ∈ mGw := mGw_of (tV_0_131 List.mem_cons_self) (by decide +kernel)
theorem mw_147 : Jvm.Cond.code ({ cls := "Runweaver$Loom", name := "mergeSpans", desc := "(LRunweaver$Row;IIILRunweaver$Row;)I" } : Jvm.MethodName) prog_2_method_5_code (8 : Nat) (Option.some Jvm.ClassFile.FieldType.int) ∈ mGw := mGw_of (tV_0_132 List.mem_cons_self) (by decide +kernel)
theorem mw_148 : Jvm.Cond.methodLink "Runweaver$Loom" (59 : Nat) ({ cls := "Runweaver$Row", name := "append", desc := "(II)V" } : Jvm.MethodName) ∈ mGw := mGw_of (tV_0_133 List.mem_cons_self) (by decide +kernel)
theorem mw_149 : Jvm.Cond.instanceMethod ({ cls := "Runweaver$Row", name := "append", desc := "(II)V" } : Jvm.MethodName) ∈ mGw := mGw_of (tV_0_134 List.mem_cons_self) (by decide +kernel)
theorem mw_150 : Jvm.Cond.selects "Runweaver$Row" ({ cls := "Runweaver$Row", name := "append", desc := "(II)V" } : Jvm.MethodName) ({ cls := "Runweaver$Row", name := "append", desc := "(II)V" } : Jvm.MethodName) ∈ mGw := mGw_of (tV_0_135 List.mem_cons_self) (by decide +kernel)
theorem mw_151 : Jvm.Cond.code ({ cls := "Runweaver$Row", name := "append", desc := "(II)V" } : Jvm.MethodName) prog_3_method_5_code (3 : Nat) (Option.none : Option Jvm.ClassFile.FieldType) ∈ mGw := mGw_of (tV_0_136 List.mem_cons_self) (by decide +kernel)
theorem mw_152 : Jvm.Cond.methodLink "Runweaver$Loom" (63 : Nat) ({ cls := "Runweaver$Row", name := "appendSpan", desc := "(LRunweaver$Row;II)V" } : Jvm.MethodName) ∈ mGw := mGw_of (tV_0_137 List.mem_cons_self) (by decide +kernel)
theorem mw_153 : Jvm.Cond.instanceMethod ({ cls := "Runweaver$Row", name := "appendSpan", desc := "(LRunweaver$Row;II)V" } : Jvm.MethodName) ∈ mGw := mGw_of (tV_0_138 List.mem_cons_self) (by decide +kernel)
theorem mw_154 : Jvm.Cond.selects "Runweaver$Row" ({ cls := "Runweaver$Row", name := "appendSpan", desc := "(LRunweaver$Row;II)V" } : Jvm.MethodName) ({ cls := "Runweaver$Row", name := "appendSpan", desc := "(LRunweaver$Row;II)V" } : Jvm.MethodName) ∈ mGw := mGw_of (tV_0_139 List.mem_cons_self) (by decide +kernel)
theorem mw_155 : Jvm.Cond.code ({ cls := "Runweaver$Row", name := "appendSpan", desc := "(LRunweaver$Row;II)V" } : Jvm.MethodName) prog_3_method_6_code (5 : Nat) (Option.none : Option Jvm.ClassFile.FieldType) ∈ mGw := mGw_of (tV_0_140 List.mem_cons_self) (by decide +kernel)
theorem mw_156 : Jvm.Cond.methodLink "Runweaver$Row" (26 : Nat) ({ cls := "Runweaver$Row", name := "append", desc := "(II)V" } : Jvm.MethodName) ∈ mGw := mGw_of (tV_0_141 List.mem_cons_self) (by decide +kernel)
theorem mw_157 : Jvm.Cond.methodLink "Runweaver" (175 : Nat) ({ cls := "Runweaver$Row", name := "wrongPairs", desc := "()I" } : Jvm.MethodName) ∈ mGw := mGw_of (tV_0_142 List.mem_cons_self) (by decide +kernel)
theorem mw_158 : Jvm.Cond.instanceMethod ({ cls := "Runweaver$Row", name := "wrongPairs", desc := "()I" } : Jvm.MethodName) ∈ mGw := mGw_of (tV_0_143 List.mem_cons_self) (by decide +kernel)
theorem mw_159 : Jvm.Cond.selects "Runweaver$Row" ({ cls := "Runweaver$Row", name := "wrongPairs", desc := "()I" } : Jvm.MethodName) ({ cls := "Runweaver$Row", name := "wrongPairs", desc := "()I" } : Jvm.MethodName) ∈ mGw := mGw_of (tV_0_144 List.mem_cons_self) (by decide +kernel)
theorem mw_160 : Jvm.Cond.code ({ cls := "Runweaver$Row", name := "wrongPairs", desc := "()I" } : Jvm.MethodName) prog_3_method_18_code (4 : Nat) (Option.some Jvm.ClassFile.FieldType.int) ∈ mGw := mGw_of (tV_0_145 List.mem_cons_self) (by decide +kernel)
theorem mw_161 : Jvm.Cond.methodLink "Runweaver" (131 : Nat) ({ cls := "Runweaver$Row", name := "isRising", desc := "()Z" } : Jvm.MethodName) ∈ mGw := mGw_of (tV_0_146 List.mem_cons_self) (by decide +kernel)
theorem mw_162 : Jvm.Cond.instanceMethod ({ cls := "Runweaver$Row", name := "isRising", desc := "()Z" } : Jvm.MethodName) ∈ mGw := mGw_of (tV_0_147 List.mem_cons_self) (by decide +kernel)
theorem mw_163 : Jvm.Cond.selects "Runweaver$Row" ({ cls := "Runweaver$Row", name := "isRising", desc := "()Z" } : Jvm.MethodName) ({ cls := "Runweaver$Row", name := "isRising", desc := "()Z" } : Jvm.MethodName) ∈ mGw := mGw_of (tV_0_148 List.mem_cons_self) (by decide +kernel)
theorem mw_164 : Jvm.Cond.code ({ cls := "Runweaver$Row", name := "isRising", desc := "()Z" } : Jvm.MethodName) prog_3_method_12_code (2 : Nat) (Option.some Jvm.ClassFile.FieldType.boolean) ∈ mGw := mGw_of (tV_0_149 List.mem_cons_self) (by decide +kernel)
theorem mw_165 : Jvm.Cond.methodLink "Runweaver" (178 : Nat) ({ cls := "Runweaver$Row", name := "rightPairs", desc := "()I" } : Jvm.MethodName) ∈ mGw := mGw_of (tV_0_150 List.mem_cons_self) (by decide +kernel)
theorem mw_166 : Jvm.Cond.instanceMethod ({ cls := "Runweaver$Row", name := "rightPairs", desc := "()I" } : Jvm.MethodName) ∈ mGw := mGw_of (tV_0_151 List.mem_cons_self) (by decide +kernel)
theorem mw_167 : Jvm.Cond.selects "Runweaver$Row" ({ cls := "Runweaver$Row", name := "rightPairs", desc := "()I" } : Jvm.MethodName) ({ cls := "Runweaver$Row", name := "rightPairs", desc := "()I" } : Jvm.MethodName) ∈ mGw := mGw_of (tV_0_152 List.mem_cons_self) (by decide +kernel)
theorem mw_168 : Jvm.Cond.code ({ cls := "Runweaver$Row", name := "rightPairs", desc := "()I" } : Jvm.MethodName) prog_3_method_19_code (4 : Nat) (Option.some Jvm.ClassFile.FieldType.int) ∈ mGw := mGw_of (tV_0_153 List.mem_cons_self) (by decide +kernel)
theorem mw_169 : Jvm.Cond.methodLink "Runweaver" (181 : Nat) ({ cls := "Runweaver$Row", name := "tiedPairsOfSorted", desc := "()I" } : Jvm.MethodName) ∈ mGw := mGw_of (tV_0_154 List.mem_cons_self) (by decide +kernel)
theorem mw_170 : Jvm.Cond.instanceMethod ({ cls := "Runweaver$Row", name := "tiedPairsOfSorted", desc := "()I" } : Jvm.MethodName) ∈ mGw := mGw_of (tV_0_155 List.mem_cons_self) (by decide +kernel)
theorem mw_171 : Jvm.Cond.selects "Runweaver$Row" ({ cls := "Runweaver$Row", name := "tiedPairsOfSorted", desc := "()I" } : Jvm.MethodName) ({ cls := "Runweaver$Row", name := "tiedPairsOfSorted", desc := "()I" } : Jvm.MethodName) ∈ mGw := mGw_of (tV_0_156 List.mem_cons_self) (by decide +kernel)
theorem mw_172 : Jvm.Cond.code ({ cls := "Runweaver$Row", name := "tiedPairsOfSorted", desc := "()I" } : Jvm.MethodName) prog_3_method_30_code (4 : Nat) (Option.some Jvm.ClassFile.FieldType.int) ∈ mGw := mGw_of (tV_0_157 List.mem_cons_self) (by decide +kernel)
theorem mw_173 : Jvm.Cond.methodLink "Runweaver" (308 : Nat) ({ cls := "Runweaver$Row", name := "standsByRanksIn", desc := "(LRunweaver$Row;)Z" } : Jvm.MethodName) ∈ mGw := mGw_of (tV_0_158 List.mem_cons_self) (by decide +kernel)
theorem mw_174 : Jvm.Cond.instanceMethod ({ cls := "Runweaver$Row", name := "standsByRanksIn", desc := "(LRunweaver$Row;)Z" } : Jvm.MethodName) ∈ mGw := mGw_of (tV_0_159 List.mem_cons_self) (by decide +kernel)
theorem mw_175 : Jvm.Cond.selects "Runweaver$Row" ({ cls := "Runweaver$Row", name := "standsByRanksIn", desc := "(LRunweaver$Row;)Z" } : Jvm.MethodName) ({ cls := "Runweaver$Row", name := "standsByRanksIn", desc := "(LRunweaver$Row;)Z" } : Jvm.MethodName) ∈ mGw := mGw_of (tV_0_160 List.mem_cons_self) (by decide +kernel)
theorem mw_176 : Jvm.Cond.code ({ cls := "Runweaver$Row", name := "standsByRanksIn", desc := "(LRunweaver$Row;)Z" } : Jvm.MethodName) prog_3_method_16_code (4 : Nat) (Option.some Jvm.ClassFile.FieldType.boolean) ∈ mGw := mGw_of (tV_0_161 List.mem_cons_self) (by decide +kernel)
theorem mw_177 : Jvm.Cond.methodLink "Runweaver$Row" (42 : Nat) ({ cls := "Runweaver$Row", name := "rankAt", desc := "(I)I" } : Jvm.MethodName) ∈ mGw := mGw_of (tV_0_162 List.mem_cons_self) (by decide +kernel)
theorem mw_178 : Jvm.Cond.instanceMethod ({ cls := "Runweaver$Row", name := "rankAt", desc := "(I)I" } : Jvm.MethodName) ∈ mGw := mGw_of (tV_0_163 List.mem_cons_self) (by decide +kernel)
theorem mw_179 : Jvm.Cond.selects "Runweaver$Row" ({ cls := "Runweaver$Row", name := "rankAt", desc := "(I)I" } : Jvm.MethodName) ({ cls := "Runweaver$Row", name := "rankAt", desc := "(I)I" } : Jvm.MethodName) ∈ mGw := mGw_of (tV_0_164 List.mem_cons_self) (by decide +kernel)
theorem mw_180 : Jvm.Cond.code ({ cls := "Runweaver$Row", name := "rankAt", desc := "(I)I" } : Jvm.MethodName) prog_3_method_15_code (5 : Nat) (Option.some Jvm.ClassFile.FieldType.int) ∈ mGw := mGw_of (tV_0_165 List.mem_cons_self) (by decide +kernel)
theorem mw_181 : Jvm.Cond.methodLink "Runweaver" (246 : Nat) ({ cls := "Runweaver", name := "isWeaveSound", desc := "(LRunweaver$Row;LRunweaver$Row;)Z" } : Jvm.MethodName) ∈ mGw := mGw_of (tV_0_166 List.mem_cons_self) (by decide +kernel)
theorem mw_183 : Jvm.Cond.instanceMethod ({ cls := "Runweaver", name := "isWeaveSound", desc := "(LRunweaver$Row;LRunweaver$Row;)Z" } : Jvm.MethodName) ∈ mGw := mGw_of (tV_0_168 List.mem_cons_self) (by decide +kernel)
theorem mw_184 : Jvm.Cond.code ({ cls := "Runweaver", name := "isWeaveSound", desc := "(LRunweaver$Row;LRunweaver$Row;)Z" } : Jvm.MethodName) prog_1_method_66_code (3 : Nat) (Option.some Jvm.ClassFile.FieldType.boolean) ∈ mGw := mGw_of (tV_0_169 List.mem_cons_self) (by decide +kernel)
theorem mw_185 : Jvm.Cond.methodLink "Runweaver" (61 : Nat) ({ cls := "Runweaver$Row", name := "free", desc := "()I" } : Jvm.MethodName) ∈ mGw := mGw_of (tV_0_170 List.mem_cons_self) (by decide +kernel)
theorem mw_186 : Jvm.Cond.instanceMethod ({ cls := "Runweaver$Row", name := "free", desc := "()I" } : Jvm.MethodName) ∈ mGw := mGw_of (tV_0_171 List.mem_cons_self) (by decide +kernel)
theorem mw_187 : Jvm.Cond.selects "Runweaver$Row" ({ cls := "Runweaver$Row", name := "free", desc := "()I" } : Jvm.MethodName) ({ cls := "Runweaver$Row", name := "free", desc := "()I" } : Jvm.MethodName) ∈ mGw := mGw_of (tV_0_172 List.mem_cons_self) (by decide +kernel)
theorem mw_188 : Jvm.Cond.code ({ cls := "Runweaver$Row", name := "free", desc := "()I" } : Jvm.MethodName) prog_3_method_3_code (1 : Nat) (Option.some Jvm.ClassFile.FieldType.int) ∈ mGw := mGw_of (tV_0_173 List.mem_cons_self) (by decide +kernel)
theorem mw_189 : Jvm.Cond.methodLink "Runweaver" (94 : Nat) ({ cls := "Runweaver$Row", name := "become", desc := "(LRunweaver$Row;)V" } : Jvm.MethodName) ∈ mGw := mGw_of (tV_0_174 List.mem_cons_self) (by decide +kernel)
theorem mw_190 : Jvm.Cond.methodLink "Runweaver" (90 : Nat) ({ cls := "Runweaver$Row", name := "appendSpan", desc := "(LRunweaver$Row;II)V" } : Jvm.MethodName) ∈ mGw := mGw_of (tV_0_175 List.mem_cons_self) (by decide +kernel)
theorem mw_191 : Jvm.Cond.methodLink "Runweaver" (138 : Nat) ({ cls := "Runweaver$Loom", name := "weaveJoined", desc := "(I)V" } : Jvm.MethodName) ∈ mGw := mGw_of (tV_0_176 List.mem_cons_self) (by decide +kernel)
theorem mw_192 : Jvm.Cond.instanceMethod ({ cls := "Runweaver$Loom", name := "weaveJoined", desc := "(I)V" } : Jvm.MethodName) ∈ mGw := mGw_of (tV_0_177 List.mem_cons_self) (by decide +kernel)
theorem mw_193 : Jvm.Cond.selects "Runweaver$Loom" ({ cls := "Runweaver$Loom", name := "weaveJoined", desc := "(I)V" } : Jvm.MethodName) ({ cls := "Runweaver$Loom", name := "weaveJoined", desc := "(I)V" } : Jvm.MethodName) ∈ mGw := mGw_of (tV_0_178 List.mem_cons_self) (by decide +kernel)
theorem mw_194 : Jvm.Cond.code ({ cls := "Runweaver$Loom", name := "weaveJoined", desc := "(I)V" } : Jvm.MethodName) prog_2_method_3_code (2 : Nat) (Option.none : Option Jvm.ClassFile.FieldType) ∈ mGw := mGw_of (tV_0_179 List.mem_cons_self) (by decide +kernel)
theorem mw_195 : Jvm.Cond.methodLink "Runweaver" (120 : Nat) ({ cls := "Runweaver$Row", name := "otherItems", desc := "(LRunweaver$Row;)I" } : Jvm.MethodName) ∈ mGw := mGw_of (tV_0_180 List.mem_cons_self) (by decide +kernel)
theorem mw_196 : Jvm.Cond.instanceMethod ({ cls := "Runweaver$Row", name := "otherItems", desc := "(LRunweaver$Row;)I" } : Jvm.MethodName) ∈ mGw := mGw_of (tV_0_181 List.mem_cons_self) (by decide +kernel)
theorem mw_197 : Jvm.Cond.selects "Runweaver$Row" ({ cls := "Runweaver$Row", name := "otherItems", desc := "(LRunweaver$Row;)I" } : Jvm.MethodName) ({ cls := "Runweaver$Row", name := "otherItems", desc := "(LRunweaver$Row;)I" } : Jvm.MethodName) ∈ mGw := mGw_of (tV_0_182 List.mem_cons_self) (by decide +kernel)
theorem mw_198 : Jvm.Cond.code ({ cls := "Runweaver$Row", name := "otherItems", desc := "(LRunweaver$Row;)I" } : Jvm.MethodName) prog_3_method_11_code (5 : Nat) (Option.some Jvm.ClassFile.FieldType.int) ∈ mGw := mGw_of (tV_0_183 List.mem_cons_self) (by decide +kernel)
theorem mw_199 : Jvm.Cond.methodLink "RunweaverLaw" (13 : Nat) ({ cls := "RunweaverLaw", name := "cell", desc := "([II)I" } : Jvm.MethodName) ∈ mGw := mGw_of (tV_0_184 List.mem_cons_self) (by decide +kernel)
theorem mw_200 : Jvm.Cond.static ({ cls := "RunweaverLaw", name := "cell", desc := "([II)I" } : Jvm.MethodName) ∈ mGw := mGw_of (tV_0_185 List.mem_cons_self) (by decide +kernel)
theorem mw_201 : Jvm.Cond.code ({ cls := "RunweaverLaw", name := "cell", desc := "([II)I" } : Jvm.MethodName) method_2_code (2 : Nat) (Option.some Jvm.ClassFile.FieldType.int) ∈ mGw := mGw_of (tV_0_186 List.mem_cons_self) (by decide +kernel)
theorem mw_202 : Jvm.Cond.constant "RunweaverLaw" (7 : Nat) (790386105 : Int32) ∈ mGw := mGw_of (tV_0_187 List.mem_cons_self) (by decide +kernel)
theorem mw_203 : Jvm.Cond.methodLink "RunweaverLaw" (20 : Nat) ({ cls := "RunweaverLaw", name := "pick", desc := "(III)I" } : Jvm.MethodName) ∈ mGw := mGw_of (tV_0_188 List.mem_cons_self) (by decide +kernel)
theorem mw_204 : Jvm.Cond.static ({ cls := "RunweaverLaw", name := "pick", desc := "(III)I" } : Jvm.MethodName) ∈ mGw := mGw_of (tV_0_189 List.mem_cons_self) (by decide +kernel)
theorem mw_205 : Jvm.Cond.code ({ cls := "RunweaverLaw", name := "pick", desc := "(III)I" } : Jvm.MethodName) method_3_code (3 : Nat) (Option.some Jvm.ClassFile.FieldType.int) ∈ mGw := mGw_of (tV_0_190 List.mem_cons_self) (by decide +kernel)
theorem mw_206 : Jvm.Cond.constant "RunweaverLaw" (8 : Nat) (1640531527 : Int32) ∈ mGw := mGw_of (tV_0_191 List.mem_cons_self) (by decide +kernel)
theorem mw_207 : Jvm.Cond.constant "RunweaverLaw" (9 : Nat) (625341585 : Int32) ∈ mGw := mGw_of (tV_0_192 List.mem_cons_self) (by decide +kernel)
theorem mw_208 : Jvm.Cond.methodLink "RunweaverLaw" (24 : Nat) ({ cls := "RunweaverLaw", name := "act", desc := "(LRunweaver;III)V" } : Jvm.MethodName) ∈ mGw := mGw_of (tV_0_193 List.mem_cons_self) (by decide +kernel)
theorem mw_209 : Jvm.Cond.static ({ cls := "RunweaverLaw", name := "act", desc := "(LRunweaver;III)V" } : Jvm.MethodName) ∈ mGw := mGw_of (tV_0_194 List.mem_cons_self) (by decide +kernel)
theorem mw_210 : Jvm.Cond.codeWith ({ cls := "RunweaverLaw", name := "act", desc := "(LRunweaver;III)V" } : Jvm.MethodName) method_6_code (9 : Nat) (Option.none : Option Jvm.ClassFile.FieldType) [((71 : Nat), (401 : Nat), (404 : Nat), (97 : Nat)), ((71 : Nat), (401 : Nat), (407 : Nat), (99 : Nat))] ∈ mGw := mGw_of (tV_0_195 List.mem_cons_self) (by decide +kernel)
theorem mw_211 : Jvm.Cond.classLink "RunweaverLaw" (97 : Nat) "java/lang/IndexOutOfBoundsException" ∈ mGw := mGw_of (tV_0_196 List.mem_cons_self) (by decide +kernel)
theorem mw_212 : Jvm.Cond.classLink "RunweaverLaw" (99 : Nat) "java/lang/IllegalArgumentException" ∈ mGw := mGw_of (tV_0_197 List.mem_cons_self) (by decide +kernel)
theorem mw_213 : Jvm.Cond.methodLink "RunweaverLaw" (49 : Nat) ({ cls := "Runweaver", name := "many", desc := "(I)I" } : Jvm.MethodName) ∈ mGw := mGw_of (tV_0_198 List.mem_cons_self) (by decide +kernel)
theorem mw_214 : Jvm.Cond.instanceMethod ({ cls := "Runweaver", name := "many", desc := "(I)I" } : Jvm.MethodName) ∈ mGw := mGw_of (tV_0_199 List.mem_cons_self) (by decide +kernel)
theorem mw_215 : Jvm.Cond.selects "Runweaver" ({ cls := "Runweaver", name := "many", desc := "(I)I" } : Jvm.MethodName) ({ cls := "Runweaver", name := "many", desc := "(I)I" } : Jvm.MethodName) ∈ mGw := mGw_of (tV_0_200 List.mem_cons_self) (by decide +kernel)
theorem mw_216 : Jvm.Cond.code ({ cls := "Runweaver", name := "many", desc := "(I)I" } : Jvm.MethodName) prog_1_method_16_code (2 : Nat) (Option.some Jvm.ClassFile.FieldType.int) ∈ mGw := mGw_of (tV_0_201 List.mem_cons_self) (by decide +kernel)
theorem mw_217 : Jvm.Cond.methodLink "Runweaver" (27 : Nat) ({ cls := "Runweaver", name := "rowOf", desc := "(I)LRunweaver$Row;" } : Jvm.MethodName) ∈ mGw := mGw_of (tV_0_202 List.mem_cons_self) (by decide +kernel)
theorem mw_219 : Jvm.Cond.instanceMethod ({ cls := "Runweaver", name := "rowOf", desc := "(I)LRunweaver$Row;" } : Jvm.MethodName) ∈ mGw := mGw_of (tV_0_204 List.mem_cons_self) (by decide +kernel)
theorem mw_220 : Jvm.Cond.code ({ cls := "Runweaver", name := "rowOf", desc := "(I)LRunweaver$Row;" } : Jvm.MethodName) prog_1_method_48_code (2 : Nat) (Option.some (Jvm.ClassFile.FieldType.object "Runweaver$Row")) ∈ mGw := mGw_of (tV_0_205 List.mem_cons_self) (by decide +kernel)
theorem mw_221 : Jvm.Cond.classLink "Runweaver" (285 : Nat) "java/lang/IndexOutOfBoundsException" ∈ mGw := mGw_of (tV_0_206 List.mem_cons_self) (by decide +kernel)
theorem mw_222 : Jvm.Cond.instantiable "java/lang/IndexOutOfBoundsException" (6 : Nat) ∈ mGw := mGw_of (tV_0_207 List.mem_cons_self) (by decide +kernel)
theorem mw_223 : Jvm.Cond.castable "java/lang/IndexOutOfBoundsException" "java/lang/IndexOutOfBoundsException" ∈ mNw := List.mem_filter.mpr ⟨tV_0_208 List.mem_cons_self, rfl⟩
theorem mw_230 : Jvm.Cond.selects "java/lang/IndexOutOfBoundsException" ({ cls := "java/lang/Throwable", name := "fillInStackTrace", desc := "(I)Ljava/lang/Throwable;" } : Jvm.MethodName) ({ cls := "java/lang/Throwable", name := "fillInStackTrace", desc := "(I)Ljava/lang/Throwable;" } : Jvm.MethodName) ∈ mGw := mGw_of (tV_0_215 List.mem_cons_self) (by decide +kernel)
theorem mw_231 : Jvm.Cond.selects "java/lang/IndexOutOfBoundsException" ({ cls := "java/lang/Throwable", name := "fillInStackTrace", desc := "()Ljava/lang/Throwable;" } : Jvm.MethodName) ({ cls := "java/lang/Throwable", name := "fillInStackTrace", desc := "()Ljava/lang/Throwable;" } : Jvm.MethodName) ∈ mGw := mGw_of (tV_0_216 List.mem_cons_self) (by decide +kernel)
theorem mw_242 : Jvm.Cond.fieldLink "java/lang/Throwable" (198 : Nat) "java/lang/Throwable" "backtrace" "Ljava/lang/Object;" ∈ mGw := mGw_of (tV_0_227 List.mem_cons_self) (by decide +kernel)
theorem mw_243 : Jvm.Cond.superclass "java/lang/Throwable" "java/lang/Object" ∈ mGw := mGw_of (tV_0_228 List.mem_cons_self) (by decide +kernel)
theorem mw_244 : Jvm.Cond.instanceMethod ({ cls := "java/lang/Throwable", name := "<init>", desc := "()V" } : Jvm.MethodName) ∈ mGw := mGw_of (tV_0_229 List.mem_cons_self) (by decide +kernel)
theorem mw_245 : Jvm.Cond.code ({ cls := "java/lang/Throwable", name := "<init>", desc := "()V" } : Jvm.MethodName) prog_19_method_1_code (1 : Nat) (Option.none : Option Jvm.ClassFile.FieldType) ∈ mGw := mGw_of (tV_0_230 List.mem_cons_self) (by decide +kernel)
theorem mw_246 : Jvm.Cond.methodLink "java/lang/Throwable" (1 : Nat) ({ cls := "java/lang/Object", name := "<init>", desc := "()V" } : Jvm.MethodName) ∈ mGw := mGw_of (tV_0_231 List.mem_cons_self) (by decide +kernel)
theorem mw_247 : Jvm.Cond.fieldLink "java/lang/Throwable" (13 : Nat) "java/lang/Throwable" "UNASSIGNED_STACK" "[Ljava/lang/StackTraceElement;" ∈ mGw := mGw_of (tV_0_232 List.mem_cons_self) (by decide +kernel)
theorem mw_249 : Jvm.Cond.fieldLink "java/lang/Throwable" (20 : Nat) "java/lang/Throwable" "SUPPRESSED_SENTINEL" "Ljava/util/List;" ∈ mGw := mGw_of (tV_0_234 List.mem_cons_self) (by decide +kernel)
theorem mw_251 : Jvm.Cond.methodLink "java/lang/Throwable" (27 : Nat) ({ cls := "java/lang/Throwable", name := "fillInStackTrace", desc := "()Ljava/lang/Throwable;" } : Jvm.MethodName) ∈ mGw := mGw_of (tV_0_236 List.mem_cons_self) (by decide +kernel)
theorem mw_252 : Jvm.Cond.instanceMethod ({ cls := "java/lang/Throwable", name := "fillInStackTrace", desc := "()Ljava/lang/Throwable;" } : Jvm.MethodName) ∈ mGw := mGw_of (tV_0_237 List.mem_cons_self) (by decide +kernel)
theorem mw_253 : Jvm.Cond.sameMethod "java/lang/Throwable" "java/lang/Throwable" "fillInStackTrace" "()Ljava/lang/Throwable;" ∈ mGw := mGw_of (tV_0_238 List.mem_cons_self) (by decide +kernel)
theorem mw_254 : Jvm.Cond.selects "java/lang/IllegalArgumentException" ({ cls := "java/lang/Throwable", name := "fillInStackTrace", desc := "()Ljava/lang/Throwable;" } : Jvm.MethodName) ({ cls := "java/lang/Throwable", name := "fillInStackTrace", desc := "()Ljava/lang/Throwable;" } : Jvm.MethodName) ∈ mGw := mGw_of (tV_0_239 List.mem_cons_self) (by decide +kernel)
theorem mw_256 : Jvm.Cond.methodLink "java/lang/Throwable" (202 : Nat) ({ cls := "java/lang/Throwable", name := "fillInStackTrace", desc := "(I)Ljava/lang/Throwable;" } : Jvm.MethodName) ∈ mGw := mGw_of (tV_1_241 List.mem_cons_self) (by decide +kernel)
theorem mw_258 : Jvm.Cond.instanceMethod ({ cls := "java/lang/Throwable", name := "fillInStackTrace", desc := "(I)Ljava/lang/Throwable;" } : Jvm.MethodName) ∈ mGw := mGw_of (tV_1_243 List.mem_cons_self) (by decide +kernel)
theorem mw_259 : Jvm.Cond.instantiable "java/lang/Throwable" (6 : Nat) ∈ mGw := mGw_of (tV_1_244 List.mem_cons_self) (by decide +kernel)
theorem mw_260 : Jvm.Cond.native ({ cls := "java/lang/Throwable", name := "fillInStackTrace", desc := "(I)Ljava/lang/Throwable;" } : Jvm.MethodName) ∈ mGw := mGw_of (tV_1_245 List.mem_cons_self) (by decide +kernel)
theorem mw_262 : Jvm.Cond.methodLink "Runweaver" (289 : Nat) ({ cls := "java/lang/IndexOutOfBoundsException", name := "<init>", desc := "(Ljava/lang/String;)V" } : Jvm.MethodName) ∈ mGw := mGw_of (tV_1_247 List.mem_cons_self) (by decide +kernel)
theorem mw_263 : Jvm.Cond.instanceMethod ({ cls := "java/lang/IndexOutOfBoundsException", name := "<init>", desc := "(Ljava/lang/String;)V" } : Jvm.MethodName) ∈ mGw := mGw_of (tV_1_248 List.mem_cons_self) (by decide +kernel)
theorem mw_264 : Jvm.Cond.code ({ cls := "java/lang/IndexOutOfBoundsException", name := "<init>", desc := "(Ljava/lang/String;)V" } : Jvm.MethodName) prog_10_method_2_code (2 : Nat) (Option.none : Option Jvm.ClassFile.FieldType) ∈ mGw := mGw_of (tV_1_249 List.mem_cons_self) (by decide +kernel)
theorem mw_265 : Jvm.Cond.methodLink "java/lang/IndexOutOfBoundsException" (7 : Nat) ({ cls := "java/lang/RuntimeException", name := "<init>", desc := "(Ljava/lang/String;)V" } : Jvm.MethodName) ∈ mGw := mGw_of (tV_1_250 List.mem_cons_self) (by decide +kernel)
theorem mw_266 : Jvm.Cond.instanceMethod ({ cls := "java/lang/RuntimeException", name := "<init>", desc := "(Ljava/lang/String;)V" } : Jvm.MethodName) ∈ mGw := mGw_of (tV_1_251 List.mem_cons_self) (by decide +kernel)
theorem mw_267 : Jvm.Cond.code ({ cls := "java/lang/RuntimeException", name := "<init>", desc := "(Ljava/lang/String;)V" } : Jvm.MethodName) prog_13_method_2_code (2 : Nat) (Option.none : Option Jvm.ClassFile.FieldType) ∈ mGw := mGw_of (tV_1_252 List.mem_cons_self) (by decide +kernel)
theorem mw_268 : Jvm.Cond.methodLink "java/lang/RuntimeException" (7 : Nat) ({ cls := "java/lang/Exception", name := "<init>", desc := "(Ljava/lang/String;)V" } : Jvm.MethodName) ∈ mGw := mGw_of (tV_1_253 List.mem_cons_self) (by decide +kernel)
theorem mw_269 : Jvm.Cond.instanceMethod ({ cls := "java/lang/Exception", name := "<init>", desc := "(Ljava/lang/String;)V" } : Jvm.MethodName) ∈ mGw := mGw_of (tV_1_254 List.mem_cons_self) (by decide +kernel)
theorem mw_270 : Jvm.Cond.code ({ cls := "java/lang/Exception", name := "<init>", desc := "(Ljava/lang/String;)V" } : Jvm.MethodName) prog_8_method_2_code (2 : Nat) (Option.none : Option Jvm.ClassFile.FieldType) ∈ mGw := mGw_of (tV_1_255 List.mem_cons_self) (by decide +kernel)
theorem mw_271 : Jvm.Cond.methodLink "java/lang/Exception" (7 : Nat) ({ cls := "java/lang/Throwable", name := "<init>", desc := "(Ljava/lang/String;)V" } : Jvm.MethodName) ∈ mGw := mGw_of (tV_1_256 List.mem_cons_self) (by decide +kernel)
theorem mw_272 : Jvm.Cond.instanceMethod ({ cls := "java/lang/Throwable", name := "<init>", desc := "(Ljava/lang/String;)V" } : Jvm.MethodName) ∈ mGw := mGw_of (tV_1_257 List.mem_cons_self) (by decide +kernel)
theorem mw_273 : Jvm.Cond.code ({ cls := "java/lang/Throwable", name := "<init>", desc := "(Ljava/lang/String;)V" } : Jvm.MethodName) prog_19_method_2_code (2 : Nat) (Option.none : Option Jvm.ClassFile.FieldType) ∈ mGw := mGw_of (tV_1_258 List.mem_cons_self) (by decide +kernel)
theorem mw_274 : Jvm.Cond.fieldLink "java/lang/Throwable" (198 : Nat) "java/lang/Throwable" "backtrace" "Ljava/lang/Object;" ∈ mGw := mGw_of (tV_1_259 List.mem_cons_self) (by decide +kernel)
theorem mw_275 : Jvm.Cond.fieldLink "java/lang/Throwable" (31 : Nat) "java/lang/Throwable" "detailMessage" "Ljava/lang/String;" ∈ mGw := mGw_of (tV_1_260 List.mem_cons_self) (by decide +kernel)
theorem mw_276 : Jvm.Cond.fieldLink "java/lang/Throwable" (7 : Nat) "java/lang/Throwable" "cause" "Ljava/lang/Throwable;" ∈ mGw := mGw_of (tV_1_261 List.mem_cons_self) (by decide +kernel)
theorem mw_277 : Jvm.Cond.fieldLink "java/lang/Throwable" (17 : Nat) "java/lang/Throwable" "stackTrace" "[Ljava/lang/StackTraceElement;" ∈ mGw := mGw_of (tV_1_262 List.mem_cons_self) (by decide +kernel)
theorem mw_278 : Jvm.Cond.fieldLink "java/lang/Throwable" (24 : Nat) "java/lang/Throwable" "suppressedExceptions" "Ljava/util/List;" ∈ mGw := mGw_of (tV_1_263 List.mem_cons_self) (by decide +kernel)
theorem mw_286 : Jvm.Cond.superclass "java/lang/IndexOutOfBoundsException" "java/lang/RuntimeException" ∈ mGw := mGw_of (tV_1_271 List.mem_cons_self) (by decide +kernel)
theorem mw_287 : Jvm.Cond.arrayClass Jvm.ClassFile.FieldType.byte ∈ mGw := mGw_of (tV_1_272 List.mem_cons_self) (by decide +kernel)
theorem mw_288 : Jvm.Cond.methodLink "RunweaverLaw" (53 : Nat) ({ cls := "Runweaver", name := "fill", desc := "(IIIII)I" } : Jvm.MethodName) ∈ mGw := mGw_of (tV_1_273 List.mem_cons_self) (by decide +kernel)
theorem mw_289 : Jvm.Cond.instanceMethod ({ cls := "Runweaver", name := "fill", desc := "(IIIII)I" } : Jvm.MethodName) ∈ mGw := mGw_of (tV_1_274 List.mem_cons_self) (by decide +kernel)
theorem mw_290 : Jvm.Cond.selects "Runweaver" ({ cls := "Runweaver", name := "fill", desc := "(IIIII)I" } : Jvm.MethodName) ({ cls := "Runweaver", name := "fill", desc := "(IIIII)I" } : Jvm.MethodName) ∈ mGw := mGw_of (tV_1_275 List.mem_cons_self) (by decide +kernel)
theorem mw_291 : Jvm.Cond.code ({ cls := "Runweaver", name := "fill", desc := "(IIIII)I" } : Jvm.MethodName) prog_1_method_2_code (8 : Nat) (Option.some Jvm.ClassFile.FieldType.int) ∈ mGw := mGw_of (tV_1_276 List.mem_cons_self) (by decide +kernel)
theorem mw_292 : Jvm.Cond.methodLink "Runweaver" (31 : Nat) ({ cls := "Runweaver$Row", name := "room", desc := "()I" } : Jvm.MethodName) ∈ mGw := mGw_of (tV_1_277 List.mem_cons_self) (by decide +kernel)
theorem mw_293 : Jvm.Cond.instanceMethod ({ cls := "Runweaver$Row", name := "room", desc := "()I" } : Jvm.MethodName) ∈ mGw := mGw_of (tV_1_278 List.mem_cons_self) (by decide +kernel)
theorem mw_294 : Jvm.Cond.selects "Runweaver$Row" ({ cls := "Runweaver$Row", name := "room", desc := "()I" } : Jvm.MethodName) ({ cls := "Runweaver$Row", name := "room", desc := "()I" } : Jvm.MethodName) ∈ mGw := mGw_of (tV_1_279 List.mem_cons_self) (by decide +kernel)
theorem mw_295 : Jvm.Cond.code ({ cls := "Runweaver$Row", name := "room", desc := "()I" } : Jvm.MethodName) prog_3_method_2_code (1 : Nat) (Option.some Jvm.ClassFile.FieldType.int) ∈ mGw := mGw_of (tV_1_280 List.mem_cons_self) (by decide +kernel)
theorem mw_296 : Jvm.Cond.methodLink "Runweaver" (35 : Nat) ({ cls := "Runweaver", name := "demand", desc := "(Z)V" } : Jvm.MethodName) ∈ mGw := mGw_of (tV_1_281 List.mem_cons_self) (by decide +kernel)
theorem mw_297 : Jvm.Cond.static ({ cls := "Runweaver", name := "demand", desc := "(Z)V" } : Jvm.MethodName) ∈ mGw := mGw_of (tV_1_282 List.mem_cons_self) (by decide +kernel)
theorem mw_298 : Jvm.Cond.code ({ cls := "Runweaver", name := "demand", desc := "(Z)V" } : Jvm.MethodName) prog_1_method_49_code (1 : Nat) (Option.none : Option Jvm.ClassFile.FieldType) ∈ mGw := mGw_of (tV_1_283 List.mem_cons_self) (by decide +kernel)
theorem mw_299 : Jvm.Cond.classLink "Runweaver" (235 : Nat) "java/lang/IllegalArgumentException" ∈ mGw := mGw_of (tV_1_284 List.mem_cons_self) (by decide +kernel)
theorem mw_300 : Jvm.Cond.instantiable "java/lang/IllegalArgumentException" (6 : Nat) ∈ mGw := mGw_of (tV_1_285 List.mem_cons_self) (by decide +kernel)
theorem mw_301 : Jvm.Cond.castable "java/lang/IllegalArgumentException" "java/lang/IllegalArgumentException" ∈ mNw := List.mem_filter.mpr ⟨tV_1_286 List.mem_cons_self, rfl⟩
theorem mw_302 : Jvm.Cond.selects "java/lang/IllegalArgumentException" ({ cls := "java/lang/Throwable", name := "fillInStackTrace", desc := "(I)Ljava/lang/Throwable;" } : Jvm.MethodName) ({ cls := "java/lang/Throwable", name := "fillInStackTrace", desc := "(I)Ljava/lang/Throwable;" } : Jvm.MethodName) ∈ mGw := mGw_of (tV_1_287 List.mem_cons_self) (by decide +kernel)
theorem mw_309 : Jvm.Cond.methodLink "Runweaver" (239 : Nat) ({ cls := "java/lang/IllegalArgumentException", name := "<init>", desc := "(Ljava/lang/String;)V" } : Jvm.MethodName) ∈ mGw := mGw_of (tV_1_294 List.mem_cons_self) (by decide +kernel)
theorem mw_310 : Jvm.Cond.instanceMethod ({ cls := "java/lang/IllegalArgumentException", name := "<init>", desc := "(Ljava/lang/String;)V" } : Jvm.MethodName) ∈ mGw := mGw_of (tV_1_295 List.mem_cons_self) (by decide +kernel)
theorem mw_311 : Jvm.Cond.code ({ cls := "java/lang/IllegalArgumentException", name := "<init>", desc := "(Ljava/lang/String;)V" } : Jvm.MethodName) prog_9_method_2_code (2 : Nat) (Option.none : Option Jvm.ClassFile.FieldType) ∈ mGw := mGw_of (tV_1_296 List.mem_cons_self) (by decide +kernel)
theorem mw_312 : Jvm.Cond.methodLink "java/lang/IllegalArgumentException" (7 : Nat) ({ cls := "java/lang/RuntimeException", name := "<init>", desc := "(Ljava/lang/String;)V" } : Jvm.MethodName) ∈ mGw := mGw_of (tV_1_297 List.mem_cons_self) (by decide +kernel)
theorem mw_314 : Jvm.Cond.superclass "java/lang/IllegalArgumentException" "java/lang/RuntimeException" ∈ mGw := mGw_of (tV_1_299 List.mem_cons_self) (by decide +kernel)
theorem mw_315 : Jvm.Cond.methodLink "Runweaver" (43 : Nat) ({ cls := "Runweaver$Row", name := "empty", desc := "()V" } : Jvm.MethodName) ∈ mGw := mGw_of (tV_1_300 List.mem_cons_self) (by decide +kernel)
theorem mw_316 : Jvm.Cond.methodLink "Runweaver" (46 : Nat) ({ cls := "Runweaver", name := "appendDrawn", desc := "(LRunweaver$Row;III)V" } : Jvm.MethodName) ∈ mGw := mGw_of (tV_1_301 List.mem_cons_self) (by decide +kernel)
theorem mw_318 : Jvm.Cond.instanceMethod ({ cls := "Runweaver", name := "appendDrawn", desc := "(LRunweaver$Row;III)V" } : Jvm.MethodName) ∈ mGw := mGw_of (tV_1_303 List.mem_cons_self) (by decide +kernel)
theorem mw_319 : Jvm.Cond.code ({ cls := "Runweaver", name := "appendDrawn", desc := "(LRunweaver$Row;III)V" } : Jvm.MethodName) prog_1_method_59_code (7 : Nat) (Option.none : Option Jvm.ClassFile.FieldType) ∈ mGw := mGw_of (tV_1_304 List.mem_cons_self) (by decide +kernel)
theorem mw_320 : Jvm.Cond.constant "Runweaver" (303 : Nat) (65536 : Int32) ∈ mGw := mGw_of (tV_1_305 List.mem_cons_self) (by decide +kernel)
theorem mw_321 : Jvm.Cond.methodLink "Runweaver" (67 : Nat) ({ cls := "Runweaver", name := "stampOfNew", desc := "(LRunweaver$Row;)I" } : Jvm.MethodName) ∈ mGw := mGw_of (tV_1_306 List.mem_cons_self) (by decide +kernel)
theorem mw_323 : Jvm.Cond.instanceMethod ({ cls := "Runweaver", name := "stampOfNew", desc := "(LRunweaver$Row;)I" } : Jvm.MethodName) ∈ mGw := mGw_of (tV_1_308 List.mem_cons_self) (by decide +kernel)
theorem mw_324 : Jvm.Cond.code ({ cls := "Runweaver", name := "stampOfNew", desc := "(LRunweaver$Row;)I" } : Jvm.MethodName) prog_1_method_57_code (2 : Nat) (Option.some Jvm.ClassFile.FieldType.int) ∈ mGw := mGw_of (tV_1_309 List.mem_cons_self) (by decide +kernel)
theorem mw_325 : Jvm.Cond.methodLink "Runweaver" (296 : Nat) ({ cls := "Runweaver", name := "nextStamp", desc := "()I" } : Jvm.MethodName) ∈ mGw := mGw_of (tV_1_310 List.mem_cons_self) (by decide +kernel)
theorem mw_327 : Jvm.Cond.instanceMethod ({ cls := "Runweaver", name := "nextStamp", desc := "()I" } : Jvm.MethodName) ∈ mGw := mGw_of (tV_1_312 List.mem_cons_self) (by decide +kernel)
theorem mw_328 : Jvm.Cond.code ({ cls := "Runweaver", name := "nextStamp", desc := "()I" } : Jvm.MethodName) prog_1_method_56_code (2 : Nat) (Option.some Jvm.ClassFile.FieldType.int) ∈ mGw := mGw_of (tV_1_313 List.mem_cons_self) (by decide +kernel)
theorem mw_329 : Jvm.Cond.methodLink "Runweaver" (71 : Nat) ({ cls := "Runweaver$Row", name := "append", desc := "(II)V" } : Jvm.MethodName) ∈ mGw := mGw_of (tV_1_314 List.mem_cons_self) (by decide +kernel)
theorem mw_330 : Jvm.Cond.methodLink "Runweaver" (50 : Nat) ({ cls := "Runweaver", name := "appendPattern", desc := "(LRunweaver$Row;IIII)V" } : Jvm.MethodName) ∈ mGw := mGw_of (tV_1_315 List.mem_cons_self) (by decide +kernel)
theorem mw_332 : Jvm.Cond.instanceMethod ({ cls := "Runweaver", name := "appendPattern", desc := "(LRunweaver$Row;IIII)V" } : Jvm.MethodName) ∈ mGw := mGw_of (tV_1_317 List.mem_cons_self) (by decide +kernel)
theorem mw_333 : Jvm.Cond.code ({ cls := "Runweaver", name := "appendPattern", desc := "(LRunweaver$Row;IIII)V" } : Jvm.MethodName) prog_1_method_58_code (7 : Nat) (Option.none : Option Jvm.ClassFile.FieldType) ∈ mGw := mGw_of (tV_1_318 List.mem_cons_self) (by decide +kernel)
theorem mw_334 : Jvm.Cond.methodLink "Runweaver" (299 : Nat) ({ cls := "Runweaver", name := "patternKey", desc := "(IIIII)I" } : Jvm.MethodName) ∈ mGw := mGw_of (tV_1_319 List.mem_cons_self) (by decide +kernel)
theorem mw_335 : Jvm.Cond.static ({ cls := "Runweaver", name := "patternKey", desc := "(IIIII)I" } : Jvm.MethodName) ∈ mGw := mGw_of (tV_1_320 List.mem_cons_self) (by decide +kernel)
theorem mw_336 : Jvm.Cond.code ({ cls := "Runweaver", name := "patternKey", desc := "(IIIII)I" } : Jvm.MethodName) prog_1_method_60_code (5 : Nat) (Option.some Jvm.ClassFile.FieldType.int) ∈ mGw := mGw_of (tV_1_321 List.mem_cons_self) (by decide +kernel)
theorem mw_337 : Jvm.Cond.methodLink "Runweaver" (150 : Nat) ({ cls := "java/lang/Math", name := "min", desc := "(II)I" } : Jvm.MethodName) ∈ mGw := mGw_of (tV_1_322 List.mem_cons_self) (by decide +kernel)
theorem mw_338 : Jvm.Cond.methodLink "Runweaver" (54 : Nat) ({ cls := "Runweaver", name := "done", desc := "(I)I" } : Jvm.MethodName) ∈ mGw := mGw_of (tV_1_323 List.mem_cons_self) (by decide +kernel)
theorem mw_340 : Jvm.Cond.instanceMethod ({ cls := "Runweaver", name := "done", desc := "(I)I" } : Jvm.MethodName) ∈ mGw := mGw_of (tV_1_325 List.mem_cons_self) (by decide +kernel)
theorem mw_341 : Jvm.Cond.code ({ cls := "Runweaver", name := "done", desc := "(I)I" } : Jvm.MethodName) prog_1_method_54_code (2 : Nat) (Option.some Jvm.ClassFile.FieldType.int) ∈ mGw := mGw_of (tV_1_326 List.mem_cons_self) (by decide +kernel)
theorem mw_342 : Jvm.Cond.methodLink "RunweaverLaw" (57 : Nat) ({ cls := "Runweaver", name := "add", desc := "(II)I" } : Jvm.MethodName) ∈ mGw := mGw_of (tV_1_327 List.mem_cons_self) (by decide +kernel)
theorem mw_343 : Jvm.Cond.instanceMethod ({ cls := "Runweaver", name := "add", desc := "(II)I" } : Jvm.MethodName) ∈ mGw := mGw_of (tV_1_328 List.mem_cons_self) (by decide +kernel)
theorem mw_344 : Jvm.Cond.selects "Runweaver" ({ cls := "Runweaver", name := "add", desc := "(II)I" } : Jvm.MethodName) ({ cls := "Runweaver", name := "add", desc := "(II)I" } : Jvm.MethodName) ∈ mGw := mGw_of (tV_1_329 List.mem_cons_self) (by decide +kernel)
theorem mw_345 : Jvm.Cond.code ({ cls := "Runweaver", name := "add", desc := "(II)I" } : Jvm.MethodName) prog_1_method_3_code (4 : Nat) (Option.some Jvm.ClassFile.FieldType.int) ∈ mGw := mGw_of (tV_1_330 List.mem_cons_self) (by decide +kernel)
theorem mw_346 : Jvm.Cond.methodLink "Runweaver" (58 : Nat) ({ cls := "Runweaver", name := "demandKey", desc := "(I)V" } : Jvm.MethodName) ∈ mGw := mGw_of (tV_1_331 List.mem_cons_self) (by decide +kernel)
theorem mw_347 : Jvm.Cond.static ({ cls := "Runweaver", name := "demandKey", desc := "(I)V" } : Jvm.MethodName) ∈ mGw := mGw_of (tV_1_332 List.mem_cons_self) (by decide +kernel)
theorem mw_348 : Jvm.Cond.code ({ cls := "Runweaver", name := "demandKey", desc := "(I)V" } : Jvm.MethodName) prog_1_method_50_code (1 : Nat) (Option.none : Option Jvm.ClassFile.FieldType) ∈ mGw := mGw_of (tV_1_333 List.mem_cons_self) (by decide +kernel)
theorem mw_349 : Jvm.Cond.constant "Runweaver" (292 : Nat) (-99999 : Int32) ∈ mGw := mGw_of (tV_1_334 List.mem_cons_self) (by decide +kernel)
theorem mw_350 : Jvm.Cond.constant "Runweaver" (293 : Nat) (99999 : Int32) ∈ mGw := mGw_of (tV_1_335 List.mem_cons_self) (by decide +kernel)
theorem mw_351 : Jvm.Cond.methodLink "Runweaver" (64 : Nat) ({ cls := "Runweaver", name := "refused", desc := "()I" } : Jvm.MethodName) ∈ mGw := mGw_of (tV_1_336 List.mem_cons_self) (by decide +kernel)
theorem mw_353 : Jvm.Cond.instanceMethod ({ cls := "Runweaver", name := "refused", desc := "()I" } : Jvm.MethodName) ∈ mGw := mGw_of (tV_1_338 List.mem_cons_self) (by decide +kernel)
theorem mw_354 : Jvm.Cond.code ({ cls := "Runweaver", name := "refused", desc := "()I" } : Jvm.MethodName) prog_1_method_55_code (1 : Nat) (Option.some Jvm.ClassFile.FieldType.int) ∈ mGw := mGw_of (tV_1_339 List.mem_cons_self) (by decide +kernel)
theorem mw_355 : Jvm.Cond.methodLink "RunweaverLaw" (61 : Nat) ({ cls := "Runweaver", name := "put", desc := "(III)I" } : Jvm.MethodName) ∈ mGw := mGw_of (tV_1_340 List.mem_cons_self) (by decide +kernel)
theorem mw_356 : Jvm.Cond.instanceMethod ({ cls := "Runweaver", name := "put", desc := "(III)I" } : Jvm.MethodName) ∈ mGw := mGw_of (tV_1_341 List.mem_cons_self) (by decide +kernel)
theorem mw_357 : Jvm.Cond.selects "Runweaver" ({ cls := "Runweaver", name := "put", desc := "(III)I" } : Jvm.MethodName) ({ cls := "Runweaver", name := "put", desc := "(III)I" } : Jvm.MethodName) ∈ mGw := mGw_of (tV_1_342 List.mem_cons_self) (by decide +kernel)
theorem mw_358 : Jvm.Cond.code ({ cls := "Runweaver", name := "put", desc := "(III)I" } : Jvm.MethodName) prog_1_method_4_code (6 : Nat) (Option.some Jvm.ClassFile.FieldType.int) ∈ mGw := mGw_of (tV_1_343 List.mem_cons_self) (by decide +kernel)
theorem mw_359 : Jvm.Cond.methodLink "Runweaver" (75 : Nat) ({ cls := "Runweaver", name := "demandPlace", desc := "(LRunweaver$Row;I)V" } : Jvm.MethodName) ∈ mGw := mGw_of (tV_1_344 List.mem_cons_self) (by decide +kernel)
theorem mw_360 : Jvm.Cond.static ({ cls := "Runweaver", name := "demandPlace", desc := "(LRunweaver$Row;I)V" } : Jvm.MethodName) ∈ mGw := mGw_of (tV_1_345 List.mem_cons_self) (by decide +kernel)
theorem mw_361 : Jvm.Cond.code ({ cls := "Runweaver", name := "demandPlace", desc := "(LRunweaver$Row;I)V" } : Jvm.MethodName) prog_1_method_52_code (2 : Nat) (Option.none : Option Jvm.ClassFile.FieldType) ∈ mGw := mGw_of (tV_1_346 List.mem_cons_self) (by decide +kernel)
theorem mw_362 : Jvm.Cond.methodLink "Runweaver" (110 : Nat) ({ cls := "Runweaver", name := "demandWithin", desc := "(Z)V" } : Jvm.MethodName) ∈ mGw := mGw_of (tV_1_347 List.mem_cons_self) (by decide +kernel)
theorem mw_363 : Jvm.Cond.static ({ cls := "Runweaver", name := "demandWithin", desc := "(Z)V" } : Jvm.MethodName) ∈ mGw := mGw_of (tV_1_348 List.mem_cons_self) (by decide +kernel)
theorem mw_364 : Jvm.Cond.code ({ cls := "Runweaver", name := "demandWithin", desc := "(Z)V" } : Jvm.MethodName) prog_1_method_51_code (1 : Nat) (Option.none : Option Jvm.ClassFile.FieldType) ∈ mGw := mGw_of (tV_1_349 List.mem_cons_self) (by decide +kernel)
theorem mw_366 : Jvm.Cond.methodLink "RunweaverLaw" (64 : Nat) ({ cls := "Runweaver", name := "drop", desc := "(II)I" } : Jvm.MethodName) ∈ mGw := mGw_of (tV_1_351 List.mem_cons_self) (by decide +kernel)
theorem mw_367 : Jvm.Cond.instanceMethod ({ cls := "Runweaver", name := "drop", desc := "(II)I" } : Jvm.MethodName) ∈ mGw := mGw_of (tV_1_352 List.mem_cons_self) (by decide +kernel)
theorem mw_368 : Jvm.Cond.selects "Runweaver" ({ cls := "Runweaver", name := "drop", desc := "(II)I" } : Jvm.MethodName) ({ cls := "Runweaver", name := "drop", desc := "(II)I" } : Jvm.MethodName) ∈ mGw := mGw_of (tV_1_353 List.mem_cons_self) (by decide +kernel)
theorem mw_369 : Jvm.Cond.code ({ cls := "Runweaver", name := "drop", desc := "(II)I" } : Jvm.MethodName) prog_1_method_5_code (6 : Nat) (Option.some Jvm.ClassFile.FieldType.int) ∈ mGw := mGw_of (tV_1_354 List.mem_cons_self) (by decide +kernel)
theorem mw_370 : Jvm.Cond.methodLink "RunweaverLaw" (67 : Nat) ({ cls := "Runweaver", name := "exchange", desc := "(II)I" } : Jvm.MethodName) ∈ mGw := mGw_of (tV_1_355 List.mem_cons_self) (by decide +kernel)
theorem mw_371 : Jvm.Cond.instanceMethod ({ cls := "Runweaver", name := "exchange", desc := "(II)I" } : Jvm.MethodName) ∈ mGw := mGw_of (tV_1_356 List.mem_cons_self) (by decide +kernel)
theorem mw_372 : Jvm.Cond.selects "Runweaver" ({ cls := "Runweaver", name := "exchange", desc := "(II)I" } : Jvm.MethodName) ({ cls := "Runweaver", name := "exchange", desc := "(II)I" } : Jvm.MethodName) ∈ mGw := mGw_of (tV_1_357 List.mem_cons_self) (by decide +kernel)
theorem mw_373 : Jvm.Cond.code ({ cls := "Runweaver", name := "exchange", desc := "(II)I" } : Jvm.MethodName) prog_1_method_7_code (5 : Nat) (Option.some Jvm.ClassFile.FieldType.int) ∈ mGw := mGw_of (tV_1_358 List.mem_cons_self) (by decide +kernel)
theorem mw_374 : Jvm.Cond.methodLink "Runweaver" (98 : Nat) ({ cls := "Runweaver", name := "demandPlaceWithNext", desc := "(LRunweaver$Row;I)V" } : Jvm.MethodName) ∈ mGw := mGw_of (tV_1_359 List.mem_cons_self) (by decide +kernel)
theorem mw_375 : Jvm.Cond.static ({ cls := "Runweaver", name := "demandPlaceWithNext", desc := "(LRunweaver$Row;I)V" } : Jvm.MethodName) ∈ mGw := mGw_of (tV_1_360 List.mem_cons_self) (by decide +kernel)
theorem mw_376 : Jvm.Cond.code ({ cls := "Runweaver", name := "demandPlaceWithNext", desc := "(LRunweaver$Row;I)V" } : Jvm.MethodName) prog_1_method_53_code (2 : Nat) (Option.none : Option Jvm.ClassFile.FieldType) ∈ mGw := mGw_of (tV_1_361 List.mem_cons_self) (by decide +kernel)
theorem mw_377 : Jvm.Cond.methodLink "Runweaver" (101 : Nat) ({ cls := "Runweaver$Row", name := "wrongerByExchange", desc := "(I)I" } : Jvm.MethodName) ∈ mGw := mGw_of (tV_1_362 List.mem_cons_self) (by decide +kernel)
theorem mw_378 : Jvm.Cond.instanceMethod ({ cls := "Runweaver$Row", name := "wrongerByExchange", desc := "(I)I" } : Jvm.MethodName) ∈ mGw := mGw_of (tV_1_363 List.mem_cons_self) (by decide +kernel)
theorem mw_379 : Jvm.Cond.selects "Runweaver$Row" ({ cls := "Runweaver$Row", name := "wrongerByExchange", desc := "(I)I" } : Jvm.MethodName) ({ cls := "Runweaver$Row", name := "wrongerByExchange", desc := "(I)I" } : Jvm.MethodName) ∈ mGw := mGw_of (tV_1_364 List.mem_cons_self) (by decide +kernel)
theorem mw_380 : Jvm.Cond.code ({ cls := "Runweaver$Row", name := "wrongerByExchange", desc := "(I)I" } : Jvm.MethodName) prog_3_method_9_code (2 : Nat) (Option.some Jvm.ClassFile.FieldType.int) ∈ mGw := mGw_of (tV_1_365 List.mem_cons_self) (by decide +kernel)
theorem mw_381 : Jvm.Cond.methodLink "Runweaver" (104 : Nat) ({ cls := "Runweaver$Row", name := "trade", desc := "(II)V" } : Jvm.MethodName) ∈ mGw := mGw_of (tV_1_366 List.mem_cons_self) (by decide +kernel)
theorem mw_382 : Jvm.Cond.instanceMethod ({ cls := "Runweaver$Row", name := "trade", desc := "(II)V" } : Jvm.MethodName) ∈ mGw := mGw_of (tV_1_367 List.mem_cons_self) (by decide +kernel)
theorem mw_383 : Jvm.Cond.selects "Runweaver$Row" ({ cls := "Runweaver$Row", name := "trade", desc := "(II)V" } : Jvm.MethodName) ({ cls := "Runweaver$Row", name := "trade", desc := "(II)V" } : Jvm.MethodName) ∈ mGw := mGw_of (tV_1_368 List.mem_cons_self) (by decide +kernel)
theorem mw_384 : Jvm.Cond.code ({ cls := "Runweaver$Row", name := "trade", desc := "(II)V" } : Jvm.MethodName) prog_3_method_8_code (5 : Nat) (Option.none : Option Jvm.ClassFile.FieldType) ∈ mGw := mGw_of (tV_1_369 List.mem_cons_self) (by decide +kernel)
theorem mw_385 : Jvm.Cond.methodLink "RunweaverLaw" (70 : Nat) ({ cls := "Runweaver", name := "swap", desc := "(III)I" } : Jvm.MethodName) ∈ mGw := mGw_of (tV_1_370 List.mem_cons_self) (by decide +kernel)
theorem mw_386 : Jvm.Cond.instanceMethod ({ cls := "Runweaver", name := "swap", desc := "(III)I" } : Jvm.MethodName) ∈ mGw := mGw_of (tV_1_371 List.mem_cons_self) (by decide +kernel)
theorem mw_387 : Jvm.Cond.selects "Runweaver" ({ cls := "Runweaver", name := "swap", desc := "(III)I" } : Jvm.MethodName) ({ cls := "Runweaver", name := "swap", desc := "(III)I" } : Jvm.MethodName) ∈ mGw := mGw_of (tV_1_372 List.mem_cons_self) (by decide +kernel)
theorem mw_388 : Jvm.Cond.code ({ cls := "Runweaver", name := "swap", desc := "(III)I" } : Jvm.MethodName) prog_1_method_8_code (6 : Nat) (Option.some Jvm.ClassFile.FieldType.int) ∈ mGw := mGw_of (tV_1_373 List.mem_cons_self) (by decide +kernel)
theorem mw_389 : Jvm.Cond.methodLink "RunweaverLaw" (73 : Nat) ({ cls := "Runweaver", name := "turn", desc := "(I)I" } : Jvm.MethodName) ∈ mGw := mGw_of (tV_1_374 List.mem_cons_self) (by decide +kernel)
theorem mw_390 : Jvm.Cond.instanceMethod ({ cls := "Runweaver", name := "turn", desc := "(I)I" } : Jvm.MethodName) ∈ mGw := mGw_of (tV_1_375 List.mem_cons_self) (by decide +kernel)
theorem mw_391 : Jvm.Cond.selects "Runweaver" ({ cls := "Runweaver", name := "turn", desc := "(I)I" } : Jvm.MethodName) ({ cls := "Runweaver", name := "turn", desc := "(I)I" } : Jvm.MethodName) ∈ mGw := mGw_of (tV_1_376 List.mem_cons_self) (by decide +kernel)
theorem mw_392 : Jvm.Cond.code ({ cls := "Runweaver", name := "turn", desc := "(I)I" } : Jvm.MethodName) prog_1_method_9_code (5 : Nat) (Option.some Jvm.ClassFile.FieldType.int) ∈ mGw := mGw_of (tV_1_377 List.mem_cons_self) (by decide +kernel)
theorem mw_393 : Jvm.Cond.methodLink "Runweaver" (107 : Nat) ({ cls := "Runweaver$Row", name := "otherKeys", desc := "(LRunweaver$Row;)I" } : Jvm.MethodName) ∈ mGw := mGw_of (tV_1_378 List.mem_cons_self) (by decide +kernel)
theorem mw_394 : Jvm.Cond.instanceMethod ({ cls := "Runweaver$Row", name := "otherKeys", desc := "(LRunweaver$Row;)I" } : Jvm.MethodName) ∈ mGw := mGw_of (tV_1_379 List.mem_cons_self) (by decide +kernel)
theorem mw_395 : Jvm.Cond.selects "Runweaver$Row" ({ cls := "Runweaver$Row", name := "otherKeys", desc := "(LRunweaver$Row;)I" } : Jvm.MethodName) ({ cls := "Runweaver$Row", name := "otherKeys", desc := "(LRunweaver$Row;)I" } : Jvm.MethodName) ∈ mGw := mGw_of (tV_1_380 List.mem_cons_self) (by decide +kernel)
theorem mw_396 : Jvm.Cond.code ({ cls := "Runweaver$Row", name := "otherKeys", desc := "(LRunweaver$Row;)I" } : Jvm.MethodName) prog_3_method_10_code (5 : Nat) (Option.some Jvm.ClassFile.FieldType.int) ∈ mGw := mGw_of (tV_1_381 List.mem_cons_self) (by decide +kernel)
theorem mw_397 : Jvm.Cond.methodLink "RunweaverLaw" (76 : Nat) ({ cls := "Runweaver", name := "roll", desc := "(II)I" } : Jvm.MethodName) ∈ mGw := mGw_of (tV_1_382 List.mem_cons_self) (by decide +kernel)
theorem mw_398 : Jvm.Cond.instanceMethod ({ cls := "Runweaver", name := "roll", desc := "(II)I" } : Jvm.MethodName) ∈ mGw := mGw_of (tV_1_383 List.mem_cons_self) (by decide +kernel)
theorem mw_399 : Jvm.Cond.selects "Runweaver" ({ cls := "Runweaver", name := "roll", desc := "(II)I" } : Jvm.MethodName) ({ cls := "Runweaver", name := "roll", desc := "(II)I" } : Jvm.MethodName) ∈ mGw := mGw_of (tV_1_384 List.mem_cons_self) (by decide +kernel)
theorem mw_400 : Jvm.Cond.code ({ cls := "Runweaver", name := "roll", desc := "(II)I" } : Jvm.MethodName) prog_1_method_10_code (6 : Nat) (Option.some Jvm.ClassFile.FieldType.int) ∈ mGw := mGw_of (tV_1_385 List.mem_cons_self) (by decide +kernel)
theorem mw_401 : Jvm.Cond.methodLink "RunweaverLaw" (79 : Nat) ({ cls := "Runweaver", name := "keep", desc := "(III)I" } : Jvm.MethodName) ∈ mGw := mGw_of (tV_1_386 List.mem_cons_self) (by decide +kernel)
theorem mw_402 : Jvm.Cond.instanceMethod ({ cls := "Runweaver", name := "keep", desc := "(III)I" } : Jvm.MethodName) ∈ mGw := mGw_of (tV_1_387 List.mem_cons_self) (by decide +kernel)
theorem mw_403 : Jvm.Cond.selects "Runweaver" ({ cls := "Runweaver", name := "keep", desc := "(III)I" } : Jvm.MethodName) ({ cls := "Runweaver", name := "keep", desc := "(III)I" } : Jvm.MethodName) ∈ mGw := mGw_of (tV_1_388 List.mem_cons_self) (by decide +kernel)
theorem mw_404 : Jvm.Cond.code ({ cls := "Runweaver", name := "keep", desc := "(III)I" } : Jvm.MethodName) prog_1_method_11_code (6 : Nat) (Option.some Jvm.ClassFile.FieldType.int) ∈ mGw := mGw_of (tV_1_389 List.mem_cons_self) (by decide +kernel)
theorem mw_405 : Jvm.Cond.methodLink "RunweaverLaw" (82 : Nat) ({ cls := "Runweaver", name := "copy", desc := "(II)I" } : Jvm.MethodName) ∈ mGw := mGw_of (tV_1_390 List.mem_cons_self) (by decide +kernel)
theorem mw_406 : Jvm.Cond.instanceMethod ({ cls := "Runweaver", name := "copy", desc := "(II)I" } : Jvm.MethodName) ∈ mGw := mGw_of (tV_1_391 List.mem_cons_self) (by decide +kernel)
theorem mw_407 : Jvm.Cond.selects "Runweaver" ({ cls := "Runweaver", name := "copy", desc := "(II)I" } : Jvm.MethodName) ({ cls := "Runweaver", name := "copy", desc := "(II)I" } : Jvm.MethodName) ∈ mGw := mGw_of (tV_1_392 List.mem_cons_self) (by decide +kernel)
theorem mw_408 : Jvm.Cond.code ({ cls := "Runweaver", name := "copy", desc := "(II)I" } : Jvm.MethodName) prog_1_method_13_code (5 : Nat) (Option.some Jvm.ClassFile.FieldType.int) ∈ mGw := mGw_of (tV_1_393 List.mem_cons_self) (by decide +kernel)
theorem mw_409 : Jvm.Cond.methodLink "Runweaver" (127 : Nat) ({ cls := "Runweaver", name := "bring", desc := "(LRunweaver$Row;LRunweaver$Row;Z)V" } : Jvm.MethodName) ∈ mGw := mGw_of (tV_1_394 List.mem_cons_self) (by decide +kernel)
theorem mw_411 : Jvm.Cond.instanceMethod ({ cls := "Runweaver", name := "bring", desc := "(LRunweaver$Row;LRunweaver$Row;Z)V" } : Jvm.MethodName) ∈ mGw := mGw_of (tV_1_396 List.mem_cons_self) (by decide +kernel)
theorem mw_412 : Jvm.Cond.code ({ cls := "Runweaver", name := "bring", desc := "(LRunweaver$Row;LRunweaver$Row;Z)V" } : Jvm.MethodName) prog_1_method_61_code (6 : Nat) (Option.none : Option Jvm.ClassFile.FieldType) ∈ mGw := mGw_of (tV_1_397 List.mem_cons_self) (by decide +kernel)
theorem mw_413 : Jvm.Cond.methodLink "Runweaver" (304 : Nat) ({ cls := "Runweaver", name := "stampOfComer", desc := "(LRunweaver$Row;IZ)I" } : Jvm.MethodName) ∈ mGw := mGw_of (tV_1_398 List.mem_cons_self) (by decide +kernel)
theorem mw_415 : Jvm.Cond.instanceMethod ({ cls := "Runweaver", name := "stampOfComer", desc := "(LRunweaver$Row;IZ)I" } : Jvm.MethodName) ∈ mGw := mGw_of (tV_1_400 List.mem_cons_self) (by decide +kernel)
theorem mw_416 : Jvm.Cond.code ({ cls := "Runweaver", name := "stampOfComer", desc := "(LRunweaver$Row;IZ)I" } : Jvm.MethodName) prog_1_method_62_code (4 : Nat) (Option.some Jvm.ClassFile.FieldType.int) ∈ mGw := mGw_of (tV_1_401 List.mem_cons_self) (by decide +kernel)
theorem mw_417 : Jvm.Cond.methodLink "RunweaverLaw" (85 : Nat) ({ cls := "Runweaver", name := "join", desc := "(II)I" } : Jvm.MethodName) ∈ mGw := mGw_of (tV_1_402 List.mem_cons_self) (by decide +kernel)
theorem mw_418 : Jvm.Cond.instanceMethod ({ cls := "Runweaver", name := "join", desc := "(II)I" } : Jvm.MethodName) ∈ mGw := mGw_of (tV_1_403 List.mem_cons_self) (by decide +kernel)
theorem mw_419 : Jvm.Cond.selects "Runweaver" ({ cls := "Runweaver", name := "join", desc := "(II)I" } : Jvm.MethodName) ({ cls := "Runweaver", name := "join", desc := "(II)I" } : Jvm.MethodName) ∈ mGw := mGw_of (tV_1_404 List.mem_cons_self) (by decide +kernel)
theorem mw_420 : Jvm.Cond.code ({ cls := "Runweaver", name := "join", desc := "(II)I" } : Jvm.MethodName) prog_1_method_14_code (5 : Nat) (Option.some Jvm.ClassFile.FieldType.int) ∈ mGw := mGw_of (tV_1_405 List.mem_cons_self) (by decide +kernel)
theorem mw_421 : Jvm.Cond.methodLink "RunweaverLaw" (88 : Nat) ({ cls := "Runweaver", name := "merge", desc := "(II)I" } : Jvm.MethodName) ∈ mGw := mGw_of (tV_1_406 List.mem_cons_self) (by decide +kernel)
theorem mw_422 : Jvm.Cond.instanceMethod ({ cls := "Runweaver", name := "merge", desc := "(II)I" } : Jvm.MethodName) ∈ mGw := mGw_of (tV_1_407 List.mem_cons_self) (by decide +kernel)
theorem mw_423 : Jvm.Cond.selects "Runweaver" ({ cls := "Runweaver", name := "merge", desc := "(II)I" } : Jvm.MethodName) ({ cls := "Runweaver", name := "merge", desc := "(II)I" } : Jvm.MethodName) ∈ mGw := mGw_of (tV_1_408 List.mem_cons_self) (by decide +kernel)
theorem mw_424 : Jvm.Cond.code ({ cls := "Runweaver", name := "merge", desc := "(II)I" } : Jvm.MethodName) prog_1_method_15_code (5 : Nat) (Option.some Jvm.ClassFile.FieldType.int) ∈ mGw := mGw_of (tV_1_409 List.mem_cons_self) (by decide +kernel)
theorem mw_425 : Jvm.Cond.methodLink "RunweaverLaw" (91 : Nat) ({ cls := "Runweaver", name := "clear", desc := "(I)I" } : Jvm.MethodName) ∈ mGw := mGw_of (tV_1_410 List.mem_cons_self) (by decide +kernel)
theorem mw_426 : Jvm.Cond.instanceMethod ({ cls := "Runweaver", name := "clear", desc := "(I)I" } : Jvm.MethodName) ∈ mGw := mGw_of (tV_1_411 List.mem_cons_self) (by decide +kernel)
theorem mw_427 : Jvm.Cond.selects "Runweaver" ({ cls := "Runweaver", name := "clear", desc := "(I)I" } : Jvm.MethodName) ({ cls := "Runweaver", name := "clear", desc := "(I)I" } : Jvm.MethodName) ∈ mGw := mGw_of (tV_1_412 List.mem_cons_self) (by decide +kernel)
theorem mw_428 : Jvm.Cond.code ({ cls := "Runweaver", name := "clear", desc := "(I)I" } : Jvm.MethodName) prog_1_method_6_code (4 : Nat) (Option.some Jvm.ClassFile.FieldType.int) ∈ mGw := mGw_of (tV_1_413 List.mem_cons_self) (by decide +kernel)
theorem mw_429 : Jvm.Cond.methodLink "RunweaverLaw" (94 : Nat) ({ cls := "Runweaver", name := "sort", desc := "(I)I" } : Jvm.MethodName) ∈ mGw := mGw_of (tV_1_414 List.mem_cons_self) (by decide +kernel)
theorem mw_430 : Jvm.Cond.instanceMethod ({ cls := "Runweaver", name := "sort", desc := "(I)I" } : Jvm.MethodName) ∈ mGw := mGw_of (tV_1_415 List.mem_cons_self) (by decide +kernel)
theorem mw_431 : Jvm.Cond.selects "Runweaver" ({ cls := "Runweaver", name := "sort", desc := "(I)I" } : Jvm.MethodName) ({ cls := "Runweaver", name := "sort", desc := "(I)I" } : Jvm.MethodName) ∈ mGw := mGw_of (tV_1_416 List.mem_cons_self) (by decide +kernel)
theorem mw_432 : Jvm.Cond.code ({ cls := "Runweaver", name := "sort", desc := "(I)I" } : Jvm.MethodName) prog_1_method_12_code (4 : Nat) (Option.some Jvm.ClassFile.FieldType.int) ∈ mGw := mGw_of (tV_1_417 List.mem_cons_self) (by decide +kernel)
theorem mw_433 : Jvm.Cond.methodLink "RunweaverLaw" (28 : Nat) ({ cls := "RunweaverLaw", name := "arePairs", desc := "(LRunweaver;I)Z" } : Jvm.MethodName) ∈ mGw := mGw_of (tV_1_418 List.mem_cons_self) (by decide +kernel)
theorem mw_434 : Jvm.Cond.static ({ cls := "RunweaverLaw", name := "arePairs", desc := "(LRunweaver;I)Z" } : Jvm.MethodName) ∈ mGw := mGw_of (tV_1_419 List.mem_cons_self) (by decide +kernel)
theorem mw_435 : Jvm.Cond.code ({ cls := "RunweaverLaw", name := "arePairs", desc := "(LRunweaver;I)Z" } : Jvm.MethodName) method_7_code (7 : Nat) (Option.some Jvm.ClassFile.FieldType.boolean) ∈ mGw := mGw_of (tV_1_420 List.mem_cons_self) (by decide +kernel)
theorem mw_436 : Jvm.Cond.methodLink "RunweaverLaw" (101 : Nat) ({ cls := "Runweaver", name := "wrong", desc := "(II)I" } : Jvm.MethodName) ∈ mGw := mGw_of (tV_1_421 List.mem_cons_self) (by decide +kernel)
theorem mw_437 : Jvm.Cond.instanceMethod ({ cls := "Runweaver", name := "wrong", desc := "(II)I" } : Jvm.MethodName) ∈ mGw := mGw_of (tV_1_422 List.mem_cons_self) (by decide +kernel)
theorem mw_438 : Jvm.Cond.selects "Runweaver" ({ cls := "Runweaver", name := "wrong", desc := "(II)I" } : Jvm.MethodName) ({ cls := "Runweaver", name := "wrong", desc := "(II)I" } : Jvm.MethodName) ∈ mGw := mGw_of (tV_1_423 List.mem_cons_self) (by decide +kernel)
theorem mw_439 : Jvm.Cond.code ({ cls := "Runweaver", name := "wrong", desc := "(II)I" } : Jvm.MethodName) prog_1_method_29_code (4 : Nat) (Option.some Jvm.ClassFile.FieldType.int) ∈ mGw := mGw_of (tV_1_424 List.mem_cons_self) (by decide +kernel)
theorem mw_440 : Jvm.Cond.methodLink "RunweaverLaw" (104 : Nat) ({ cls := "Runweaver", name := "right", desc := "(I)I" } : Jvm.MethodName) ∈ mGw := mGw_of (tV_1_425 List.mem_cons_self) (by decide +kernel)
theorem mw_441 : Jvm.Cond.instanceMethod ({ cls := "Runweaver", name := "right", desc := "(I)I" } : Jvm.MethodName) ∈ mGw := mGw_of (tV_1_426 List.mem_cons_self) (by decide +kernel)
theorem mw_442 : Jvm.Cond.selects "Runweaver" ({ cls := "Runweaver", name := "right", desc := "(I)I" } : Jvm.MethodName) ({ cls := "Runweaver", name := "right", desc := "(I)I" } : Jvm.MethodName) ∈ mGw := mGw_of (tV_1_427 List.mem_cons_self) (by decide +kernel)
theorem mw_443 : Jvm.Cond.code ({ cls := "Runweaver", name := "right", desc := "(I)I" } : Jvm.MethodName) prog_1_method_30_code (2 : Nat) (Option.some Jvm.ClassFile.FieldType.int) ∈ mGw := mGw_of (tV_1_428 List.mem_cons_self) (by decide +kernel)
theorem mw_444 : Jvm.Cond.methodLink "RunweaverLaw" (107 : Nat) ({ cls := "Runweaver", name := "ties", desc := "(I)I" } : Jvm.MethodName) ∈ mGw := mGw_of (tV_1_429 List.mem_cons_self) (by decide +kernel)
theorem mw_445 : Jvm.Cond.instanceMethod ({ cls := "Runweaver", name := "ties", desc := "(I)I" } : Jvm.MethodName) ∈ mGw := mGw_of (tV_1_430 List.mem_cons_self) (by decide +kernel)
theorem mw_446 : Jvm.Cond.selects "Runweaver" ({ cls := "Runweaver", name := "ties", desc := "(I)I" } : Jvm.MethodName) ({ cls := "Runweaver", name := "ties", desc := "(I)I" } : Jvm.MethodName) ∈ mGw := mGw_of (tV_1_431 List.mem_cons_self) (by decide +kernel)
theorem mw_447 : Jvm.Cond.code ({ cls := "Runweaver", name := "ties", desc := "(I)I" } : Jvm.MethodName) prog_1_method_31_code (2 : Nat) (Option.some Jvm.ClassFile.FieldType.int) ∈ mGw := mGw_of (tV_1_432 List.mem_cons_self) (by decide +kernel)
theorem mw_448 : Jvm.Cond.methodLink "RunweaverLaw" (110 : Nat) ({ cls := "Runweaver", name := "isSorted", desc := "(I)Z" } : Jvm.MethodName) ∈ mGw := mGw_of (tV_1_433 List.mem_cons_self) (by decide +kernel)
theorem mw_449 : Jvm.Cond.instanceMethod ({ cls := "Runweaver", name := "isSorted", desc := "(I)Z" } : Jvm.MethodName) ∈ mGw := mGw_of (tV_1_434 List.mem_cons_self) (by decide +kernel)
theorem mw_450 : Jvm.Cond.selects "Runweaver" ({ cls := "Runweaver", name := "isSorted", desc := "(I)Z" } : Jvm.MethodName) ({ cls := "Runweaver", name := "isSorted", desc := "(I)Z" } : Jvm.MethodName) ∈ mGw := mGw_of (tV_1_435 List.mem_cons_self) (by decide +kernel)
theorem mw_451 : Jvm.Cond.code ({ cls := "Runweaver", name := "isSorted", desc := "(I)Z" } : Jvm.MethodName) prog_1_method_26_code (2 : Nat) (Option.some Jvm.ClassFile.FieldType.boolean) ∈ mGw := mGw_of (tV_1_436 List.mem_cons_self) (by decide +kernel)
theorem mw_452 : Jvm.Cond.methodLink "RunweaverLaw" (113 : Nat) ({ cls := "Runweaver", name := "isFalling", desc := "(I)Z" } : Jvm.MethodName) ∈ mGw := mGw_of (tV_1_437 List.mem_cons_self) (by decide +kernel)
theorem mw_453 : Jvm.Cond.instanceMethod ({ cls := "Runweaver", name := "isFalling", desc := "(I)Z" } : Jvm.MethodName) ∈ mGw := mGw_of (tV_1_438 List.mem_cons_self) (by decide +kernel)
theorem mw_454 : Jvm.Cond.selects "Runweaver" ({ cls := "Runweaver", name := "isFalling", desc := "(I)Z" } : Jvm.MethodName) ({ cls := "Runweaver", name := "isFalling", desc := "(I)Z" } : Jvm.MethodName) ∈ mGw := mGw_of (tV_1_439 List.mem_cons_self) (by decide +kernel)
theorem mw_455 : Jvm.Cond.code ({ cls := "Runweaver", name := "isFalling", desc := "(I)Z" } : Jvm.MethodName) prog_1_method_27_code (2 : Nat) (Option.some Jvm.ClassFile.FieldType.boolean) ∈ mGw := mGw_of (tV_1_440 List.mem_cons_self) (by decide +kernel)
theorem mw_456 : Jvm.Cond.methodLink "Runweaver" (169 : Nat) ({ cls := "Runweaver$Row", name := "fallsThroughout", desc := "()Z" } : Jvm.MethodName) ∈ mGw := mGw_of (tV_1_441 List.mem_cons_self) (by decide +kernel)
theorem mw_457 : Jvm.Cond.instanceMethod ({ cls := "Runweaver$Row", name := "fallsThroughout", desc := "()Z" } : Jvm.MethodName) ∈ mGw := mGw_of (tV_1_442 List.mem_cons_self) (by decide +kernel)
theorem mw_458 : Jvm.Cond.selects "Runweaver$Row" ({ cls := "Runweaver$Row", name := "fallsThroughout", desc := "()Z" } : Jvm.MethodName) ({ cls := "Runweaver$Row", name := "fallsThroughout", desc := "()Z" } : Jvm.MethodName) ∈ mGw := mGw_of (tV_1_443 List.mem_cons_self) (by decide +kernel)
theorem mw_459 : Jvm.Cond.code ({ cls := "Runweaver$Row", name := "fallsThroughout", desc := "()Z" } : Jvm.MethodName) prog_3_method_13_code (2 : Nat) (Option.some Jvm.ClassFile.FieldType.boolean) ∈ mGw := mGw_of (tV_1_444 List.mem_cons_self) (by decide +kernel)
theorem mw_460 : Jvm.Cond.methodLink "RunweaverLaw" (116 : Nat) ({ cls := "Runweaver", name := "runs", desc := "(I)I" } : Jvm.MethodName) ∈ mGw := mGw_of (tV_1_445 List.mem_cons_self) (by decide +kernel)
theorem mw_461 : Jvm.Cond.instanceMethod ({ cls := "Runweaver", name := "runs", desc := "(I)I" } : Jvm.MethodName) ∈ mGw := mGw_of (tV_1_446 List.mem_cons_self) (by decide +kernel)
theorem mw_462 : Jvm.Cond.selects "Runweaver" ({ cls := "Runweaver", name := "runs", desc := "(I)I" } : Jvm.MethodName) ({ cls := "Runweaver", name := "runs", desc := "(I)I" } : Jvm.MethodName) ∈ mGw := mGw_of (tV_1_447 List.mem_cons_self) (by decide +kernel)
theorem mw_463 : Jvm.Cond.code ({ cls := "Runweaver", name := "runs", desc := "(I)I" } : Jvm.MethodName) prog_1_method_32_code (2 : Nat) (Option.some Jvm.ClassFile.FieldType.int) ∈ mGw := mGw_of (tV_1_448 List.mem_cons_self) (by decide +kernel)
theorem mw_464 : Jvm.Cond.methodLink "Runweaver" (184 : Nat) ({ cls := "Runweaver$Row", name := "runsInAll", desc := "()I" } : Jvm.MethodName) ∈ mGw := mGw_of (tV_1_449 List.mem_cons_self) (by decide +kernel)
theorem mw_465 : Jvm.Cond.instanceMethod ({ cls := "Runweaver$Row", name := "runsInAll", desc := "()I" } : Jvm.MethodName) ∈ mGw := mGw_of (tV_1_450 List.mem_cons_self) (by decide +kernel)
theorem mw_466 : Jvm.Cond.selects "Runweaver$Row" ({ cls := "Runweaver$Row", name := "runsInAll", desc := "()I" } : Jvm.MethodName) ({ cls := "Runweaver$Row", name := "runsInAll", desc := "()I" } : Jvm.MethodName) ∈ mGw := mGw_of (tV_1_451 List.mem_cons_self) (by decide +kernel)
theorem mw_467 : Jvm.Cond.code ({ cls := "Runweaver$Row", name := "runsInAll", desc := "()I" } : Jvm.MethodName) prog_3_method_21_code (3 : Nat) (Option.some Jvm.ClassFile.FieldType.int) ∈ mGw := mGw_of (tV_1_452 List.mem_cons_self) (by decide +kernel)
theorem mw_468 : Jvm.Cond.methodLink "RunweaverLaw" (119 : Nat) ({ cls := "Runweaver", name := "key", desc := "(II)I" } : Jvm.MethodName) ∈ mGw := mGw_of (tV_1_453 List.mem_cons_self) (by decide +kernel)
theorem mw_469 : Jvm.Cond.instanceMethod ({ cls := "Runweaver", name := "key", desc := "(II)I" } : Jvm.MethodName) ∈ mGw := mGw_of (tV_1_454 List.mem_cons_self) (by decide +kernel)
theorem mw_470 : Jvm.Cond.selects "Runweaver" ({ cls := "Runweaver", name := "key", desc := "(II)I" } : Jvm.MethodName) ({ cls := "Runweaver", name := "key", desc := "(II)I" } : Jvm.MethodName) ∈ mGw := mGw_of (tV_1_455 List.mem_cons_self) (by decide +kernel)
theorem mw_471 : Jvm.Cond.code ({ cls := "Runweaver", name := "key", desc := "(II)I" } : Jvm.MethodName) prog_1_method_17_code (4 : Nat) (Option.some Jvm.ClassFile.FieldType.int) ∈ mGw := mGw_of (tV_1_456 List.mem_cons_self) (by decide +kernel)
theorem mw_472 : Jvm.Cond.methodLink "RunweaverLaw" (32 : Nat) ({ cls := "RunweaverLaw", name := "isSorted", desc := "(LRunweaver;II)Z" } : Jvm.MethodName) ∈ mGw := mGw_of (tV_1_457 List.mem_cons_self) (by decide +kernel)
theorem mw_473 : Jvm.Cond.static ({ cls := "RunweaverLaw", name := "isSorted", desc := "(LRunweaver;II)Z" } : Jvm.MethodName) ∈ mGw := mGw_of (tV_1_458 List.mem_cons_self) (by decide +kernel)
theorem mw_474 : Jvm.Cond.code ({ cls := "RunweaverLaw", name := "isSorted", desc := "(LRunweaver;II)Z" } : Jvm.MethodName) method_8_code (12 : Nat) (Option.some Jvm.ClassFile.FieldType.boolean) ∈ mGw := mGw_of (tV_1_459 List.mem_cons_self) (by decide +kernel)
theorem mw_475 : Jvm.Cond.methodLink "RunweaverLaw" (122 : Nat) ({ cls := "Runweaver", name := "stamp", desc := "(II)I" } : Jvm.MethodName) ∈ mGw := mGw_of (tV_1_460 List.mem_cons_self) (by decide +kernel)
theorem mw_476 : Jvm.Cond.instanceMethod ({ cls := "Runweaver", name := "stamp", desc := "(II)I" } : Jvm.MethodName) ∈ mGw := mGw_of (tV_1_461 List.mem_cons_self) (by decide +kernel)
theorem mw_477 : Jvm.Cond.selects "Runweaver" ({ cls := "Runweaver", name := "stamp", desc := "(II)I" } : Jvm.MethodName) ({ cls := "Runweaver", name := "stamp", desc := "(II)I" } : Jvm.MethodName) ∈ mGw := mGw_of (tV_1_462 List.mem_cons_self) (by decide +kernel)
theorem mw_478 : Jvm.Cond.code ({ cls := "Runweaver", name := "stamp", desc := "(II)I" } : Jvm.MethodName) prog_1_method_18_code (4 : Nat) (Option.some Jvm.ClassFile.FieldType.int) ∈ mGw := mGw_of (tV_1_463 List.mem_cons_self) (by decide +kernel)
theorem mw_479 : Jvm.Cond.methodLink "RunweaverLaw" (125 : Nat) ({ cls := "Runweaver", name := "rank", desc := "(II)I" } : Jvm.MethodName) ∈ mGw := mGw_of (tV_1_464 List.mem_cons_self) (by decide +kernel)
theorem mw_480 : Jvm.Cond.instanceMethod ({ cls := "Runweaver", name := "rank", desc := "(II)I" } : Jvm.MethodName) ∈ mGw := mGw_of (tV_1_465 List.mem_cons_self) (by decide +kernel)
theorem mw_481 : Jvm.Cond.selects "Runweaver" ({ cls := "Runweaver", name := "rank", desc := "(II)I" } : Jvm.MethodName) ({ cls := "Runweaver", name := "rank", desc := "(II)I" } : Jvm.MethodName) ∈ mGw := mGw_of (tV_1_466 List.mem_cons_self) (by decide +kernel)
theorem mw_482 : Jvm.Cond.code ({ cls := "Runweaver", name := "rank", desc := "(II)I" } : Jvm.MethodName) prog_1_method_19_code (4 : Nat) (Option.some Jvm.ClassFile.FieldType.int) ∈ mGw := mGw_of (tV_1_467 List.mem_cons_self) (by decide +kernel)
theorem mw_483 : Jvm.Cond.methodLink "Runweaver" (141 : Nat) ({ cls := "Runweaver$Row", name := "rankAt", desc := "(I)I" } : Jvm.MethodName) ∈ mGw := mGw_of (tV_1_468 List.mem_cons_self) (by decide +kernel)
theorem mw_484 : Jvm.Cond.methodLink "RunweaverLaw" (128 : Nat) ({ cls := "Runweaver", name := "end", desc := "(IZ)I" } : Jvm.MethodName) ∈ mGw := mGw_of (tV_1_469 List.mem_cons_self) (by decide +kernel)
theorem mw_485 : Jvm.Cond.instanceMethod ({ cls := "Runweaver", name := "end", desc := "(IZ)I" } : Jvm.MethodName) ∈ mGw := mGw_of (tV_1_470 List.mem_cons_self) (by decide +kernel)
theorem mw_486 : Jvm.Cond.selects "Runweaver" ({ cls := "Runweaver", name := "end", desc := "(IZ)I" } : Jvm.MethodName) ({ cls := "Runweaver", name := "end", desc := "(IZ)I" } : Jvm.MethodName) ∈ mGw := mGw_of (tV_1_471 List.mem_cons_self) (by decide +kernel)
theorem mw_487 : Jvm.Cond.code ({ cls := "Runweaver", name := "end", desc := "(IZ)I" } : Jvm.MethodName) prog_1_method_37_code (4 : Nat) (Option.some Jvm.ClassFile.FieldType.int) ∈ mGw := mGw_of (tV_1_472 List.mem_cons_self) (by decide +kernel)
theorem mw_488 : Jvm.Cond.methodLink "Runweaver" (202 : Nat) ({ cls := "Runweaver$Row", name := "greatestKey", desc := "()I" } : Jvm.MethodName) ∈ mGw := mGw_of (tV_1_473 List.mem_cons_self) (by decide +kernel)
theorem mw_489 : Jvm.Cond.instanceMethod ({ cls := "Runweaver$Row", name := "greatestKey", desc := "()I" } : Jvm.MethodName) ∈ mGw := mGw_of (tV_1_474 List.mem_cons_self) (by decide +kernel)
theorem mw_490 : Jvm.Cond.selects "Runweaver$Row" ({ cls := "Runweaver$Row", name := "greatestKey", desc := "()I" } : Jvm.MethodName) ({ cls := "Runweaver$Row", name := "greatestKey", desc := "()I" } : Jvm.MethodName) ∈ mGw := mGw_of (tV_1_475 List.mem_cons_self) (by decide +kernel)
theorem mw_491 : Jvm.Cond.code ({ cls := "Runweaver$Row", name := "greatestKey", desc := "()I" } : Jvm.MethodName) prog_3_method_28_code (3 : Nat) (Option.some Jvm.ClassFile.FieldType.int) ∈ mGw := mGw_of (tV_1_476 List.mem_cons_self) (by decide +kernel)
theorem mw_492 : Jvm.Cond.constant "Runweaver$Row" (49 : Nat) (-100000 : Int32) ∈ mGw := mGw_of (tV_1_477 List.mem_cons_self) (by decide +kernel)
theorem mw_493 : Jvm.Cond.methodLink "Runweaver$Row" (46 : Nat) ({ cls := "java/lang/Math", name := "max", desc := "(II)I" } : Jvm.MethodName) ∈ mGw := mGw_of (tV_1_478 List.mem_cons_self) (by decide +kernel)
theorem mw_494 : Jvm.Cond.static ({ cls := "java/lang/Math", name := "max", desc := "(II)I" } : Jvm.MethodName) ∈ mGw := mGw_of (tV_1_479 List.mem_cons_self) (by decide +kernel)
theorem mw_495 : Jvm.Cond.code ({ cls := "java/lang/Math", name := "max", desc := "(II)I" } : Jvm.MethodName) prog_12_method_65_code (2 : Nat) (Option.some Jvm.ClassFile.FieldType.int) ∈ mGw := mGw_of (tV_2_480 List.mem_cons_self) (by decide +kernel)
theorem mw_496 : Jvm.Cond.methodLink "Runweaver" (205 : Nat) ({ cls := "Runweaver$Row", name := "leastKey", desc := "()I" } : Jvm.MethodName) ∈ mGw := mGw_of (tV_2_481 List.mem_cons_self) (by decide +kernel)
theorem mw_497 : Jvm.Cond.instanceMethod ({ cls := "Runweaver$Row", name := "leastKey", desc := "()I" } : Jvm.MethodName) ∈ mGw := mGw_of (tV_2_482 List.mem_cons_self) (by decide +kernel)
theorem mw_498 : Jvm.Cond.selects "Runweaver$Row" ({ cls := "Runweaver$Row", name := "leastKey", desc := "()I" } : Jvm.MethodName) ({ cls := "Runweaver$Row", name := "leastKey", desc := "()I" } : Jvm.MethodName) ∈ mGw := mGw_of (tV_2_483 List.mem_cons_self) (by decide +kernel)
theorem mw_499 : Jvm.Cond.code ({ cls := "Runweaver$Row", name := "leastKey", desc := "()I" } : Jvm.MethodName) prog_3_method_27_code (3 : Nat) (Option.some Jvm.ClassFile.FieldType.int) ∈ mGw := mGw_of (tV_2_484 List.mem_cons_self) (by decide +kernel)
theorem mw_500 : Jvm.Cond.methodLink "RunweaverLaw" (132 : Nat) ({ cls := "Runweaver", name := "bag", desc := "(II)Z" } : Jvm.MethodName) ∈ mGw := mGw_of (tV_2_485 List.mem_cons_self) (by decide +kernel)
theorem mw_501 : Jvm.Cond.instanceMethod ({ cls := "Runweaver", name := "bag", desc := "(II)Z" } : Jvm.MethodName) ∈ mGw := mGw_of (tV_2_486 List.mem_cons_self) (by decide +kernel)
theorem mw_502 : Jvm.Cond.selects "Runweaver" ({ cls := "Runweaver", name := "bag", desc := "(II)Z" } : Jvm.MethodName) ({ cls := "Runweaver", name := "bag", desc := "(II)Z" } : Jvm.MethodName) ∈ mGw := mGw_of (tV_2_487 List.mem_cons_self) (by decide +kernel)
theorem mw_503 : Jvm.Cond.code ({ cls := "Runweaver", name := "bag", desc := "(II)Z" } : Jvm.MethodName) prog_1_method_42_code (5 : Nat) (Option.some Jvm.ClassFile.FieldType.boolean) ∈ mGw := mGw_of (tV_2_488 List.mem_cons_self) (by decide +kernel)
theorem mw_504 : Jvm.Cond.methodLink "RunweaverLaw" (136 : Nat) ({ cls := "Runweaver", name := "mark", desc := "(IZ)I" } : Jvm.MethodName) ∈ mGw := mGw_of (tV_2_489 List.mem_cons_self) (by decide +kernel)
theorem mw_505 : Jvm.Cond.instanceMethod ({ cls := "Runweaver", name := "mark", desc := "(IZ)I" } : Jvm.MethodName) ∈ mGw := mGw_of (tV_2_490 List.mem_cons_self) (by decide +kernel)
theorem mw_506 : Jvm.Cond.selects "Runweaver" ({ cls := "Runweaver", name := "mark", desc := "(IZ)I" } : Jvm.MethodName) ({ cls := "Runweaver", name := "mark", desc := "(IZ)I" } : Jvm.MethodName) ∈ mGw := mGw_of (tV_2_491 List.mem_cons_self) (by decide +kernel)
theorem mw_507 : Jvm.Cond.code ({ cls := "Runweaver", name := "mark", desc := "(IZ)I" } : Jvm.MethodName) prog_1_method_43_code (6 : Nat) (Option.some Jvm.ClassFile.FieldType.int) ∈ mGw := mGw_of (tV_2_492 List.mem_cons_self) (by decide +kernel)
theorem mw_508 : Jvm.Cond.methodLink "RunweaverLaw" (139 : Nat) ({ cls := "Runweaver", name := "same", desc := "(II)Z" } : Jvm.MethodName) ∈ mGw := mGw_of (tV_2_493 List.mem_cons_self) (by decide +kernel)
theorem mw_509 : Jvm.Cond.instanceMethod ({ cls := "Runweaver", name := "same", desc := "(II)Z" } : Jvm.MethodName) ∈ mGw := mGw_of (tV_2_494 List.mem_cons_self) (by decide +kernel)
theorem mw_510 : Jvm.Cond.selects "Runweaver" ({ cls := "Runweaver", name := "same", desc := "(II)Z" } : Jvm.MethodName) ({ cls := "Runweaver", name := "same", desc := "(II)Z" } : Jvm.MethodName) ∈ mGw := mGw_of (tV_2_495 List.mem_cons_self) (by decide +kernel)
theorem mw_511 : Jvm.Cond.code ({ cls := "Runweaver", name := "same", desc := "(II)Z" } : Jvm.MethodName) prog_1_method_41_code (5 : Nat) (Option.some Jvm.ClassFile.FieldType.boolean) ∈ mGw := mGw_of (tV_2_496 List.mem_cons_self) (by decide +kernel)
theorem mw_512 : Jvm.Cond.arrayClass Jvm.ClassFile.FieldType.boolean ∈ mGw := mGw_of (tV_2_497 List.mem_cons_self) (by decide +kernel)
theorem mw_513 : Jvm.Cond.methodLink "RunweaverLaw" (36 : Nat) ({ cls := "RunweaverLaw", name := "isTurned", desc := "(LRunweaver;II)Z" } : Jvm.MethodName) ∈ mGw := mGw_of (tV_2_498 List.mem_cons_self) (by decide +kernel)
theorem mw_514 : Jvm.Cond.static ({ cls := "RunweaverLaw", name := "isTurned", desc := "(LRunweaver;II)Z" } : Jvm.MethodName) ∈ mGw := mGw_of (tV_2_499 List.mem_cons_self) (by decide +kernel)
theorem mw_515 : Jvm.Cond.code ({ cls := "RunweaverLaw", name := "isTurned", desc := "(LRunweaver;II)Z" } : Jvm.MethodName) method_9_code (5 : Nat) (Option.some Jvm.ClassFile.FieldType.boolean) ∈ mGw := mGw_of (tV_2_500 List.mem_cons_self) (by decide +kernel)
theorem mw_516 : Jvm.Cond.methodLink "RunweaverLaw" (39 : Nat) ({ cls := "RunweaverLaw", name := "areMerged", desc := "(LRunweaver;I)Z" } : Jvm.MethodName) ∈ mGw := mGw_of (tV_2_501 List.mem_cons_self) (by decide +kernel)
theorem mw_517 : Jvm.Cond.static ({ cls := "RunweaverLaw", name := "areMerged", desc := "(LRunweaver;I)Z" } : Jvm.MethodName) ∈ mGw := mGw_of (tV_2_502 List.mem_cons_self) (by decide +kernel)
theorem mw_518 : Jvm.Cond.code ({ cls := "RunweaverLaw", name := "areMerged", desc := "(LRunweaver;I)Z" } : Jvm.MethodName) method_10_code (7 : Nat) (Option.some Jvm.ClassFile.FieldType.boolean) ∈ mGw := mGw_of (tV_2_503 List.mem_cons_self) (by decide +kernel)
theorem mw_519 : Jvm.Cond.methodLink "RunweaverLaw" (42 : Nat) ({ cls := "RunweaverLaw", name := "isAsked", desc := "(LRunweaver;I)Z" } : Jvm.MethodName) ∈ mGw := mGw_of (tV_2_504 List.mem_cons_self) (by decide +kernel)
theorem mw_520 : Jvm.Cond.static ({ cls := "RunweaverLaw", name := "isAsked", desc := "(LRunweaver;I)Z" } : Jvm.MethodName) ∈ mGw := mGw_of (tV_2_505 List.mem_cons_self) (by decide +kernel)
theorem mw_521 : Jvm.Cond.code ({ cls := "RunweaverLaw", name := "isAsked", desc := "(LRunweaver;I)Z" } : Jvm.MethodName) method_11_code (6 : Nat) (Option.some Jvm.ClassFile.FieldType.boolean) ∈ mGw := mGw_of (tV_2_506 List.mem_cons_self) (by decide +kernel)
theorem mw_522 : Jvm.Cond.methodLink "RunweaverLaw" (142 : Nat) ({ cls := "Runweaver", name := "digest", desc := "()J" } : Jvm.MethodName) ∈ mGw := mGw_of (tV_2_507 List.mem_cons_self) (by decide +kernel)
theorem mw_523 : Jvm.Cond.instanceMethod ({ cls := "Runweaver", name := "digest", desc := "()J" } : Jvm.MethodName) ∈ mGw := mGw_of (tV_2_508 List.mem_cons_self) (by decide +kernel)
theorem mw_524 : Jvm.Cond.selects "Runweaver" ({ cls := "Runweaver", name := "digest", desc := "()J" } : Jvm.MethodName) ({ cls := "Runweaver", name := "digest", desc := "()J" } : Jvm.MethodName) ∈ mGw := mGw_of (tV_2_509 List.mem_cons_self) (by decide +kernel)
theorem mw_525 : Jvm.Cond.code ({ cls := "Runweaver", name := "digest", desc := "()J" } : Jvm.MethodName) prog_1_method_47_code (4 : Nat) (Option.some Jvm.ClassFile.FieldType.long) ∈ mGw := mGw_of (tV_2_510 List.mem_cons_self) (by decide +kernel)
theorem mw_526 : Jvm.Cond.constantLong "Runweaver" (250 : Nat) (8007 : Int64) ∈ mGw := mGw_of (tV_2_511 List.mem_cons_self) (by decide +kernel)
theorem mw_527 : Jvm.Cond.constantLong "Runweaver" (252 : Nat) (31 : Int64) ∈ mGw := mGw_of (tV_2_512 List.mem_cons_self) (by decide +kernel)
theorem mw_528 : Jvm.Cond.methodLink "Runweaver" (254 : Nat) ({ cls := "Runweaver", name := "many", desc := "(I)I" } : Jvm.MethodName) ∈ mGw := mGw_of (tV_2_513 List.mem_cons_self) (by decide +kernel)
theorem mw_529 : Jvm.Cond.methodLink "Runweaver" (257 : Nat) ({ cls := "Runweaver", name := "mark", desc := "(IZ)I" } : Jvm.MethodName) ∈ mGw := mGw_of (tV_2_514 List.mem_cons_self) (by decide +kernel)
theorem mw_530 : Jvm.Cond.methodLink "Runweaver" (261 : Nat) ({ cls := "Runweaver", name := "wrong", desc := "(II)I" } : Jvm.MethodName) ∈ mGw := mGw_of (tV_2_515 List.mem_cons_self) (by decide +kernel)
theorem mw_531 : Jvm.Cond.methodLink "Runweaver" (264 : Nat) ({ cls := "Runweaver", name := "ties", desc := "(I)I" } : Jvm.MethodName) ∈ mGw := mGw_of (tV_2_516 List.mem_cons_self) (by decide +kernel)
theorem mw_532 : Jvm.Cond.methodLink "Runweaver" (267 : Nat) ({ cls := "Runweaver", name := "runs", desc := "(I)I" } : Jvm.MethodName) ∈ mGw := mGw_of (tV_2_517 List.mem_cons_self) (by decide +kernel)
theorem mw_533 : Jvm.Cond.methodLink "Runweaver" (270 : Nat) ({ cls := "Runweaver", name := "longest", desc := "(I)I" } : Jvm.MethodName) ∈ mGw := mGw_of (tV_2_518 List.mem_cons_self) (by decide +kernel)
theorem mw_534 : Jvm.Cond.instanceMethod ({ cls := "Runweaver", name := "longest", desc := "(I)I" } : Jvm.MethodName) ∈ mGw := mGw_of (tV_2_519 List.mem_cons_self) (by decide +kernel)
theorem mw_535 : Jvm.Cond.selects "Runweaver" ({ cls := "Runweaver", name := "longest", desc := "(I)I" } : Jvm.MethodName) ({ cls := "Runweaver", name := "longest", desc := "(I)I" } : Jvm.MethodName) ∈ mGw := mGw_of (tV_2_520 List.mem_cons_self) (by decide +kernel)
theorem mw_536 : Jvm.Cond.code ({ cls := "Runweaver", name := "longest", desc := "(I)I" } : Jvm.MethodName) prog_1_method_33_code (2 : Nat) (Option.some Jvm.ClassFile.FieldType.int) ∈ mGw := mGw_of (tV_2_521 List.mem_cons_self) (by decide +kernel)
theorem mw_537 : Jvm.Cond.methodLink "Runweaver" (187 : Nat) ({ cls := "Runweaver$Row", name := "longestRun", desc := "()I" } : Jvm.MethodName) ∈ mGw := mGw_of (tV_2_522 List.mem_cons_self) (by decide +kernel)
theorem mw_538 : Jvm.Cond.instanceMethod ({ cls := "Runweaver$Row", name := "longestRun", desc := "()I" } : Jvm.MethodName) ∈ mGw := mGw_of (tV_2_523 List.mem_cons_self) (by decide +kernel)
theorem mw_539 : Jvm.Cond.selects "Runweaver$Row" ({ cls := "Runweaver$Row", name := "longestRun", desc := "()I" } : Jvm.MethodName) ({ cls := "Runweaver$Row", name := "longestRun", desc := "()I" } : Jvm.MethodName) ∈ mGw := mGw_of (tV_2_524 List.mem_cons_self) (by decide +kernel)
theorem mw_540 : Jvm.Cond.code ({ cls := "Runweaver$Row", name := "longestRun", desc := "()I" } : Jvm.MethodName) prog_3_method_22_code (4 : Nat) (Option.some Jvm.ClassFile.FieldType.int) ∈ mGw := mGw_of (tV_2_525 List.mem_cons_self) (by decide +kernel)
theorem mw_541 : Jvm.Cond.methodLink "Runweaver" (273 : Nat) ({ cls := "Runweaver", name := "sum", desc := "(I)I" } : Jvm.MethodName) ∈ mGw := mGw_of (tV_2_526 List.mem_cons_self) (by decide +kernel)
theorem mw_542 : Jvm.Cond.instanceMethod ({ cls := "Runweaver", name := "sum", desc := "(I)I" } : Jvm.MethodName) ∈ mGw := mGw_of (tV_2_527 List.mem_cons_self) (by decide +kernel)
theorem mw_543 : Jvm.Cond.selects "Runweaver" ({ cls := "Runweaver", name := "sum", desc := "(I)I" } : Jvm.MethodName) ({ cls := "Runweaver", name := "sum", desc := "(I)I" } : Jvm.MethodName) ∈ mGw := mGw_of (tV_2_528 List.mem_cons_self) (by decide +kernel)
theorem mw_544 : Jvm.Cond.code ({ cls := "Runweaver", name := "sum", desc := "(I)I" } : Jvm.MethodName) prog_1_method_40_code (2 : Nat) (Option.some Jvm.ClassFile.FieldType.int) ∈ mGw := mGw_of (tV_2_529 List.mem_cons_self) (by decide +kernel)
theorem mw_545 : Jvm.Cond.methodLink "Runweaver" (214 : Nat) ({ cls := "Runweaver$Row", name := "keysTogether", desc := "()I" } : Jvm.MethodName) ∈ mGw := mGw_of (tV_2_530 List.mem_cons_self) (by decide +kernel)
theorem mw_546 : Jvm.Cond.instanceMethod ({ cls := "Runweaver$Row", name := "keysTogether", desc := "()I" } : Jvm.MethodName) ∈ mGw := mGw_of (tV_2_531 List.mem_cons_self) (by decide +kernel)
theorem mw_547 : Jvm.Cond.selects "Runweaver$Row" ({ cls := "Runweaver$Row", name := "keysTogether", desc := "()I" } : Jvm.MethodName) ({ cls := "Runweaver$Row", name := "keysTogether", desc := "()I" } : Jvm.MethodName) ∈ mGw := mGw_of (tV_2_532 List.mem_cons_self) (by decide +kernel)
theorem mw_548 : Jvm.Cond.code ({ cls := "Runweaver$Row", name := "keysTogether", desc := "()I" } : Jvm.MethodName) prog_3_method_29_code (3 : Nat) (Option.some Jvm.ClassFile.FieldType.int) ∈ mGw := mGw_of (tV_2_533 List.mem_cons_self) (by decide +kernel)
theorem mw_549 : Jvm.Cond.methodLink "Runweaver" (276 : Nat) ({ cls := "Runweaver", name := "unlike", desc := "(I)I" } : Jvm.MethodName) ∈ mGw := mGw_of (tV_2_534 List.mem_cons_self) (by decide +kernel)
theorem mw_550 : Jvm.Cond.instanceMethod ({ cls := "Runweaver", name := "unlike", desc := "(I)I" } : Jvm.MethodName) ∈ mGw := mGw_of (tV_2_535 List.mem_cons_self) (by decide +kernel)
theorem mw_551 : Jvm.Cond.selects "Runweaver" ({ cls := "Runweaver", name := "unlike", desc := "(I)I" } : Jvm.MethodName) ({ cls := "Runweaver", name := "unlike", desc := "(I)I" } : Jvm.MethodName) ∈ mGw := mGw_of (tV_2_536 List.mem_cons_self) (by decide +kernel)
theorem mw_552 : Jvm.Cond.code ({ cls := "Runweaver", name := "unlike", desc := "(I)I" } : Jvm.MethodName) prog_1_method_38_code (2 : Nat) (Option.some Jvm.ClassFile.FieldType.int) ∈ mGw := mGw_of (tV_2_537 List.mem_cons_self) (by decide +kernel)
theorem mw_553 : Jvm.Cond.methodLink "Runweaver" (208 : Nat) ({ cls := "Runweaver$Row", name := "unlikeKeysOfSorted", desc := "()I" } : Jvm.MethodName) ∈ mGw := mGw_of (tV_2_538 List.mem_cons_self) (by decide +kernel)
theorem mw_554 : Jvm.Cond.instanceMethod ({ cls := "Runweaver$Row", name := "unlikeKeysOfSorted", desc := "()I" } : Jvm.MethodName) ∈ mGw := mGw_of (tV_2_539 List.mem_cons_self) (by decide +kernel)
theorem mw_555 : Jvm.Cond.selects "Runweaver$Row" ({ cls := "Runweaver$Row", name := "unlikeKeysOfSorted", desc := "()I" } : Jvm.MethodName) ({ cls := "Runweaver$Row", name := "unlikeKeysOfSorted", desc := "()I" } : Jvm.MethodName) ∈ mGw := mGw_of (tV_2_540 List.mem_cons_self) (by decide +kernel)
theorem mw_556 : Jvm.Cond.code ({ cls := "Runweaver$Row", name := "unlikeKeysOfSorted", desc := "()I" } : Jvm.MethodName) prog_3_method_31_code (3 : Nat) (Option.some Jvm.ClassFile.FieldType.int) ∈ mGw := mGw_of (tV_2_541 List.mem_cons_self) (by decide +kernel)
theorem mw_557 : Jvm.Cond.methodLink "Runweaver" (279 : Nat) ({ cls := "Runweaver", name := "house", desc := "(I)I" } : Jvm.MethodName) ∈ mGw := mGw_of (tV_2_542 List.mem_cons_self) (by decide +kernel)
theorem mw_558 : Jvm.Cond.instanceMethod ({ cls := "Runweaver", name := "house", desc := "(I)I" } : Jvm.MethodName) ∈ mGw := mGw_of (tV_2_543 List.mem_cons_self) (by decide +kernel)
theorem mw_559 : Jvm.Cond.selects "Runweaver" ({ cls := "Runweaver", name := "house", desc := "(I)I" } : Jvm.MethodName) ({ cls := "Runweaver", name := "house", desc := "(I)I" } : Jvm.MethodName) ∈ mGw := mGw_of (tV_2_544 List.mem_cons_self) (by decide +kernel)
theorem mw_560 : Jvm.Cond.code ({ cls := "Runweaver", name := "house", desc := "(I)I" } : Jvm.MethodName) prog_1_method_44_code (2 : Nat) (Option.some Jvm.ClassFile.FieldType.int) ∈ mGw := mGw_of (tV_2_545 List.mem_cons_self) (by decide +kernel)
theorem mw_561 : Jvm.Cond.methodLink "Runweaver" (217 : Nat) ({ cls := "Runweaver", name := "itemsInAll", desc := "()I" } : Jvm.MethodName) ∈ mGw := mGw_of (tV_2_546 List.mem_cons_self) (by decide +kernel)
theorem mw_563 : Jvm.Cond.instanceMethod ({ cls := "Runweaver", name := "itemsInAll", desc := "()I" } : Jvm.MethodName) ∈ mGw := mGw_of (tV_2_548 List.mem_cons_self) (by decide +kernel)
theorem mw_564 : Jvm.Cond.code ({ cls := "Runweaver", name := "itemsInAll", desc := "()I" } : Jvm.MethodName) prog_1_method_63_code (3 : Nat) (Option.some Jvm.ClassFile.FieldType.int) ∈ mGw := mGw_of (tV_2_549 List.mem_cons_self) (by decide +kernel)
theorem mw_565 : Jvm.Cond.methodLink "Runweaver" (232 : Nat) ({ cls := "Runweaver", name := "sortedRows", desc := "()I" } : Jvm.MethodName) ∈ mGw := mGw_of (tV_2_550 List.mem_cons_self) (by decide +kernel)
theorem mw_567 : Jvm.Cond.instanceMethod ({ cls := "Runweaver", name := "sortedRows", desc := "()I" } : Jvm.MethodName) ∈ mGw := mGw_of (tV_2_552 List.mem_cons_self) (by decide +kernel)
theorem mw_568 : Jvm.Cond.code ({ cls := "Runweaver", name := "sortedRows", desc := "()I" } : Jvm.MethodName) prog_1_method_64_code (3 : Nat) (Option.some Jvm.ClassFile.FieldType.int) ∈ mGw := mGw_of (tV_2_553 List.mem_cons_self) (by decide +kernel)
theorem mw_570 : Jvm.Cond.methodLink "Runweaver" (282 : Nat) ({ cls := "Runweaver", name := "isSound", desc := "()Z" } : Jvm.MethodName) ∈ mGw := mGw_of (tV_2_555 List.mem_cons_self) (by decide +kernel)
theorem mw_571 : Jvm.Cond.methodLink "RunweaverLaw" (146 : Nat) ({ cls := "Runweaver", name := "would", desc := "(II)I" } : Jvm.MethodName) ∈ mGw := mGw_of (tV_2_556 List.mem_cons_self) (by decide +kernel)
theorem mw_572 : Jvm.Cond.instanceMethod ({ cls := "Runweaver", name := "would", desc := "(II)I" } : Jvm.MethodName) ∈ mGw := mGw_of (tV_2_557 List.mem_cons_self) (by decide +kernel)
theorem mw_573 : Jvm.Cond.selects "Runweaver" ({ cls := "Runweaver", name := "would", desc := "(II)I" } : Jvm.MethodName) ({ cls := "Runweaver", name := "would", desc := "(II)I" } : Jvm.MethodName) ∈ mGw := mGw_of (tV_2_558 List.mem_cons_self) (by decide +kernel)
theorem mw_574 : Jvm.Cond.code ({ cls := "Runweaver", name := "would", desc := "(II)I" } : Jvm.MethodName) prog_1_method_20_code (4 : Nat) (Option.some Jvm.ClassFile.FieldType.int) ∈ mGw := mGw_of (tV_2_559 List.mem_cons_self) (by decide +kernel)
theorem mw_575 : Jvm.Cond.methodLink "RunweaverLaw" (149 : Nat) ({ cls := "Runweaver", name := "wouldStamp", desc := "(II)I" } : Jvm.MethodName) ∈ mGw := mGw_of (tV_2_560 List.mem_cons_self) (by decide +kernel)
theorem mw_576 : Jvm.Cond.instanceMethod ({ cls := "Runweaver", name := "wouldStamp", desc := "(II)I" } : Jvm.MethodName) ∈ mGw := mGw_of (tV_2_561 List.mem_cons_self) (by decide +kernel)
theorem mw_577 : Jvm.Cond.selects "Runweaver" ({ cls := "Runweaver", name := "wouldStamp", desc := "(II)I" } : Jvm.MethodName) ({ cls := "Runweaver", name := "wouldStamp", desc := "(II)I" } : Jvm.MethodName) ∈ mGw := mGw_of (tV_2_562 List.mem_cons_self) (by decide +kernel)
theorem mw_578 : Jvm.Cond.code ({ cls := "Runweaver", name := "wouldStamp", desc := "(II)I" } : Jvm.MethodName) prog_1_method_21_code (4 : Nat) (Option.some Jvm.ClassFile.FieldType.int) ∈ mGw := mGw_of (tV_2_563 List.mem_cons_self) (by decide +kernel)
theorem mw_579 : Jvm.Cond.methodLink "RunweaverLaw" (152 : Nat) ({ cls := "Runweaver", name := "wrongAt", desc := "(II)I" } : Jvm.MethodName) ∈ mGw := mGw_of (tV_2_564 List.mem_cons_self) (by decide +kernel)
theorem mw_580 : Jvm.Cond.instanceMethod ({ cls := "Runweaver", name := "wrongAt", desc := "(II)I" } : Jvm.MethodName) ∈ mGw := mGw_of (tV_2_565 List.mem_cons_self) (by decide +kernel)
theorem mw_581 : Jvm.Cond.selects "Runweaver" ({ cls := "Runweaver", name := "wrongAt", desc := "(II)I" } : Jvm.MethodName) ({ cls := "Runweaver", name := "wrongAt", desc := "(II)I" } : Jvm.MethodName) ∈ mGw := mGw_of (tV_2_566 List.mem_cons_self) (by decide +kernel)
theorem mw_582 : Jvm.Cond.code ({ cls := "Runweaver", name := "wrongAt", desc := "(II)I" } : Jvm.MethodName) prog_1_method_22_code (4 : Nat) (Option.some Jvm.ClassFile.FieldType.int) ∈ mGw := mGw_of (tV_2_567 List.mem_cons_self) (by decide +kernel)
theorem mw_583 : Jvm.Cond.methodLink "Runweaver" (144 : Nat) ({ cls := "Runweaver$Row", name := "wrongPairsWith", desc := "(I)I" } : Jvm.MethodName) ∈ mGw := mGw_of (tV_2_568 List.mem_cons_self) (by decide +kernel)
theorem mw_584 : Jvm.Cond.instanceMethod ({ cls := "Runweaver$Row", name := "wrongPairsWith", desc := "(I)I" } : Jvm.MethodName) ∈ mGw := mGw_of (tV_2_569 List.mem_cons_self) (by decide +kernel)
theorem mw_585 : Jvm.Cond.selects "Runweaver$Row" ({ cls := "Runweaver$Row", name := "wrongPairsWith", desc := "(I)I" } : Jvm.MethodName) ({ cls := "Runweaver$Row", name := "wrongPairsWith", desc := "(I)I" } : Jvm.MethodName) ∈ mGw := mGw_of (tV_2_570 List.mem_cons_self) (by decide +kernel)
theorem mw_586 : Jvm.Cond.code ({ cls := "Runweaver$Row", name := "wrongPairsWith", desc := "(I)I" } : Jvm.MethodName) prog_3_method_17_code (5 : Nat) (Option.some Jvm.ClassFile.FieldType.int) ∈ mGw := mGw_of (tV_2_571 List.mem_cons_self) (by decide +kernel)
theorem mw_587 : Jvm.Cond.methodLink "RunweaverLaw" (155 : Nat) ({ cls := "Runweaver", name := "runAt", desc := "(II)I" } : Jvm.MethodName) ∈ mGw := mGw_of (tV_2_572 List.mem_cons_self) (by decide +kernel)
theorem mw_588 : Jvm.Cond.instanceMethod ({ cls := "Runweaver", name := "runAt", desc := "(II)I" } : Jvm.MethodName) ∈ mGw := mGw_of (tV_2_573 List.mem_cons_self) (by decide +kernel)
theorem mw_589 : Jvm.Cond.selects "Runweaver" ({ cls := "Runweaver", name := "runAt", desc := "(II)I" } : Jvm.MethodName) ({ cls := "Runweaver", name := "runAt", desc := "(II)I" } : Jvm.MethodName) ∈ mGw := mGw_of (tV_2_574 List.mem_cons_self) (by decide +kernel)
theorem mw_590 : Jvm.Cond.code ({ cls := "Runweaver", name := "runAt", desc := "(II)I" } : Jvm.MethodName) prog_1_method_24_code (4 : Nat) (Option.some Jvm.ClassFile.FieldType.int) ∈ mGw := mGw_of (tV_2_575 List.mem_cons_self) (by decide +kernel)
theorem mw_591 : Jvm.Cond.methodLink "Runweaver" (147 : Nat) ({ cls := "Runweaver$Row", name := "endOfRun", desc := "(I)I" } : Jvm.MethodName) ∈ mGw := mGw_of (tV_2_576 List.mem_cons_self) (by decide +kernel)
theorem mw_592 : Jvm.Cond.instanceMethod ({ cls := "Runweaver$Row", name := "endOfRun", desc := "(I)I" } : Jvm.MethodName) ∈ mGw := mGw_of (tV_2_577 List.mem_cons_self) (by decide +kernel)
theorem mw_593 : Jvm.Cond.selects "Runweaver$Row" ({ cls := "Runweaver$Row", name := "endOfRun", desc := "(I)I" } : Jvm.MethodName) ({ cls := "Runweaver$Row", name := "endOfRun", desc := "(I)I" } : Jvm.MethodName) ∈ mGw := mGw_of (tV_2_578 List.mem_cons_self) (by decide +kernel)
theorem mw_594 : Jvm.Cond.code ({ cls := "Runweaver$Row", name := "endOfRun", desc := "(I)I" } : Jvm.MethodName) prog_3_method_20_code (3 : Nat) (Option.some Jvm.ClassFile.FieldType.int) ∈ mGw := mGw_of (tV_2_579 List.mem_cons_self) (by decide +kernel)
theorem mw_595 : Jvm.Cond.methodLink "RunweaverLaw" (158 : Nat) ({ cls := "Runweaver", name := "longest", desc := "(I)I" } : Jvm.MethodName) ∈ mGw := mGw_of (tV_2_580 List.mem_cons_self) (by decide +kernel)
theorem mw_596 : Jvm.Cond.methodLink "RunweaverLaw" (161 : Nat) ({ cls := "Runweaver", name := "after", desc := "(II)I" } : Jvm.MethodName) ∈ mGw := mGw_of (tV_2_581 List.mem_cons_self) (by decide +kernel)
theorem mw_597 : Jvm.Cond.instanceMethod ({ cls := "Runweaver", name := "after", desc := "(II)I" } : Jvm.MethodName) ∈ mGw := mGw_of (tV_2_582 List.mem_cons_self) (by decide +kernel)
theorem mw_598 : Jvm.Cond.selects "Runweaver" ({ cls := "Runweaver", name := "after", desc := "(II)I" } : Jvm.MethodName) ({ cls := "Runweaver", name := "after", desc := "(II)I" } : Jvm.MethodName) ∈ mGw := mGw_of (tV_2_583 List.mem_cons_self) (by decide +kernel)
theorem mw_599 : Jvm.Cond.code ({ cls := "Runweaver", name := "after", desc := "(II)I" } : Jvm.MethodName) prog_1_method_23_code (4 : Nat) (Option.some Jvm.ClassFile.FieldType.int) ∈ mGw := mGw_of (tV_2_584 List.mem_cons_self) (by decide +kernel)
theorem mw_600 : Jvm.Cond.methodLink "RunweaverLaw" (164 : Nat) ({ cls := "java/lang/Math", name := "abs", desc := "(I)I" } : Jvm.MethodName) ∈ mGw := mGw_of (tV_2_585 List.mem_cons_self) (by decide +kernel)
theorem mw_601 : Jvm.Cond.static ({ cls := "java/lang/Math", name := "abs", desc := "(I)I" } : Jvm.MethodName) ∈ mGw := mGw_of (tV_2_586 List.mem_cons_self) (by decide +kernel)
theorem mw_602 : Jvm.Cond.code ({ cls := "java/lang/Math", name := "abs", desc := "(I)I" } : Jvm.MethodName) prog_12_method_59_code (1 : Nat) (Option.some Jvm.ClassFile.FieldType.int) ∈ mGw := mGw_of (tV_2_587 List.mem_cons_self) (by decide +kernel)
theorem mw_603 : Jvm.Cond.methodLink "RunweaverLaw" (169 : Nat) ({ cls := "Runweaver", name := "text", desc := "(III)Ljava/lang/String;" } : Jvm.MethodName) ∈ mGw := mGw_of (tV_2_588 List.mem_cons_self) (by decide +kernel)
theorem mw_604 : Jvm.Cond.instanceMethod ({ cls := "Runweaver", name := "text", desc := "(III)Ljava/lang/String;" } : Jvm.MethodName) ∈ mGw := mGw_of (tV_2_589 List.mem_cons_self) (by decide +kernel)
theorem mw_605 : Jvm.Cond.selects "Runweaver" ({ cls := "Runweaver", name := "text", desc := "(III)Ljava/lang/String;" } : Jvm.MethodName) ({ cls := "Runweaver", name := "text", desc := "(III)Ljava/lang/String;" } : Jvm.MethodName) ∈ mGw := mGw_of (tV_2_590 List.mem_cons_self) (by decide +kernel)
theorem mw_606 : Jvm.Cond.code ({ cls := "Runweaver", name := "text", desc := "(III)Ljava/lang/String;" } : Jvm.MethodName) prog_1_method_25_code (8 : Nat) (Option.some (Jvm.ClassFile.FieldType.object "java/lang/String")) ∈ mGw := mGw_of (tV_2_591 List.mem_cons_self) (by decide +kernel)
theorem mw_607 : Jvm.Cond.classLink "Runweaver" (156 : Nat) "java/lang/StringBuilder" ∈ mGw := mGw_of (tV_2_592 List.mem_cons_self) (by decide +kernel)
theorem mw_608 : Jvm.Cond.instantiable "java/lang/StringBuilder" (4 : Nat) ∈ mGw := mGw_of (tV_2_593 List.mem_cons_self) (by decide +kernel)
theorem mw_609 : Jvm.Cond.methodLink "Runweaver" (158 : Nat) ({ cls := "java/lang/StringBuilder", name := "<init>", desc := "()V" } : Jvm.MethodName) ∈ mGw := mGw_of (tV_2_594 List.mem_cons_self) (by decide +kernel)
theorem mw_610 : Jvm.Cond.instanceMethod ({ cls := "java/lang/StringBuilder", name := "<init>", desc := "()V" } : Jvm.MethodName) ∈ mGw := mGw_of (tV_2_595 List.mem_cons_self) (by decide +kernel)
theorem mw_611 : Jvm.Cond.code ({ cls := "java/lang/StringBuilder", name := "<init>", desc := "()V" } : Jvm.MethodName) prog_15_method_1_code (1 : Nat) (Option.none : Option Jvm.ClassFile.FieldType) ∈ mGw := mGw_of (tV_2_596 List.mem_cons_self) (by decide +kernel)
theorem mw_612 : Jvm.Cond.methodLink "java/lang/StringBuilder" (1 : Nat) ({ cls := "java/lang/AbstractStringBuilder", name := "<init>", desc := "(I)V" } : Jvm.MethodName) ∈ mGw := mGw_of (tV_2_597 List.mem_cons_self) (by decide +kernel)
theorem mw_613 : Jvm.Cond.instanceMethod ({ cls := "java/lang/AbstractStringBuilder", name := "<init>", desc := "(I)V" } : Jvm.MethodName) ∈ mGw := mGw_of (tV_2_598 List.mem_cons_self) (by decide +kernel)
theorem mw_614 : Jvm.Cond.code ({ cls := "java/lang/AbstractStringBuilder", name := "<init>", desc := "(I)V" } : Jvm.MethodName) prog_6_method_2_code (2 : Nat) (Option.none : Option Jvm.ClassFile.FieldType) ∈ mGw := mGw_of (tV_2_599 List.mem_cons_self) (by decide +kernel)
theorem mw_615 : Jvm.Cond.methodLink "java/lang/AbstractStringBuilder" (3 : Nat) ({ cls := "java/lang/Object", name := "<init>", desc := "()V" } : Jvm.MethodName) ∈ mGw := mGw_of (tV_2_600 List.mem_cons_self) (by decide +kernel)
theorem mw_616 : Jvm.Cond.fieldLink "java/lang/AbstractStringBuilder" (18 : Nat) "java/lang/String" "COMPACT_STRINGS" "Z" ∈ mGw := mGw_of (tV_2_601 List.mem_cons_self) (by decide +kernel)
theorem mw_618 : Jvm.Cond.methodLink "java/lang/AbstractStringBuilder" (26 : Nat) ({ cls := "java/lang/StringUTF16", name := "newBytesFor", desc := "(I)[B" } : Jvm.MethodName) ∈ mGw := mGw_of (tV_2_603 List.mem_cons_self) (by decide +kernel)
theorem mw_619 : Jvm.Cond.static ({ cls := "java/lang/StringUTF16", name := "newBytesFor", desc := "(I)[B" } : Jvm.MethodName) ∈ mGw := mGw_of (tV_2_604 List.mem_cons_self) (by decide +kernel)
theorem mw_620 : Jvm.Cond.code ({ cls := "java/lang/StringUTF16", name := "newBytesFor", desc := "(I)[B" } : Jvm.MethodName) prog_17_method_2_code (1 : Nat) (Option.some (Jvm.ClassFile.FieldType.array Jvm.ClassFile.FieldType.byte)) ∈ mGw := mGw_of (tV_2_605 List.mem_cons_self) (by decide +kernel)
theorem mw_621 : Jvm.Cond.methodLink "java/lang/StringUTF16" (11 : Nat) ({ cls := "java/lang/StringUTF16", name := "newBytesLength", desc := "(I)I" } : Jvm.MethodName) ∈ mGw := mGw_of (tV_2_606 List.mem_cons_self) (by decide +kernel)
theorem mw_622 : Jvm.Cond.static ({ cls := "java/lang/StringUTF16", name := "newBytesLength", desc := "(I)I" } : Jvm.MethodName) ∈ mGw := mGw_of (tV_2_607 List.mem_cons_self) (by decide +kernel)
theorem mw_623 : Jvm.Cond.code ({ cls := "java/lang/StringUTF16", name := "newBytesLength", desc := "(I)I" } : Jvm.MethodName) prog_17_method_3_code (1 : Nat) (Option.some Jvm.ClassFile.FieldType.int) ∈ mGw := mGw_of (tV_2_608 List.mem_cons_self) (by decide +kernel)
theorem mw_624 : Jvm.Cond.constant "java/lang/StringUTF16" (20 : Nat) (1073741823 : Int32) ∈ mGw := mGw_of (tV_2_609 List.mem_cons_self) (by decide +kernel)
theorem mw_625 : Jvm.Cond.fieldLink "java/lang/AbstractStringBuilder" (15 : Nat) "java/lang/AbstractStringBuilder" "value" "[B" ∈ mGw := mGw_of (tV_2_610 List.mem_cons_self) (by decide +kernel)
theorem mw_626 : Jvm.Cond.fieldLink "java/lang/AbstractStringBuilder" (22 : Nat) "java/lang/AbstractStringBuilder" "coder" "B" ∈ mGw := mGw_of (tV_2_611 List.mem_cons_self) (by decide +kernel)
theorem mw_627 : Jvm.Cond.fieldLink "java/lang/String" (1048 : Nat) "java/lang/AbstractStringBuilder" "maybeLatin1" "Z" ∈ mGw := mGw_of (tV_2_612 List.mem_cons_self) (by decide +kernel)
theorem mw_628 : Jvm.Cond.fieldLink "java/lang/AbstractStringBuilder" (79 : Nat) "java/lang/AbstractStringBuilder" "count" "I" ∈ mGw := mGw_of (tV_2_613 List.mem_cons_self) (by decide +kernel)
theorem mw_637 : Jvm.Cond.superclass "java/lang/StringBuilder" "java/lang/AbstractStringBuilder" ∈ mGw := mGw_of (tV_2_622 List.mem_cons_self) (by decide +kernel)
theorem mw_638 : Jvm.Cond.methodLink "Runweaver" (159 : Nat) ({ cls := "java/lang/StringBuilder", name := "append", desc := "(C)Ljava/lang/StringBuilder;" } : Jvm.MethodName) ∈ mGw := mGw_of (tV_2_623 List.mem_cons_self) (by decide +kernel)
theorem mw_639 : Jvm.Cond.instanceMethod ({ cls := "java/lang/StringBuilder", name := "append", desc := "(C)Ljava/lang/StringBuilder;" } : Jvm.MethodName) ∈ mGw := mGw_of (tV_2_624 List.mem_cons_self) (by decide +kernel)
theorem mw_640 : Jvm.Cond.selects "java/lang/StringBuilder" ({ cls := "java/lang/StringBuilder", name := "append", desc := "(C)Ljava/lang/StringBuilder;" } : Jvm.MethodName) ({ cls := "java/lang/StringBuilder", name := "append", desc := "(C)Ljava/lang/StringBuilder;" } : Jvm.MethodName) ∈ mGw := mGw_of (tV_2_625 List.mem_cons_self) (by decide +kernel)
theorem mw_641 : Jvm.Cond.code ({ cls := "java/lang/StringBuilder", name := "append", desc := "(C)Ljava/lang/StringBuilder;" } : Jvm.MethodName) prog_15_method_14_code (2 : Nat) (Option.some (Jvm.ClassFile.FieldType.object "java/lang/StringBuilder")) ∈ mGw := mGw_of (tV_2_626 List.mem_cons_self) (by decide +kernel)
theorem mw_642 : Jvm.Cond.methodLink "java/lang/StringBuilder" (50 : Nat) ({ cls := "java/lang/AbstractStringBuilder", name := "append", desc := "(C)Ljava/lang/AbstractStringBuilder;" } : Jvm.MethodName) ∈ mGw := mGw_of (tV_2_627 List.mem_cons_self) (by decide +kernel)
theorem mw_643 : Jvm.Cond.instanceMethod ({ cls := "java/lang/AbstractStringBuilder", name := "append", desc := "(C)Ljava/lang/AbstractStringBuilder;" } : Jvm.MethodName) ∈ mGw := mGw_of (tV_2_628 List.mem_cons_self) (by decide +kernel)
theorem mw_644 : Jvm.Cond.code ({ cls := "java/lang/AbstractStringBuilder", name := "append", desc := "(C)Ljava/lang/AbstractStringBuilder;" } : Jvm.MethodName) prog_6_method_31_code (2 : Nat) (Option.some (Jvm.ClassFile.FieldType.object "java/lang/AbstractStringBuilder")) ∈ mGw := mGw_of (tV_2_629 List.mem_cons_self) (by decide +kernel)
theorem mw_645 : Jvm.Cond.methodLink "java/lang/AbstractStringBuilder" (100 : Nat) ({ cls := "java/lang/AbstractStringBuilder", name := "ensureCapacityInternal", desc := "(I)V" } : Jvm.MethodName) ∈ mGw := mGw_of (tV_2_630 List.mem_cons_self) (by decide +kernel)
theorem mw_647 : Jvm.Cond.instanceMethod ({ cls := "java/lang/AbstractStringBuilder", name := "ensureCapacityInternal", desc := "(I)V" } : Jvm.MethodName) ∈ mGw := mGw_of (tV_2_632 List.mem_cons_self) (by decide +kernel)
theorem mw_648 : Jvm.Cond.code ({ cls := "java/lang/AbstractStringBuilder", name := "ensureCapacityInternal", desc := "(I)V" } : Jvm.MethodName) prog_6_method_9_code (3 : Nat) (Option.none : Option Jvm.ClassFile.FieldType) ∈ mGw := mGw_of (tV_2_633 List.mem_cons_self) (by decide +kernel)
theorem mw_649 : Jvm.Cond.methodLink "java/lang/AbstractStringBuilder" (104 : Nat) ({ cls := "java/lang/AbstractStringBuilder", name := "newCapacity", desc := "(I)I" } : Jvm.MethodName) ∈ mGw := mGw_of (tV_2_634 List.mem_cons_self) (by decide +kernel)
theorem mw_651 : Jvm.Cond.instanceMethod ({ cls := "java/lang/AbstractStringBuilder", name := "newCapacity", desc := "(I)I" } : Jvm.MethodName) ∈ mGw := mGw_of (tV_2_636 List.mem_cons_self) (by decide +kernel)
theorem mw_652 : Jvm.Cond.code ({ cls := "java/lang/AbstractStringBuilder", name := "newCapacity", desc := "(I)I" } : Jvm.MethodName) prog_6_method_10_code (6 : Nat) (Option.some Jvm.ClassFile.FieldType.int) ∈ mGw := mGw_of (tV_2_637 List.mem_cons_self) (by decide +kernel)
theorem mw_653 : Jvm.Cond.methodLink "java/lang/AbstractStringBuilder" (114 : Nat) ({ cls := "jdk/internal/util/ArraysSupport", name := "newLength", desc := "(III)I" } : Jvm.MethodName) ∈ mGw := mGw_of (tV_2_638 List.mem_cons_self) (by decide +kernel)
theorem mw_654 : Jvm.Cond.static ({ cls := "jdk/internal/util/ArraysSupport", name := "newLength", desc := "(III)I" } : Jvm.MethodName) ∈ mGw := mGw_of (tV_2_639 List.mem_cons_self) (by decide +kernel)
theorem mw_655 : Jvm.Cond.code ({ cls := "jdk/internal/util/ArraysSupport", name := "newLength", desc := "(III)I" } : Jvm.MethodName) prog_21_method_27_code (4 : Nat) (Option.some Jvm.ClassFile.FieldType.int) ∈ mGw := mGw_of (tV_2_640 List.mem_cons_self) (by decide +kernel)
theorem mw_656 : Jvm.Cond.methodLink "jdk/internal/util/ArraysSupport" (194 : Nat) ({ cls := "java/lang/Math", name := "max", desc := "(II)I" } : Jvm.MethodName) ∈ mGw := mGw_of (tV_2_641 List.mem_cons_self) (by decide +kernel)
theorem mw_657 : Jvm.Cond.constant "jdk/internal/util/ArraysSupport" (200 : Nat) (2147483639 : Int32) ∈ mGw := mGw_of (tV_2_642 List.mem_cons_self) (by decide +kernel)
theorem mw_658 : Jvm.Cond.methodLink "jdk/internal/util/ArraysSupport" (201 : Nat) ({ cls := "jdk/internal/util/ArraysSupport", name := "hugeLength", desc := "(II)I" } : Jvm.MethodName) ∈ mGw := mGw_of (tV_2_643 List.mem_cons_self) (by decide +kernel)
theorem mw_659 : Jvm.Cond.static ({ cls := "jdk/internal/util/ArraysSupport", name := "hugeLength", desc := "(II)I" } : Jvm.MethodName) ∈ mGw := mGw_of (tV_2_644 List.mem_cons_self) (by decide +kernel)
theorem mw_660 : Jvm.Cond.code ({ cls := "jdk/internal/util/ArraysSupport", name := "hugeLength", desc := "(II)I" } : Jvm.MethodName) prog_21_method_28_code (3 : Nat) (Option.some Jvm.ClassFile.FieldType.int) ∈ mGw := mGw_of (tV_2_645 List.mem_cons_self) (by decide +kernel)
theorem mw_661 : Jvm.Cond.constant "java/lang/AbstractStringBuilder" (39 : Nat) (2147483647 : Int32) ∈ mGw := mGw_of (tV_2_646 List.mem_cons_self) (by decide +kernel)
theorem mw_662 : Jvm.Cond.methodLink "java/lang/AbstractStringBuilder" (108 : Nat) ({ cls := "java/util/Arrays", name := "copyOf", desc := "([BI)[B" } : Jvm.MethodName) ∈ mGw := mGw_of (tV_2_647 List.mem_cons_self) (by decide +kernel)
theorem mw_663 : Jvm.Cond.static ({ cls := "java/util/Arrays", name := "copyOf", desc := "([BI)[B" } : Jvm.MethodName) ∈ mGw := mGw_of (tV_2_648 List.mem_cons_self) (by decide +kernel)
theorem mw_664 : Jvm.Cond.code ({ cls := "java/util/Arrays", name := "copyOf", desc := "([BI)[B" } : Jvm.MethodName) prog_20_method_121_code (3 : Nat) (Option.some (Jvm.ClassFile.FieldType.array Jvm.ClassFile.FieldType.byte)) ∈ mGw := mGw_of (tV_2_649 List.mem_cons_self) (by decide +kernel)
theorem mw_665 : Jvm.Cond.methodLink "java/util/Arrays" (310 : Nat) ({ cls := "[B", name := "clone", desc := "()Ljava/lang/Object;" } : Jvm.MethodName) ∈ mGw := mGw_of (tV_2_650 List.mem_cons_self) (by decide +kernel)
theorem mw_666 : Jvm.Cond.sameMethod "[B" "java/lang/Object" "clone" "()Ljava/lang/Object;" ∈ mGw := mGw_of (tV_2_651 List.mem_cons_self) (by decide +kernel)
theorem mw_667 : Jvm.Cond.native ({ cls := "java/lang/Object", name := "clone", desc := "()Ljava/lang/Object;" } : Jvm.MethodName) ∈ mGw := mGw_of (tV_2_652 List.mem_cons_self) (by decide +kernel)
theorem mw_668 : Jvm.Cond.instanceMethod ({ cls := "java/lang/Object", name := "clone", desc := "()Ljava/lang/Object;" } : Jvm.MethodName) ∈ mGw := mGw_of (tV_2_653 List.mem_cons_self) (by decide +kernel)
theorem mw_669 : Jvm.Cond.selects "[B" ({ cls := "[B", name := "clone", desc := "()Ljava/lang/Object;" } : Jvm.MethodName) ({ cls := "java/lang/Object", name := "clone", desc := "()Ljava/lang/Object;" } : Jvm.MethodName) ∈ mGw := mGw_of (tV_2_654 List.mem_cons_self) (by decide +kernel)
theorem mw_670 : Jvm.Cond.castable "[B" "java/lang/Cloneable" ∈ mNw := List.mem_filter.mpr ⟨tV_2_655 List.mem_cons_self, rfl⟩
theorem mw_671 : Jvm.Cond.classLink "java/util/Arrays" (311 : Nat) "[B" ∈ mGw := mGw_of (tV_2_656 List.mem_cons_self) (by decide +kernel)
theorem mw_672 : Jvm.Cond.methodLink "java/util/Arrays" (304 : Nat) ({ cls := "java/lang/Math", name := "min", desc := "(II)I" } : Jvm.MethodName) ∈ mGw := mGw_of (tV_2_657 List.mem_cons_self) (by decide +kernel)
theorem mw_673 : Jvm.Cond.methodLink "java/util/Arrays" (150 : Nat) ({ cls := "java/lang/System", name := "arraycopy", desc := "(Ljava/lang/Object;ILjava/lang/Object;II)V" } : Jvm.MethodName) ∈ mGw := mGw_of (tV_2_658 List.mem_cons_self) (by decide +kernel)
theorem mw_674 : Jvm.Cond.methodLink "java/lang/AbstractStringBuilder" (83 : Nat) ({ cls := "java/lang/AbstractStringBuilder", name := "isLatin1", desc := "()Z" } : Jvm.MethodName) ∈ mGw := mGw_of (tV_2_659 List.mem_cons_self) (by decide +kernel)
theorem mw_675 : Jvm.Cond.instanceMethod ({ cls := "java/lang/AbstractStringBuilder", name := "isLatin1", desc := "()Z" } : Jvm.MethodName) ∈ mGw := mGw_of (tV_2_660 List.mem_cons_self) (by decide +kernel)
theorem mw_676 : Jvm.Cond.sameMethod "java/lang/AbstractStringBuilder" "java/lang/AbstractStringBuilder" "isLatin1" "()Z" ∈ mGw := mGw_of (tV_2_661 List.mem_cons_self) (by decide +kernel)
theorem mw_677 : Jvm.Cond.selects "java/lang/StringBuilder" ({ cls := "java/lang/AbstractStringBuilder", name := "isLatin1", desc := "()Z" } : Jvm.MethodName) ({ cls := "java/lang/AbstractStringBuilder", name := "isLatin1", desc := "()Z" } : Jvm.MethodName) ∈ mGw := mGw_of (tV_2_662 List.mem_cons_self) (by decide +kernel)
theorem mw_678 : Jvm.Cond.code ({ cls := "java/lang/AbstractStringBuilder", name := "isLatin1", desc := "()Z" } : Jvm.MethodName) prog_6_method_68_code (1 : Nat) (Option.some Jvm.ClassFile.FieldType.boolean) ∈ mGw := mGw_of (tV_2_663 List.mem_cons_self) (by decide +kernel)
theorem mw_679 : Jvm.Cond.methodLink "java/lang/AbstractStringBuilder" (191 : Nat) ({ cls := "java/lang/StringLatin1", name := "canEncode", desc := "(C)Z" } : Jvm.MethodName) ∈ mGw := mGw_of (tV_2_664 List.mem_cons_self) (by decide +kernel)
theorem mw_680 : Jvm.Cond.static ({ cls := "java/lang/StringLatin1", name := "canEncode", desc := "(C)Z" } : Jvm.MethodName) ∈ mGw := mGw_of (tV_2_665 List.mem_cons_self) (by decide +kernel)
theorem mw_681 : Jvm.Cond.code ({ cls := "java/lang/StringLatin1", name := "canEncode", desc := "(C)Z" } : Jvm.MethodName) prog_16_method_3_code (1 : Nat) (Option.some Jvm.ClassFile.FieldType.boolean) ∈ mGw := mGw_of (tV_2_666 List.mem_cons_self) (by decide +kernel)
theorem mw_682 : Jvm.Cond.methodLink "java/lang/AbstractStringBuilder" (195 : Nat) ({ cls := "java/lang/AbstractStringBuilder", name := "inflate", desc := "()V" } : Jvm.MethodName) ∈ mGw := mGw_of (tV_2_667 List.mem_cons_self) (by decide +kernel)
theorem mw_684 : Jvm.Cond.instanceMethod ({ cls := "java/lang/AbstractStringBuilder", name := "inflate", desc := "()V" } : Jvm.MethodName) ∈ mGw := mGw_of (tV_2_669 List.mem_cons_self) (by decide +kernel)
theorem mw_685 : Jvm.Cond.code ({ cls := "java/lang/AbstractStringBuilder", name := "inflate", desc := "()V" } : Jvm.MethodName) prog_6_method_11_code (2 : Nat) (Option.none : Option Jvm.ClassFile.FieldType) ∈ mGw := mGw_of (tV_2_670 List.mem_cons_self) (by decide +kernel)
theorem mw_686 : Jvm.Cond.methodLink "java/lang/AbstractStringBuilder" (125 : Nat) ({ cls := "java/lang/StringLatin1", name := "inflate", desc := "([BI[BII)V" } : Jvm.MethodName) ∈ mGw := mGw_of (tV_2_671 List.mem_cons_self) (by decide +kernel)
theorem mw_687 : Jvm.Cond.static ({ cls := "java/lang/StringLatin1", name := "inflate", desc := "([BI[BII)V" } : Jvm.MethodName) ∈ mGw := mGw_of (tV_2_672 List.mem_cons_self) (by decide +kernel)
theorem mw_688 : Jvm.Cond.code ({ cls := "java/lang/StringLatin1", name := "inflate", desc := "([BI[BII)V" } : Jvm.MethodName) prog_16_method_50_code (5 : Nat) (Option.none : Option Jvm.ClassFile.FieldType) ∈ mGw := mGw_of (tV_2_673 List.mem_cons_self) (by decide +kernel)
theorem mw_689 : Jvm.Cond.methodLink "java/lang/StringLatin1" (240 : Nat) ({ cls := "java/lang/StringUTF16", name := "inflate", desc := "([BI[BII)V" } : Jvm.MethodName) ∈ mGw := mGw_of (tV_2_674 List.mem_cons_self) (by decide +kernel)
theorem mw_690 : Jvm.Cond.static ({ cls := "java/lang/StringUTF16", name := "inflate", desc := "([BI[BII)V" } : Jvm.MethodName) ∈ mGw := mGw_of (tV_2_675 List.mem_cons_self) (by decide +kernel)
theorem mw_691 : Jvm.Cond.code ({ cls := "java/lang/StringUTF16", name := "inflate", desc := "([BI[BII)V" } : Jvm.MethodName) prog_17_method_86_code (6 : Nat) (Option.none : Option Jvm.ClassFile.FieldType) ∈ mGw := mGw_of (tV_2_676 List.mem_cons_self) (by decide +kernel)
theorem mw_692 : Jvm.Cond.methodLink "java/lang/StringUTF16" (173 : Nat) ({ cls := "java/lang/StringUTF16", name := "checkBoundsOffCount", desc := "(II[B)V" } : Jvm.MethodName) ∈ mGw := mGw_of (tV_2_677 List.mem_cons_self) (by decide +kernel)
theorem mw_693 : Jvm.Cond.static ({ cls := "java/lang/StringUTF16", name := "checkBoundsOffCount", desc := "(II[B)V" } : Jvm.MethodName) ∈ mGw := mGw_of (tV_2_678 List.mem_cons_self) (by decide +kernel)
theorem mw_694 : Jvm.Cond.code ({ cls := "java/lang/StringUTF16", name := "checkBoundsOffCount", desc := "(II[B)V" } : Jvm.MethodName) prog_17_method_94_code (3 : Nat) (Option.none : Option Jvm.ClassFile.FieldType) ∈ mGw := mGw_of (tV_2_679 List.mem_cons_self) (by decide +kernel)
theorem mw_695 : Jvm.Cond.methodLink "java/lang/StringUTF16" (48 : Nat) ({ cls := "java/lang/StringUTF16", name := "length", desc := "([B)I" } : Jvm.MethodName) ∈ mGw := mGw_of (tV_2_680 List.mem_cons_self) (by decide +kernel)
theorem mw_696 : Jvm.Cond.static ({ cls := "java/lang/StringUTF16", name := "length", desc := "([B)I" } : Jvm.MethodName) ∈ mGw := mGw_of (tV_2_681 List.mem_cons_self) (by decide +kernel)
theorem mw_697 : Jvm.Cond.code ({ cls := "java/lang/StringUTF16", name := "length", desc := "([B)I" } : Jvm.MethodName) prog_17_method_6_code (1 : Nat) (Option.some Jvm.ClassFile.FieldType.int) ∈ mGw := mGw_of (tV_2_682 List.mem_cons_self) (by decide +kernel)
theorem mw_698 : Jvm.Cond.methodLink "java/lang/StringUTF16" (419 : Nat) ({ cls := "java/lang/String", name := "checkBoundsOffCount", desc := "(III)I" } : Jvm.MethodName) ∈ mGw := mGw_of (tV_2_683 List.mem_cons_self) (by decide +kernel)
theorem mw_699 : Jvm.Cond.static ({ cls := "java/lang/String", name := "checkBoundsOffCount", desc := "(III)I" } : Jvm.MethodName) ∈ mGw := mGw_of (tV_2_684 List.mem_cons_self) (by decide +kernel)
theorem mw_700 : Jvm.Cond.code ({ cls := "java/lang/String", name := "checkBoundsOffCount", desc := "(III)I" } : Jvm.MethodName) prog_14_method_157_code (3 : Nat) (Option.some Jvm.ClassFile.FieldType.int) ∈ mGw := mGw_of (tV_2_685 List.mem_cons_self) (by decide +kernel)
theorem mw_701 : Jvm.Cond.fieldLink "java/lang/String" (1053 : Nat) "jdk/internal/util/Preconditions" "SIOOBE_FORMATTER" "Ljava/util/function/BiFunction;" ∈ mGw := mGw_of (tV_2_686 List.mem_cons_self) (by decide +kernel)
theorem mw_703 : Jvm.Cond.methodLink "java/lang/String" (1065 : Nat) ({ cls := "jdk/internal/util/Preconditions", name := "checkFromIndexSize", desc := "(IIILjava/util/function/BiFunction;)I" } : Jvm.MethodName) ∈ mGw := mGw_of (tV_2_688 List.mem_cons_self) (by decide +kernel)
theorem mw_704 : Jvm.Cond.static ({ cls := "jdk/internal/util/Preconditions", name := "checkFromIndexSize", desc := "(IIILjava/util/function/BiFunction;)I" } : Jvm.MethodName) ∈ mGw := mGw_of (tV_2_689 List.mem_cons_self) (by decide +kernel)
theorem mw_705 : Jvm.Cond.code ({ cls := "jdk/internal/util/Preconditions", name := "checkFromIndexSize", desc := "(IIILjava/util/function/BiFunction;)I" } : Jvm.MethodName) prog_22_method_13_code (4 : Nat) (Option.some Jvm.ClassFile.FieldType.int) ∈ mGw := mGw_of (tV_2_690 List.mem_cons_self) (by decide +kernel)
theorem mw_706 : Jvm.Cond.methodLink "java/lang/StringUTF16" (111 : Nat) ({ cls := "java/lang/StringUTF16", name := "putChar", desc := "([BII)V" } : Jvm.MethodName) ∈ mGw := mGw_of (tV_2_691 List.mem_cons_self) (by decide +kernel)
theorem mw_707 : Jvm.Cond.static ({ cls := "java/lang/StringUTF16", name := "putChar", desc := "([BII)V" } : Jvm.MethodName) ∈ mGw := mGw_of (tV_2_692 List.mem_cons_self) (by decide +kernel)
theorem mw_708 : Jvm.Cond.code ({ cls := "java/lang/StringUTF16", name := "putChar", desc := "([BII)V" } : Jvm.MethodName) prog_17_method_4_code (3 : Nat) (Option.none : Option Jvm.ClassFile.FieldType) ∈ mGw := mGw_of (tV_2_693 List.mem_cons_self) (by decide +kernel)
theorem mw_709 : Jvm.Cond.fieldLink "java/lang/StringUTF16" (44 : Nat) "java/lang/StringUTF16" "$assertionsDisabled" "Z" ∈ mGw := mGw_of (tV_2_694 List.mem_cons_self) (by decide +kernel)
theorem mw_711 : Jvm.Cond.fieldLink "java/lang/StringUTF16" (59 : Nat) "java/lang/StringUTF16" "HI_BYTE_SHIFT" "I" ∈ mGw := mGw_of (tV_2_696 List.mem_cons_self) (by decide +kernel)
theorem mw_713 : Jvm.Cond.fieldLink "java/lang/StringUTF16" (63 : Nat) "java/lang/StringUTF16" "LO_BYTE_SHIFT" "I" ∈ mGw := mGw_of (tV_2_698 List.mem_cons_self) (by decide +kernel)
theorem mw_715 : Jvm.Cond.methodLink "java/lang/AbstractStringBuilder" (197 : Nat) ({ cls := "java/lang/StringUTF16", name := "putCharSB", desc := "([BII)V" } : Jvm.MethodName) ∈ mGw := mGw_of (tV_2_700 List.mem_cons_self) (by decide +kernel)
theorem mw_716 : Jvm.Cond.static ({ cls := "java/lang/StringUTF16", name := "putCharSB", desc := "([BII)V" } : Jvm.MethodName) ∈ mGw := mGw_of (tV_2_701 List.mem_cons_self) (by decide +kernel)
theorem mw_717 : Jvm.Cond.code ({ cls := "java/lang/StringUTF16", name := "putCharSB", desc := "([BII)V" } : Jvm.MethodName) prog_17_method_71_code (3 : Nat) (Option.none : Option Jvm.ClassFile.FieldType) ∈ mGw := mGw_of (tV_2_702 List.mem_cons_self) (by decide +kernel)
theorem mw_718 : Jvm.Cond.methodLink "java/lang/StringUTF16" (67 : Nat) ({ cls := "java/lang/StringUTF16", name := "checkIndex", desc := "(I[B)V" } : Jvm.MethodName) ∈ mGw := mGw_of (tV_2_703 List.mem_cons_self) (by decide +kernel)
theorem mw_719 : Jvm.Cond.static ({ cls := "java/lang/StringUTF16", name := "checkIndex", desc := "(I[B)V" } : Jvm.MethodName) ∈ mGw := mGw_of (tV_2_704 List.mem_cons_self) (by decide +kernel)
theorem mw_720 : Jvm.Cond.code ({ cls := "java/lang/StringUTF16", name := "checkIndex", desc := "(I[B)V" } : Jvm.MethodName) prog_17_method_91_code (2 : Nat) (Option.none : Option Jvm.ClassFile.FieldType) ∈ mGw := mGw_of (tV_2_705 List.mem_cons_self) (by decide +kernel)
theorem mw_721 : Jvm.Cond.methodLink "java/lang/StringUTF16" (414 : Nat) ({ cls := "java/lang/String", name := "checkIndex", desc := "(II)V" } : Jvm.MethodName) ∈ mGw := mGw_of (tV_2_706 List.mem_cons_self) (by decide +kernel)
theorem mw_722 : Jvm.Cond.static ({ cls := "java/lang/String", name := "checkIndex", desc := "(II)V" } : Jvm.MethodName) ∈ mGw := mGw_of (tV_2_707 List.mem_cons_self) (by decide +kernel)
theorem mw_723 : Jvm.Cond.code ({ cls := "java/lang/String", name := "checkIndex", desc := "(II)V" } : Jvm.MethodName) prog_14_method_155_code (2 : Nat) (Option.none : Option Jvm.ClassFile.FieldType) ∈ mGw := mGw_of (tV_2_708 List.mem_cons_self) (by decide +kernel)
theorem mw_724 : Jvm.Cond.methodLink "java/lang/String" (1059 : Nat) ({ cls := "jdk/internal/util/Preconditions", name := "checkIndex", desc := "(IILjava/util/function/BiFunction;)I" } : Jvm.MethodName) ∈ mGw := mGw_of (tV_2_709 List.mem_cons_self) (by decide +kernel)
theorem mw_725 : Jvm.Cond.static ({ cls := "jdk/internal/util/Preconditions", name := "checkIndex", desc := "(IILjava/util/function/BiFunction;)I" } : Jvm.MethodName) ∈ mGw := mGw_of (tV_2_710 List.mem_cons_self) (by decide +kernel)
theorem mw_726 : Jvm.Cond.code ({ cls := "jdk/internal/util/Preconditions", name := "checkIndex", desc := "(IILjava/util/function/BiFunction;)I" } : Jvm.MethodName) prog_22_method_11_code (3 : Nat) (Option.some Jvm.ClassFile.FieldType.int) ∈ mGw := mGw_of (tV_2_711 List.mem_cons_self) (by decide +kernel)
theorem mw_727 : Jvm.Cond.methodLink "Runweaver" (162 : Nat) ({ cls := "java/lang/StringBuilder", name := "append", desc := "(I)Ljava/lang/StringBuilder;" } : Jvm.MethodName) ∈ mGw := mGw_of (tV_2_712 List.mem_cons_self) (by decide +kernel)
theorem mw_728 : Jvm.Cond.instanceMethod ({ cls := "java/lang/StringBuilder", name := "append", desc := "(I)Ljava/lang/StringBuilder;" } : Jvm.MethodName) ∈ mGw := mGw_of (tV_2_713 List.mem_cons_self) (by decide +kernel)
theorem mw_729 : Jvm.Cond.selects "java/lang/StringBuilder" ({ cls := "java/lang/StringBuilder", name := "append", desc := "(I)Ljava/lang/StringBuilder;" } : Jvm.MethodName) ({ cls := "java/lang/StringBuilder", name := "append", desc := "(I)Ljava/lang/StringBuilder;" } : Jvm.MethodName) ∈ mGw := mGw_of (tV_2_714 List.mem_cons_self) (by decide +kernel)
theorem mw_730 : Jvm.Cond.code ({ cls := "java/lang/StringBuilder", name := "append", desc := "(I)Ljava/lang/StringBuilder;" } : Jvm.MethodName) prog_15_method_15_code (2 : Nat) (Option.some (Jvm.ClassFile.FieldType.object "java/lang/StringBuilder")) ∈ mGw := mGw_of (tV_2_715 List.mem_cons_self) (by decide +kernel)
theorem mw_731 : Jvm.Cond.methodLink "java/lang/StringBuilder" (53 : Nat) ({ cls := "java/lang/AbstractStringBuilder", name := "append", desc := "(I)Ljava/lang/AbstractStringBuilder;" } : Jvm.MethodName) ∈ mGw := mGw_of (tV_2_716 List.mem_cons_self) (by decide +kernel)
theorem mw_732 : Jvm.Cond.instanceMethod ({ cls := "java/lang/AbstractStringBuilder", name := "append", desc := "(I)Ljava/lang/AbstractStringBuilder;" } : Jvm.MethodName) ∈ mGw := mGw_of (tV_2_717 List.mem_cons_self) (by decide +kernel)
theorem mw_733 : Jvm.Cond.code ({ cls := "java/lang/AbstractStringBuilder", name := "append", desc := "(I)Ljava/lang/AbstractStringBuilder;" } : Jvm.MethodName) prog_6_method_32_code (4 : Nat) (Option.some (Jvm.ClassFile.FieldType.object "java/lang/AbstractStringBuilder")) ∈ mGw := mGw_of (tV_2_718 List.mem_cons_self) (by decide +kernel)
theorem mw_734 : Jvm.Cond.methodLink "java/lang/AbstractStringBuilder" (245 : Nat) ({ cls := "java/lang/Integer", name := "stringSize", desc := "(I)I" } : Jvm.MethodName) ∈ mGw := mGw_of (tV_2_719 List.mem_cons_self) (by decide +kernel)
theorem mw_735 : Jvm.Cond.static ({ cls := "java/lang/Integer", name := "stringSize", desc := "(I)I" } : Jvm.MethodName) ∈ mGw := mGw_of (tV_3_720 List.mem_cons_self) (by decide +kernel)
theorem mw_736 : Jvm.Cond.code ({ cls := "java/lang/Integer", name := "stringSize", desc := "(I)I" } : Jvm.MethodName) prog_11_method_13_code (4 : Nat) (Option.some Jvm.ClassFile.FieldType.int) ∈ mGw := mGw_of (tV_3_721 List.mem_cons_self) (by decide +kernel)
theorem mw_737 : Jvm.Cond.methodLink "java/lang/AbstractStringBuilder" (248 : Nat) ({ cls := "java/lang/Integer", name := "getChars", desc := "(II[B)I" } : Jvm.MethodName) ∈ mGw := mGw_of (tV_3_722 List.mem_cons_self) (by decide +kernel)
theorem mw_738 : Jvm.Cond.static ({ cls := "java/lang/Integer", name := "getChars", desc := "(II[B)I" } : Jvm.MethodName) ∈ mGw := mGw_of (tV_3_723 List.mem_cons_self) (by decide +kernel)
theorem mw_739 : Jvm.Cond.code ({ cls := "java/lang/Integer", name := "getChars", desc := "(II[B)I" } : Jvm.MethodName) prog_11_method_12_code (7 : Nat) (Option.some Jvm.ClassFile.FieldType.int) ∈ mGw := mGw_of (tV_3_724 List.mem_cons_self) (by decide +kernel)
theorem mw_740 : Jvm.Cond.fieldLink "java/lang/Integer" (83 : Nat) "java/lang/Integer" "DigitOnes" "[B" ∈ mGw := mGw_of (tV_3_725 List.mem_cons_self) (by decide +kernel)
theorem mw_742 : Jvm.Cond.fieldLink "java/lang/Integer" (87 : Nat) "java/lang/Integer" "DigitTens" "[B" ∈ mGw := mGw_of (tV_3_727 List.mem_cons_self) (by decide +kernel)
theorem mw_744 : Jvm.Cond.methodLink "java/lang/AbstractStringBuilder" (251 : Nat) ({ cls := "java/lang/StringUTF16", name := "getChars", desc := "(III[B)I" } : Jvm.MethodName) ∈ mGw := mGw_of (tV_3_729 List.mem_cons_self) (by decide +kernel)
theorem mw_745 : Jvm.Cond.static ({ cls := "java/lang/StringUTF16", name := "getChars", desc := "(III[B)I" } : Jvm.MethodName) ∈ mGw := mGw_of (tV_3_730 List.mem_cons_self) (by decide +kernel)
theorem mw_746 : Jvm.Cond.code ({ cls := "java/lang/StringUTF16", name := "getChars", desc := "(III[B)I" } : Jvm.MethodName) prog_17_method_77_code (5 : Nat) (Option.some Jvm.ClassFile.FieldType.int) ∈ mGw := mGw_of (tV_3_731 List.mem_cons_self) (by decide +kernel)
theorem mw_747 : Jvm.Cond.methodLink "java/lang/StringUTF16" (96 : Nat) ({ cls := "java/lang/StringUTF16", name := "checkBoundsBeginEnd", desc := "(II[B)V" } : Jvm.MethodName) ∈ mGw := mGw_of (tV_3_732 List.mem_cons_self) (by decide +kernel)
theorem mw_748 : Jvm.Cond.static ({ cls := "java/lang/StringUTF16", name := "checkBoundsBeginEnd", desc := "(II[B)V" } : Jvm.MethodName) ∈ mGw := mGw_of (tV_3_733 List.mem_cons_self) (by decide +kernel)
theorem mw_749 : Jvm.Cond.code ({ cls := "java/lang/StringUTF16", name := "checkBoundsBeginEnd", desc := "(II[B)V" } : Jvm.MethodName) prog_17_method_93_code (3 : Nat) (Option.none : Option Jvm.ClassFile.FieldType) ∈ mGw := mGw_of (tV_3_734 List.mem_cons_self) (by decide +kernel)
theorem mw_750 : Jvm.Cond.methodLink "java/lang/StringUTF16" (241 : Nat) ({ cls := "java/lang/String", name := "checkBoundsBeginEnd", desc := "(III)V" } : Jvm.MethodName) ∈ mGw := mGw_of (tV_3_735 List.mem_cons_self) (by decide +kernel)
theorem mw_751 : Jvm.Cond.static ({ cls := "java/lang/String", name := "checkBoundsBeginEnd", desc := "(III)V" } : Jvm.MethodName) ∈ mGw := mGw_of (tV_3_736 List.mem_cons_self) (by decide +kernel)
theorem mw_752 : Jvm.Cond.code ({ cls := "java/lang/String", name := "checkBoundsBeginEnd", desc := "(III)V" } : Jvm.MethodName) prog_14_method_158_code (3 : Nat) (Option.none : Option Jvm.ClassFile.FieldType) ∈ mGw := mGw_of (tV_3_737 List.mem_cons_self) (by decide +kernel)
theorem mw_753 : Jvm.Cond.methodLink "java/lang/String" (1062 : Nat) ({ cls := "jdk/internal/util/Preconditions", name := "checkFromToIndex", desc := "(IIILjava/util/function/BiFunction;)I" } : Jvm.MethodName) ∈ mGw := mGw_of (tV_3_738 List.mem_cons_self) (by decide +kernel)
theorem mw_754 : Jvm.Cond.static ({ cls := "jdk/internal/util/Preconditions", name := "checkFromToIndex", desc := "(IIILjava/util/function/BiFunction;)I" } : Jvm.MethodName) ∈ mGw := mGw_of (tV_3_739 List.mem_cons_self) (by decide +kernel)
theorem mw_755 : Jvm.Cond.code ({ cls := "jdk/internal/util/Preconditions", name := "checkFromToIndex", desc := "(IIILjava/util/function/BiFunction;)I" } : Jvm.MethodName) prog_22_method_12_code (4 : Nat) (Option.some Jvm.ClassFile.FieldType.int) ∈ mGw := mGw_of (tV_3_740 List.mem_cons_self) (by decide +kernel)
theorem mw_756 : Jvm.Cond.methodLink "java/lang/StringUTF16" (393 : Nat) ({ cls := "java/lang/StringUTF16", name := "getChars", desc := "(II[B)I" } : Jvm.MethodName) ∈ mGw := mGw_of (tV_3_741 List.mem_cons_self) (by decide +kernel)
theorem mw_757 : Jvm.Cond.static ({ cls := "java/lang/StringUTF16", name := "getChars", desc := "(II[B)I" } : Jvm.MethodName) ∈ mGw := mGw_of (tV_3_742 List.mem_cons_self) (by decide +kernel)
theorem mw_758 : Jvm.Cond.code ({ cls := "java/lang/StringUTF16", name := "getChars", desc := "(II[B)I" } : Jvm.MethodName) prog_17_method_89_code (7 : Nat) (Option.some Jvm.ClassFile.FieldType.int) ∈ mGw := mGw_of (tV_3_743 List.mem_cons_self) (by decide +kernel)
theorem mw_759 : Jvm.Cond.fieldLink "java/lang/StringUTF16" (403 : Nat) "java/lang/Integer" "DigitOnes" "[B" ∈ mGw := mGw_of (tV_3_744 List.mem_cons_self) (by decide +kernel)
theorem mw_760 : Jvm.Cond.fieldLink "java/lang/StringUTF16" (407 : Nat) "java/lang/Integer" "DigitTens" "[B" ∈ mGw := mGw_of (tV_3_745 List.mem_cons_self) (by decide +kernel)
theorem mw_761 : Jvm.Cond.methodLink "Runweaver" (165 : Nat) ({ cls := "java/lang/StringBuilder", name := "toString", desc := "()Ljava/lang/String;" } : Jvm.MethodName) ∈ mGw := mGw_of (tV_3_746 List.mem_cons_self) (by decide +kernel)
theorem mw_762 : Jvm.Cond.instanceMethod ({ cls := "java/lang/StringBuilder", name := "toString", desc := "()Ljava/lang/String;" } : Jvm.MethodName) ∈ mGw := mGw_of (tV_3_747 List.mem_cons_self) (by decide +kernel)
theorem mw_763 : Jvm.Cond.selects "java/lang/StringBuilder" ({ cls := "java/lang/StringBuilder", name := "toString", desc := "()Ljava/lang/String;" } : Jvm.MethodName) ({ cls := "java/lang/StringBuilder", name := "toString", desc := "()Ljava/lang/String;" } : Jvm.MethodName) ∈ mGw := mGw_of (tV_3_748 List.mem_cons_self) (by decide +kernel)
theorem mw_764 : Jvm.Cond.code ({ cls := "java/lang/StringBuilder", name := "toString", desc := "()Ljava/lang/String;" } : Jvm.MethodName) prog_15_method_42_code (1 : Nat) (Option.some (Jvm.ClassFile.FieldType.object "java/lang/String")) ∈ mGw := mGw_of (tV_3_749 List.mem_cons_self) (by decide +kernel)
theorem mw_765 : Jvm.Cond.classLink "java/lang/StringBuilder" (18 : Nat) "java/lang/String" ∈ mGw := mGw_of (tV_3_750 List.mem_cons_self) (by decide +kernel)
theorem mw_766 : Jvm.Cond.instantiable "java/lang/String" (4 : Nat) ∈ mGw := mGw_of (tV_3_751 List.mem_cons_self) (by decide +kernel)
theorem mw_767 : Jvm.Cond.methodLink "java/lang/StringBuilder" (137 : Nat) ({ cls := "java/lang/String", name := "<init>", desc := "(Ljava/lang/StringBuilder;)V" } : Jvm.MethodName) ∈ mGw := mGw_of (tV_3_752 List.mem_cons_self) (by decide +kernel)
theorem mw_768 : Jvm.Cond.instanceMethod ({ cls := "java/lang/String", name := "<init>", desc := "(Ljava/lang/StringBuilder;)V" } : Jvm.MethodName) ∈ mGw := mGw_of (tV_3_753 List.mem_cons_self) (by decide +kernel)
theorem mw_769 : Jvm.Cond.code ({ cls := "java/lang/String", name := "<init>", desc := "(Ljava/lang/StringBuilder;)V" } : Jvm.MethodName) prog_14_method_53_code (2 : Nat) (Option.none : Option Jvm.ClassFile.FieldType) ∈ mGw := mGw_of (tV_3_754 List.mem_cons_self) (by decide +kernel)
theorem mw_770 : Jvm.Cond.methodLink "java/lang/String" (489 : Nat) ({ cls := "java/lang/String", name := "<init>", desc := "(Ljava/lang/AbstractStringBuilder;Ljava/lang/Void;)V" } : Jvm.MethodName) ∈ mGw := mGw_of (tV_3_755 List.mem_cons_self) (by decide +kernel)
theorem mw_771 : Jvm.Cond.instanceMethod ({ cls := "java/lang/String", name := "<init>", desc := "(Ljava/lang/AbstractStringBuilder;Ljava/lang/Void;)V" } : Jvm.MethodName) ∈ mGw := mGw_of (tV_3_756 List.mem_cons_self) (by decide +kernel)
theorem mw_772 : Jvm.Cond.code ({ cls := "java/lang/String", name := "<init>", desc := "(Ljava/lang/AbstractStringBuilder;Ljava/lang/Void;)V" } : Jvm.MethodName) prog_14_method_150_code (5 : Nat) (Option.none : Option Jvm.ClassFile.FieldType) ∈ mGw := mGw_of (tV_3_757 List.mem_cons_self) (by decide +kernel)
theorem mw_773 : Jvm.Cond.methodLink "java/lang/String" (1 : Nat) ({ cls := "java/lang/Object", name := "<init>", desc := "()V" } : Jvm.MethodName) ∈ mGw := mGw_of (tV_3_758 List.mem_cons_self) (by decide +kernel)
theorem mw_774 : Jvm.Cond.methodLink "java/lang/String" (552 : Nat) ({ cls := "java/lang/AbstractStringBuilder", name := "getValue", desc := "()[B" } : Jvm.MethodName) ∈ mGw := mGw_of (tV_3_759 List.mem_cons_self) (by decide +kernel)
theorem mw_775 : Jvm.Cond.instanceMethod ({ cls := "java/lang/AbstractStringBuilder", name := "getValue", desc := "()[B" } : Jvm.MethodName) ∈ mGw := mGw_of (tV_3_760 List.mem_cons_self) (by decide +kernel)
theorem mw_776 : Jvm.Cond.sameMethod "java/lang/AbstractStringBuilder" "java/lang/AbstractStringBuilder" "getValue" "()[B" ∈ mGw := mGw_of (tV_3_761 List.mem_cons_self) (by decide +kernel)
theorem mw_777 : Jvm.Cond.selects "java/lang/StringBuilder" ({ cls := "java/lang/AbstractStringBuilder", name := "getValue", desc := "()[B" } : Jvm.MethodName) ({ cls := "java/lang/AbstractStringBuilder", name := "getValue", desc := "()[B" } : Jvm.MethodName) ∈ mGw := mGw_of (tV_3_762 List.mem_cons_self) (by decide +kernel)
theorem mw_778 : Jvm.Cond.code ({ cls := "java/lang/AbstractStringBuilder", name := "getValue", desc := "()[B" } : Jvm.MethodName) prog_6_method_64_code (1 : Nat) (Option.some (Jvm.ClassFile.FieldType.array Jvm.ClassFile.FieldType.byte)) ∈ mGw := mGw_of (tV_3_763 List.mem_cons_self) (by decide +kernel)
theorem mw_779 : Jvm.Cond.methodLink "java/lang/String" (549 : Nat) ({ cls := "java/lang/AbstractStringBuilder", name := "length", desc := "()I" } : Jvm.MethodName) ∈ mGw := mGw_of (tV_3_764 List.mem_cons_self) (by decide +kernel)
theorem mw_780 : Jvm.Cond.instanceMethod ({ cls := "java/lang/AbstractStringBuilder", name := "length", desc := "()I" } : Jvm.MethodName) ∈ mGw := mGw_of (tV_3_765 List.mem_cons_self) (by decide +kernel)
theorem mw_781 : Jvm.Cond.sameMethod "java/lang/AbstractStringBuilder" "java/lang/AbstractStringBuilder" "length" "()I" ∈ mGw := mGw_of (tV_3_766 List.mem_cons_self) (by decide +kernel)
theorem mw_782 : Jvm.Cond.selects "java/lang/StringBuilder" ({ cls := "java/lang/AbstractStringBuilder", name := "length", desc := "()I" } : Jvm.MethodName) ({ cls := "java/lang/StringBuilder", name := "length", desc := "()I" } : Jvm.MethodName) ∈ mGw := mGw_of (tV_3_767 List.mem_cons_self) (by decide +kernel)
theorem mw_783 : Jvm.Cond.instanceMethod ({ cls := "java/lang/StringBuilder", name := "length", desc := "()I" } : Jvm.MethodName) ∈ mGw := mGw_of (tV_3_768 List.mem_cons_self) (by decide +kernel)
theorem mw_784 : Jvm.Cond.code ({ cls := "java/lang/StringBuilder", name := "length", desc := "()I" } : Jvm.MethodName) prog_15_method_93_code (1 : Nat) (Option.some Jvm.ClassFile.FieldType.int) ∈ mGw := mGw_of (tV_3_769 List.mem_cons_self) (by decide +kernel)
theorem mw_785 : Jvm.Cond.methodLink "java/lang/StringBuilder" (343 : Nat) ({ cls := "java/lang/AbstractStringBuilder", name := "length", desc := "()I" } : Jvm.MethodName) ∈ mGw := mGw_of (tV_3_770 List.mem_cons_self) (by decide +kernel)
theorem mw_786 : Jvm.Cond.code ({ cls := "java/lang/AbstractStringBuilder", name := "length", desc := "()I" } : Jvm.MethodName) prog_6_method_6_code (1 : Nat) (Option.some Jvm.ClassFile.FieldType.int) ∈ mGw := mGw_of (tV_3_771 List.mem_cons_self) (by decide +kernel)
theorem mw_787 : Jvm.Cond.methodLink "java/lang/String" (1047 : Nat) ({ cls := "java/lang/AbstractStringBuilder", name := "isLatin1", desc := "()Z" } : Jvm.MethodName) ∈ mGw := mGw_of (tV_3_772 List.mem_cons_self) (by decide +kernel)
theorem mw_788 : Jvm.Cond.methodLink "java/lang/String" (54 : Nat) ({ cls := "java/util/Arrays", name := "copyOfRange", desc := "([BII)[B" } : Jvm.MethodName) ∈ mGw := mGw_of (tV_3_773 List.mem_cons_self) (by decide +kernel)
theorem mw_789 : Jvm.Cond.static ({ cls := "java/util/Arrays", name := "copyOfRange", desc := "([BII)[B" } : Jvm.MethodName) ∈ mGw := mGw_of (tV_3_774 List.mem_cons_self) (by decide +kernel)
theorem mw_790 : Jvm.Cond.code ({ cls := "java/util/Arrays", name := "copyOfRange", desc := "([BII)[B" } : Jvm.MethodName) prog_20_method_132_code (3 : Nat) (Option.some (Jvm.ClassFile.FieldType.array Jvm.ClassFile.FieldType.byte)) ∈ mGw := mGw_of (tV_3_775 List.mem_cons_self) (by decide +kernel)
theorem mw_791 : Jvm.Cond.methodLink "java/util/Arrays" (339 : Nat) ({ cls := "java/util/Arrays", name := "copyOfRangeByte", desc := "([BII)[B" } : Jvm.MethodName) ∈ mGw := mGw_of (tV_3_776 List.mem_cons_self) (by decide +kernel)
theorem mw_792 : Jvm.Cond.static ({ cls := "java/util/Arrays", name := "copyOfRangeByte", desc := "([BII)[B" } : Jvm.MethodName) ∈ mGw := mGw_of (tV_3_777 List.mem_cons_self) (by decide +kernel)
theorem mw_793 : Jvm.Cond.code ({ cls := "java/util/Arrays", name := "copyOfRangeByte", desc := "([BII)[B" } : Jvm.MethodName) prog_20_method_133_code (5 : Nat) (Option.some (Jvm.ClassFile.FieldType.array Jvm.ClassFile.FieldType.byte)) ∈ mGw := mGw_of (tV_3_778 List.mem_cons_self) (by decide +kernel)
theorem mw_794 : Jvm.Cond.methodLink "java/util/Arrays" (343 : Nat) ({ cls := "java/util/Arrays", name := "checkLength", desc := "(II)V" } : Jvm.MethodName) ∈ mGw := mGw_of (tV_3_779 List.mem_cons_self) (by decide +kernel)
theorem mw_795 : Jvm.Cond.static ({ cls := "java/util/Arrays", name := "checkLength", desc := "(II)V" } : Jvm.MethodName) ∈ mGw := mGw_of (tV_3_780 List.mem_cons_self) (by decide +kernel)
theorem mw_796 : Jvm.Cond.code ({ cls := "java/util/Arrays", name := "checkLength", desc := "(II)V" } : Jvm.MethodName) prog_20_method_131_code (2 : Nat) (Option.none : Option Jvm.ClassFile.FieldType) ∈ mGw := mGw_of (tV_3_781 List.mem_cons_self) (by decide +kernel)
theorem mw_797 : Jvm.Cond.classLink "java/util/Arrays" (43 : Nat) "java/lang/IllegalArgumentException" ∈ mGw := mGw_of (tV_3_782 List.mem_cons_self) (by decide +kernel)
theorem mw_798 : Jvm.Cond.classLink "java/util/Arrays" (45 : Nat) "java/lang/StringBuilder" ∈ mGw := mGw_of (tV_3_783 List.mem_cons_self) (by decide +kernel)
theorem mw_799 : Jvm.Cond.methodLink "java/util/Arrays" (47 : Nat) ({ cls := "java/lang/StringBuilder", name := "<init>", desc := "()V" } : Jvm.MethodName) ∈ mGw := mGw_of (tV_3_784 List.mem_cons_self) (by decide +kernel)
theorem mw_800 : Jvm.Cond.methodLink "java/util/Arrays" (54 : Nat) ({ cls := "java/lang/StringBuilder", name := "append", desc := "(I)Ljava/lang/StringBuilder;" } : Jvm.MethodName) ∈ mGw := mGw_of (tV_3_785 List.mem_cons_self) (by decide +kernel)
theorem mw_802 : Jvm.Cond.methodLink "java/util/Arrays" (50 : Nat) ({ cls := "java/lang/StringBuilder", name := "append", desc := "(Ljava/lang/String;)Ljava/lang/StringBuilder;" } : Jvm.MethodName) ∈ mGw := mGw_of (tV_3_787 List.mem_cons_self) (by decide +kernel)
theorem mw_803 : Jvm.Cond.instanceMethod ({ cls := "java/lang/StringBuilder", name := "append", desc := "(Ljava/lang/String;)Ljava/lang/StringBuilder;" } : Jvm.MethodName) ∈ mGw := mGw_of (tV_3_788 List.mem_cons_self) (by decide +kernel)
theorem mw_804 : Jvm.Cond.selects "java/lang/StringBuilder" ({ cls := "java/lang/StringBuilder", name := "append", desc := "(Ljava/lang/String;)Ljava/lang/StringBuilder;" } : Jvm.MethodName) ({ cls := "java/lang/StringBuilder", name := "append", desc := "(Ljava/lang/String;)Ljava/lang/StringBuilder;" } : Jvm.MethodName) ∈ mGw := mGw_of (tV_3_789 List.mem_cons_self) (by decide +kernel)
theorem mw_805 : Jvm.Cond.code ({ cls := "java/lang/StringBuilder", name := "append", desc := "(Ljava/lang/String;)Ljava/lang/StringBuilder;" } : Jvm.MethodName) prog_15_method_7_code (2 : Nat) (Option.some (Jvm.ClassFile.FieldType.object "java/lang/StringBuilder")) ∈ mGw := mGw_of (tV_3_790 List.mem_cons_self) (by decide +kernel)
theorem mw_806 : Jvm.Cond.methodLink "java/lang/StringBuilder" (29 : Nat) ({ cls := "java/lang/AbstractStringBuilder", name := "append", desc := "(Ljava/lang/String;)Ljava/lang/AbstractStringBuilder;" } : Jvm.MethodName) ∈ mGw := mGw_of (tV_3_791 List.mem_cons_self) (by decide +kernel)
theorem mw_807 : Jvm.Cond.instanceMethod ({ cls := "java/lang/AbstractStringBuilder", name := "append", desc := "(Ljava/lang/String;)Ljava/lang/AbstractStringBuilder;" } : Jvm.MethodName) ∈ mGw := mGw_of (tV_3_792 List.mem_cons_self) (by decide +kernel)
theorem mw_808 : Jvm.Cond.code ({ cls := "java/lang/AbstractStringBuilder", name := "append", desc := "(Ljava/lang/String;)Ljava/lang/AbstractStringBuilder;" } : Jvm.MethodName) prog_6_method_22_code (3 : Nat) (Option.some (Jvm.ClassFile.FieldType.object "java/lang/AbstractStringBuilder")) ∈ mGw := mGw_of (tV_3_793 List.mem_cons_self) (by decide +kernel)
theorem mw_809 : Jvm.Cond.methodLink "java/lang/AbstractStringBuilder" (204 : Nat) ({ cls := "java/lang/AbstractStringBuilder", name := "appendNull", desc := "()Ljava/lang/AbstractStringBuilder;" } : Jvm.MethodName) ∈ mGw := mGw_of (tV_3_794 List.mem_cons_self) (by decide +kernel)
theorem mw_811 : Jvm.Cond.instanceMethod ({ cls := "java/lang/AbstractStringBuilder", name := "appendNull", desc := "()Ljava/lang/AbstractStringBuilder;" } : Jvm.MethodName) ∈ mGw := mGw_of (tV_3_796 List.mem_cons_self) (by decide +kernel)
theorem mw_812 : Jvm.Cond.code ({ cls := "java/lang/AbstractStringBuilder", name := "appendNull", desc := "()Ljava/lang/AbstractStringBuilder;" } : Jvm.MethodName) prog_6_method_26_code (3 : Nat) (Option.some (Jvm.ClassFile.FieldType.object "java/lang/AbstractStringBuilder")) ∈ mGw := mGw_of (tV_3_797 List.mem_cons_self) (by decide +kernel)
theorem mw_813 : Jvm.Cond.methodLink "java/lang/AbstractStringBuilder" (226 : Nat) ({ cls := "java/lang/StringUTF16", name := "putCharsAt", desc := "([BICCCC)I" } : Jvm.MethodName) ∈ mGw := mGw_of (tV_3_798 List.mem_cons_self) (by decide +kernel)
theorem mw_814 : Jvm.Cond.static ({ cls := "java/lang/StringUTF16", name := "putCharsAt", desc := "([BICCCC)I" } : Jvm.MethodName) ∈ mGw := mGw_of (tV_3_799 List.mem_cons_self) (by decide +kernel)
theorem mw_815 : Jvm.Cond.code ({ cls := "java/lang/StringUTF16", name := "putCharsAt", desc := "([BICCCC)I" } : Jvm.MethodName) prog_17_method_81_code (7 : Nat) (Option.some Jvm.ClassFile.FieldType.int) ∈ mGw := mGw_of (tV_3_800 List.mem_cons_self) (by decide +kernel)
theorem mw_816 : Jvm.Cond.methodLink "java/lang/AbstractStringBuilder" (32 : Nat) ({ cls := "java/lang/String", name := "length", desc := "()I" } : Jvm.MethodName) ∈ mGw := mGw_of (tV_3_801 List.mem_cons_self) (by decide +kernel)
theorem mw_817 : Jvm.Cond.instanceMethod ({ cls := "java/lang/String", name := "length", desc := "()I" } : Jvm.MethodName) ∈ mGw := mGw_of (tV_3_802 List.mem_cons_self) (by decide +kernel)
theorem mw_818 : Jvm.Cond.selects "java/lang/String" ({ cls := "java/lang/String", name := "length", desc := "()I" } : Jvm.MethodName) ({ cls := "java/lang/String", name := "length", desc := "()I" } : Jvm.MethodName) ∈ mGw := mGw_of (tV_3_803 List.mem_cons_self) (by decide +kernel)
theorem mw_819 : Jvm.Cond.code ({ cls := "java/lang/String", name := "length", desc := "()I" } : Jvm.MethodName) prog_14_method_54_code (1 : Nat) (Option.some Jvm.ClassFile.FieldType.int) ∈ mGw := mGw_of (tV_3_804 List.mem_cons_self) (by decide +kernel)
theorem mw_820 : Jvm.Cond.methodLink "java/lang/String" (335 : Nat) ({ cls := "java/lang/String", name := "coder", desc := "()B" } : Jvm.MethodName) ∈ mGw := mGw_of (tV_3_805 List.mem_cons_self) (by decide +kernel)
theorem mw_821 : Jvm.Cond.instanceMethod ({ cls := "java/lang/String", name := "coder", desc := "()B" } : Jvm.MethodName) ∈ mGw := mGw_of (tV_3_806 List.mem_cons_self) (by decide +kernel)
theorem mw_822 : Jvm.Cond.selects "java/lang/String" ({ cls := "java/lang/String", name := "coder", desc := "()B" } : Jvm.MethodName) ({ cls := "java/lang/String", name := "coder", desc := "()B" } : Jvm.MethodName) ∈ mGw := mGw_of (tV_3_807 List.mem_cons_self) (by decide +kernel)
theorem mw_823 : Jvm.Cond.code ({ cls := "java/lang/String", name := "coder", desc := "()B" } : Jvm.MethodName) prog_14_method_152_code (1 : Nat) (Option.some Jvm.ClassFile.FieldType.byte) ∈ mGw := mGw_of (tV_3_808 List.mem_cons_self) (by decide +kernel)
theorem mw_824 : Jvm.Cond.fieldLink "java/lang/String" (38 : Nat) "java/lang/String" "COMPACT_STRINGS" "Z" ∈ mGw := mGw_of (tV_3_809 List.mem_cons_self) (by decide +kernel)
theorem mw_825 : Jvm.Cond.methodLink "java/lang/AbstractStringBuilder" (208 : Nat) ({ cls := "java/lang/AbstractStringBuilder", name := "putStringAt", desc := "(ILjava/lang/String;)V" } : Jvm.MethodName) ∈ mGw := mGw_of (tV_3_810 List.mem_cons_self) (by decide +kernel)
theorem mw_827 : Jvm.Cond.instanceMethod ({ cls := "java/lang/AbstractStringBuilder", name := "putStringAt", desc := "(ILjava/lang/String;)V" } : Jvm.MethodName) ∈ mGw := mGw_of (tV_3_812 List.mem_cons_self) (by decide +kernel)
theorem mw_828 : Jvm.Cond.code ({ cls := "java/lang/AbstractStringBuilder", name := "putStringAt", desc := "(ILjava/lang/String;)V" } : Jvm.MethodName) prog_6_method_73_code (3 : Nat) (Option.none : Option Jvm.ClassFile.FieldType) ∈ mGw := mGw_of (tV_3_813 List.mem_cons_self) (by decide +kernel)
theorem mw_829 : Jvm.Cond.methodLink "java/lang/AbstractStringBuilder" (397 : Nat) ({ cls := "java/lang/AbstractStringBuilder", name := "inflateIfNeededFor", desc := "(Ljava/lang/String;)V" } : Jvm.MethodName) ∈ mGw := mGw_of (tV_3_814 List.mem_cons_self) (by decide +kernel)
theorem mw_831 : Jvm.Cond.instanceMethod ({ cls := "java/lang/AbstractStringBuilder", name := "inflateIfNeededFor", desc := "(Ljava/lang/String;)V" } : Jvm.MethodName) ∈ mGw := mGw_of (tV_3_816 List.mem_cons_self) (by decide +kernel)
theorem mw_832 : Jvm.Cond.code ({ cls := "java/lang/AbstractStringBuilder", name := "inflateIfNeededFor", desc := "(Ljava/lang/String;)V" } : Jvm.MethodName) prog_6_method_71_code (2 : Nat) (Option.none : Option Jvm.ClassFile.FieldType) ∈ mGw := mGw_of (tV_3_817 List.mem_cons_self) (by decide +kernel)
theorem mw_833 : Jvm.Cond.methodLink "java/lang/AbstractStringBuilder" (40 : Nat) ({ cls := "java/lang/String", name := "coder", desc := "()B" } : Jvm.MethodName) ∈ mGw := mGw_of (tV_3_818 List.mem_cons_self) (by decide +kernel)
theorem mw_834 : Jvm.Cond.methodLink "java/lang/AbstractStringBuilder" (399 : Nat) ({ cls := "java/lang/String", name := "getBytes", desc := "([BIB)V" } : Jvm.MethodName) ∈ mGw := mGw_of (tV_3_819 List.mem_cons_self) (by decide +kernel)
theorem mw_835 : Jvm.Cond.instanceMethod ({ cls := "java/lang/String", name := "getBytes", desc := "([BIB)V" } : Jvm.MethodName) ∈ mGw := mGw_of (tV_3_820 List.mem_cons_self) (by decide +kernel)
theorem mw_836 : Jvm.Cond.selects "java/lang/String" ({ cls := "java/lang/String", name := "getBytes", desc := "([BIB)V" } : Jvm.MethodName) ({ cls := "java/lang/String", name := "getBytes", desc := "([BIB)V" } : Jvm.MethodName) ∈ mGw := mGw_of (tV_3_821 List.mem_cons_self) (by decide +kernel)
theorem mw_837 : Jvm.Cond.code ({ cls := "java/lang/String", name := "getBytes", desc := "([BIB)V" } : Jvm.MethodName) prog_14_method_147_code (4 : Nat) (Option.none : Option Jvm.ClassFile.FieldType) ∈ mGw := mGw_of (tV_3_822 List.mem_cons_self) (by decide +kernel)
theorem mw_838 : Jvm.Cond.methodLink "java/lang/String" (212 : Nat) ({ cls := "java/lang/System", name := "arraycopy", desc := "(Ljava/lang/Object;ILjava/lang/Object;II)V" } : Jvm.MethodName) ∈ mGw := mGw_of (tV_3_823 List.mem_cons_self) (by decide +kernel)
theorem mw_839 : Jvm.Cond.methodLink "java/lang/String" (106 : Nat) ({ cls := "java/lang/StringLatin1", name := "inflate", desc := "([BI[BII)V" } : Jvm.MethodName) ∈ mGw := mGw_of (tV_3_824 List.mem_cons_self) (by decide +kernel)
theorem mw_840 : Jvm.Cond.methodLink "java/util/Arrays" (61 : Nat) ({ cls := "java/lang/StringBuilder", name := "toString", desc := "()Ljava/lang/String;" } : Jvm.MethodName) ∈ mGw := mGw_of (tV_3_825 List.mem_cons_self) (by decide +kernel)
theorem mw_841 : Jvm.Cond.methodLink "java/util/Arrays" (65 : Nat) ({ cls := "java/lang/IllegalArgumentException", name := "<init>", desc := "(Ljava/lang/String;)V" } : Jvm.MethodName) ∈ mGw := mGw_of (tV_3_826 List.mem_cons_self) (by decide +kernel)
theorem mw_842 : Jvm.Cond.methodLink "java/lang/String" (1051 : Nat) ({ cls := "java/lang/StringUTF16", name := "compress", desc := "([BII)[B" } : Jvm.MethodName) ∈ mGw := mGw_of (tV_3_827 List.mem_cons_self) (by decide +kernel)
theorem mw_843 : Jvm.Cond.static ({ cls := "java/lang/StringUTF16", name := "compress", desc := "([BII)[B" } : Jvm.MethodName) ∈ mGw := mGw_of (tV_3_828 List.mem_cons_self) (by decide +kernel)
theorem mw_844 : Jvm.Cond.code ({ cls := "java/lang/StringUTF16", name := "compress", desc := "([BII)[B" } : Jvm.MethodName) prog_17_method_17_code (6 : Nat) (Option.some (Jvm.ClassFile.FieldType.array Jvm.ClassFile.FieldType.byte)) ∈ mGw := mGw_of (tV_3_829 List.mem_cons_self) (by decide +kernel)
theorem mw_845 : Jvm.Cond.methodLink "java/lang/StringUTF16" (123 : Nat) ({ cls := "java/lang/StringUTF16", name := "compress", desc := "([BI[BII)I" } : Jvm.MethodName) ∈ mGw := mGw_of (tV_3_830 List.mem_cons_self) (by decide +kernel)
theorem mw_846 : Jvm.Cond.static ({ cls := "java/lang/StringUTF16", name := "compress", desc := "([BI[BII)I" } : Jvm.MethodName) ∈ mGw := mGw_of (tV_3_831 List.mem_cons_self) (by decide +kernel)
theorem mw_847 : Jvm.Cond.code ({ cls := "java/lang/StringUTF16", name := "compress", desc := "([BI[BII)I" } : Jvm.MethodName) prog_17_method_22_code (7 : Nat) (Option.some Jvm.ClassFile.FieldType.int) ∈ mGw := mGw_of (tV_3_832 List.mem_cons_self) (by decide +kernel)
theorem mw_848 : Jvm.Cond.methodLink "java/lang/StringUTF16" (71 : Nat) ({ cls := "java/lang/StringUTF16", name := "getChar", desc := "([BI)C" } : Jvm.MethodName) ∈ mGw := mGw_of (tV_3_833 List.mem_cons_self) (by decide +kernel)
theorem mw_849 : Jvm.Cond.static ({ cls := "java/lang/StringUTF16", name := "getChar", desc := "([BI)C" } : Jvm.MethodName) ∈ mGw := mGw_of (tV_3_834 List.mem_cons_self) (by decide +kernel)
theorem mw_850 : Jvm.Cond.code ({ cls := "java/lang/StringUTF16", name := "getChar", desc := "([BI)C" } : Jvm.MethodName) prog_17_method_5_code (2 : Nat) (Option.some Jvm.ClassFile.FieldType.char) ∈ mGw := mGw_of (tV_3_835 List.mem_cons_self) (by decide +kernel)
theorem mw_851 : Jvm.Cond.methodLink "java/lang/StringUTF16" (126 : Nat) ({ cls := "java/util/Arrays", name := "copyOfRange", desc := "([BII)[B" } : Jvm.MethodName) ∈ mGw := mGw_of (tV_3_836 List.mem_cons_self) (by decide +kernel)
theorem mw_852 : Jvm.Cond.methodLink "java/lang/String" (47 : Nat) ({ cls := "java/lang/StringUTF16", name := "coderFromArrayLen", desc := "([BI)B" } : Jvm.MethodName) ∈ mGw := mGw_of (tV_3_837 List.mem_cons_self) (by decide +kernel)
theorem mw_853 : Jvm.Cond.static ({ cls := "java/lang/StringUTF16", name := "coderFromArrayLen", desc := "([BI)B" } : Jvm.MethodName) ∈ mGw := mGw_of (tV_3_838 List.mem_cons_self) (by decide +kernel)
theorem mw_854 : Jvm.Cond.code ({ cls := "java/lang/StringUTF16", name := "coderFromArrayLen", desc := "([BI)B" } : Jvm.MethodName) prog_17_method_15_code (2 : Nat) (Option.some Jvm.ClassFile.FieldType.byte) ∈ mGw := mGw_of (tV_3_839 List.mem_cons_self) (by decide +kernel)
theorem mw_855 : Jvm.Cond.fieldLink "java/lang/String" (9 : Nat) "java/lang/String" "value" "[B" ∈ mGw := mGw_of (tV_3_840 List.mem_cons_self) (by decide +kernel)
theorem mw_856 : Jvm.Cond.fieldLink "java/lang/String" (15 : Nat) "java/lang/String" "coder" "B" ∈ mGw := mGw_of (tV_3_841 List.mem_cons_self) (by decide +kernel)
theorem mw_865 : Jvm.Cond.superclass "java/lang/String" "java/lang/Object" ∈ mGw := mGw_of (tV_3_850 List.mem_cons_self) (by decide +kernel)
theorem mw_866 : Jvm.Cond.methodLink "RunweaverLaw" (173 : Nat) ({ cls := "java/lang/String", name := "isEmpty", desc := "()Z" } : Jvm.MethodName) ∈ mGw := mGw_of (tV_3_851 List.mem_cons_self) (by decide +kernel)
theorem mw_867 : Jvm.Cond.instanceMethod ({ cls := "java/lang/String", name := "isEmpty", desc := "()Z" } : Jvm.MethodName) ∈ mGw := mGw_of (tV_3_852 List.mem_cons_self) (by decide +kernel)
theorem mw_868 : Jvm.Cond.selects "java/lang/String" ({ cls := "java/lang/String", name := "isEmpty", desc := "()Z" } : Jvm.MethodName) ({ cls := "java/lang/String", name := "isEmpty", desc := "()Z" } : Jvm.MethodName) ∈ mGw := mGw_of (tV_3_853 List.mem_cons_self) (by decide +kernel)
theorem mw_869 : Jvm.Cond.code ({ cls := "java/lang/String", name := "isEmpty", desc := "()Z" } : Jvm.MethodName) prog_14_method_55_code (1 : Nat) (Option.some Jvm.ClassFile.FieldType.boolean) ∈ mGw := mGw_of (tV_3_854 List.mem_cons_self) (by decide +kernel)
theorem mw_870 : Jvm.Cond.methodLink "RunweaverLaw" (178 : Nat) ({ cls := "Runweaver", name := "unlike", desc := "(I)I" } : Jvm.MethodName) ∈ mGw := mGw_of (tV_3_855 List.mem_cons_self) (by decide +kernel)
theorem mw_871 : Jvm.Cond.methodLink "RunweaverLaw" (181 : Nat) ({ cls := "Runweaver", name := "count", desc := "(II)I" } : Jvm.MethodName) ∈ mGw := mGw_of (tV_3_856 List.mem_cons_self) (by decide +kernel)
theorem mw_872 : Jvm.Cond.instanceMethod ({ cls := "Runweaver", name := "count", desc := "(II)I" } : Jvm.MethodName) ∈ mGw := mGw_of (tV_3_857 List.mem_cons_self) (by decide +kernel)
theorem mw_873 : Jvm.Cond.selects "Runweaver" ({ cls := "Runweaver", name := "count", desc := "(II)I" } : Jvm.MethodName) ({ cls := "Runweaver", name := "count", desc := "(II)I" } : Jvm.MethodName) ∈ mGw := mGw_of (tV_3_858 List.mem_cons_self) (by decide +kernel)
theorem mw_874 : Jvm.Cond.code ({ cls := "Runweaver", name := "count", desc := "(II)I" } : Jvm.MethodName) prog_1_method_34_code (4 : Nat) (Option.some Jvm.ClassFile.FieldType.int) ∈ mGw := mGw_of (tV_3_859 List.mem_cons_self) (by decide +kernel)
theorem mw_875 : Jvm.Cond.methodLink "Runweaver" (190 : Nat) ({ cls := "Runweaver$Row", name := "itemsWith", desc := "(I)I" } : Jvm.MethodName) ∈ mGw := mGw_of (tV_3_860 List.mem_cons_self) (by decide +kernel)
theorem mw_876 : Jvm.Cond.instanceMethod ({ cls := "Runweaver$Row", name := "itemsWith", desc := "(I)I" } : Jvm.MethodName) ∈ mGw := mGw_of (tV_3_861 List.mem_cons_self) (by decide +kernel)
theorem mw_877 : Jvm.Cond.selects "Runweaver$Row" ({ cls := "Runweaver$Row", name := "itemsWith", desc := "(I)I" } : Jvm.MethodName) ({ cls := "Runweaver$Row", name := "itemsWith", desc := "(I)I" } : Jvm.MethodName) ∈ mGw := mGw_of (tV_3_862 List.mem_cons_self) (by decide +kernel)
theorem mw_878 : Jvm.Cond.code ({ cls := "Runweaver$Row", name := "itemsWith", desc := "(I)I" } : Jvm.MethodName) prog_3_method_23_code (4 : Nat) (Option.some Jvm.ClassFile.FieldType.int) ∈ mGw := mGw_of (tV_3_863 List.mem_cons_self) (by decide +kernel)
theorem mw_879 : Jvm.Cond.constant "RunweaverLaw" (184 : Nat) (99999 : Int32) ∈ mGw := mGw_of (tV_3_864 List.mem_cons_self) (by decide +kernel)
theorem mw_880 : Jvm.Cond.methodLink "RunweaverLaw" (185 : Nat) ({ cls := "Runweaver", name := "below", desc := "(II)I" } : Jvm.MethodName) ∈ mGw := mGw_of (tV_3_865 List.mem_cons_self) (by decide +kernel)
theorem mw_881 : Jvm.Cond.instanceMethod ({ cls := "Runweaver", name := "below", desc := "(II)I" } : Jvm.MethodName) ∈ mGw := mGw_of (tV_3_866 List.mem_cons_self) (by decide +kernel)
theorem mw_882 : Jvm.Cond.selects "Runweaver" ({ cls := "Runweaver", name := "below", desc := "(II)I" } : Jvm.MethodName) ({ cls := "Runweaver", name := "below", desc := "(II)I" } : Jvm.MethodName) ∈ mGw := mGw_of (tV_3_867 List.mem_cons_self) (by decide +kernel)
theorem mw_883 : Jvm.Cond.code ({ cls := "Runweaver", name := "below", desc := "(II)I" } : Jvm.MethodName) prog_1_method_35_code (4 : Nat) (Option.some Jvm.ClassFile.FieldType.int) ∈ mGw := mGw_of (tV_3_868 List.mem_cons_self) (by decide +kernel)
theorem mw_884 : Jvm.Cond.methodLink "Runweaver" (193 : Nat) ({ cls := "Runweaver$Row", name := "itemsBelow", desc := "(I)I" } : Jvm.MethodName) ∈ mGw := mGw_of (tV_3_869 List.mem_cons_self) (by decide +kernel)
theorem mw_885 : Jvm.Cond.instanceMethod ({ cls := "Runweaver$Row", name := "itemsBelow", desc := "(I)I" } : Jvm.MethodName) ∈ mGw := mGw_of (tV_3_870 List.mem_cons_self) (by decide +kernel)
theorem mw_886 : Jvm.Cond.selects "Runweaver$Row" ({ cls := "Runweaver$Row", name := "itemsBelow", desc := "(I)I" } : Jvm.MethodName) ({ cls := "Runweaver$Row", name := "itemsBelow", desc := "(I)I" } : Jvm.MethodName) ∈ mGw := mGw_of (tV_3_871 List.mem_cons_self) (by decide +kernel)
theorem mw_887 : Jvm.Cond.code ({ cls := "Runweaver$Row", name := "itemsBelow", desc := "(I)I" } : Jvm.MethodName) prog_3_method_24_code (4 : Nat) (Option.some Jvm.ClassFile.FieldType.int) ∈ mGw := mGw_of (tV_3_872 List.mem_cons_self) (by decide +kernel)
theorem mw_888 : Jvm.Cond.methodLink "RunweaverLaw" (188 : Nat) ({ cls := "Runweaver", name := "first", desc := "(IIZ)I" } : Jvm.MethodName) ∈ mGw := mGw_of (tV_3_873 List.mem_cons_self) (by decide +kernel)
theorem mw_889 : Jvm.Cond.instanceMethod ({ cls := "Runweaver", name := "first", desc := "(IIZ)I" } : Jvm.MethodName) ∈ mGw := mGw_of (tV_3_874 List.mem_cons_self) (by decide +kernel)
theorem mw_890 : Jvm.Cond.selects "Runweaver" ({ cls := "Runweaver", name := "first", desc := "(IIZ)I" } : Jvm.MethodName) ({ cls := "Runweaver", name := "first", desc := "(IIZ)I" } : Jvm.MethodName) ∈ mGw := mGw_of (tV_3_875 List.mem_cons_self) (by decide +kernel)
theorem mw_891 : Jvm.Cond.code ({ cls := "Runweaver", name := "first", desc := "(IIZ)I" } : Jvm.MethodName) prog_1_method_36_code (5 : Nat) (Option.some Jvm.ClassFile.FieldType.int) ∈ mGw := mGw_of (tV_3_876 List.mem_cons_self) (by decide +kernel)
theorem mw_892 : Jvm.Cond.methodLink "Runweaver" (196 : Nat) ({ cls := "Runweaver$Row", name := "lastPlaceOf", desc := "(I)I" } : Jvm.MethodName) ∈ mGw := mGw_of (tV_3_877 List.mem_cons_self) (by decide +kernel)
theorem mw_893 : Jvm.Cond.instanceMethod ({ cls := "Runweaver$Row", name := "lastPlaceOf", desc := "(I)I" } : Jvm.MethodName) ∈ mGw := mGw_of (tV_3_878 List.mem_cons_self) (by decide +kernel)
theorem mw_894 : Jvm.Cond.selects "Runweaver$Row" ({ cls := "Runweaver$Row", name := "lastPlaceOf", desc := "(I)I" } : Jvm.MethodName) ({ cls := "Runweaver$Row", name := "lastPlaceOf", desc := "(I)I" } : Jvm.MethodName) ∈ mGw := mGw_of (tV_3_879 List.mem_cons_self) (by decide +kernel)
theorem mw_895 : Jvm.Cond.code ({ cls := "Runweaver$Row", name := "lastPlaceOf", desc := "(I)I" } : Jvm.MethodName) prog_3_method_26_code (3 : Nat) (Option.some Jvm.ClassFile.FieldType.int) ∈ mGw := mGw_of (tV_3_880 List.mem_cons_self) (by decide +kernel)
theorem mw_896 : Jvm.Cond.methodLink "Runweaver" (199 : Nat) ({ cls := "Runweaver$Row", name := "firstPlaceOf", desc := "(I)I" } : Jvm.MethodName) ∈ mGw := mGw_of (tV_3_881 List.mem_cons_self) (by decide +kernel)
theorem mw_897 : Jvm.Cond.instanceMethod ({ cls := "Runweaver$Row", name := "firstPlaceOf", desc := "(I)I" } : Jvm.MethodName) ∈ mGw := mGw_of (tV_3_882 List.mem_cons_self) (by decide +kernel)
theorem mw_898 : Jvm.Cond.selects "Runweaver$Row" ({ cls := "Runweaver$Row", name := "firstPlaceOf", desc := "(I)I" } : Jvm.MethodName) ({ cls := "Runweaver$Row", name := "firstPlaceOf", desc := "(I)I" } : Jvm.MethodName) ∈ mGw := mGw_of (tV_3_883 List.mem_cons_self) (by decide +kernel)
theorem mw_899 : Jvm.Cond.code ({ cls := "Runweaver$Row", name := "firstPlaceOf", desc := "(I)I" } : Jvm.MethodName) prog_3_method_25_code (3 : Nat) (Option.some Jvm.ClassFile.FieldType.int) ∈ mGw := mGw_of (tV_3_884 List.mem_cons_self) (by decide +kernel)
theorem mw_900 : Jvm.Cond.constant "RunweaverLaw" (19 : Nat) (1013904223 : Int32) ∈ mGw := mGw_of (tV_3_885 List.mem_cons_self) (by decide +kernel)
theorem mw_901 : Jvm.Cond.sameMethod "java/lang/Throwable" "java/lang/Throwable" "fillInStackTrace" "(I)Ljava/lang/Throwable;" ∈ mGw := mGw_of (tV_3_886 List.mem_cons_self) (by decide +kernel)
theorem mw_902 : Jvm.Cond.sameMethod "java/lang/AbstractStringBuilder" "java/lang/AbstractStringBuilder" "append" "(C)Ljava/lang/AbstractStringBuilder;" ∈ mGw := mGw_of (tV_3_887 List.mem_cons_self) (by decide +kernel)
theorem mw_903 : Jvm.Cond.sameMethod "java/lang/AbstractStringBuilder" "java/lang/AbstractStringBuilder" "ensureCapacityInternal" "(I)V" ∈ mGw := mGw_of (tV_3_888 List.mem_cons_self) (by decide +kernel)
theorem mw_904 : Jvm.Cond.sameMethod "java/lang/AbstractStringBuilder" "java/lang/AbstractStringBuilder" "newCapacity" "(I)I" ∈ mGw := mGw_of (tV_3_889 List.mem_cons_self) (by decide +kernel)
theorem mw_905 : Jvm.Cond.sameMethod "java/lang/AbstractStringBuilder" "java/lang/AbstractStringBuilder" "inflate" "()V" ∈ mGw := mGw_of (tV_3_890 List.mem_cons_self) (by decide +kernel)
theorem mw_906 : Jvm.Cond.sameMethod "java/lang/AbstractStringBuilder" "java/lang/AbstractStringBuilder" "append" "(I)Ljava/lang/AbstractStringBuilder;" ∈ mGw := mGw_of (tV_3_891 List.mem_cons_self) (by decide +kernel)
theorem mw_907 : Jvm.Cond.sameMethod "java/lang/AbstractStringBuilder" "java/lang/AbstractStringBuilder" "append" "(Ljava/lang/String;)Ljava/lang/AbstractStringBuilder;" ∈ mGw := mGw_of (tV_3_892 List.mem_cons_self) (by decide +kernel)
theorem mw_908 : Jvm.Cond.sameMethod "java/lang/AbstractStringBuilder" "java/lang/AbstractStringBuilder" "appendNull" "()Ljava/lang/AbstractStringBuilder;" ∈ mGw := mGw_of (tV_3_893 List.mem_cons_self) (by decide +kernel)
theorem mw_909 : Jvm.Cond.sameMethod "java/lang/AbstractStringBuilder" "java/lang/AbstractStringBuilder" "putStringAt" "(ILjava/lang/String;)V" ∈ mGw := mGw_of (tV_3_894 List.mem_cons_self) (by decide +kernel)
theorem mw_910 : Jvm.Cond.sameMethod "java/lang/AbstractStringBuilder" "java/lang/AbstractStringBuilder" "inflateIfNeededFor" "(Ljava/lang/String;)V" ∈ mGw := mGw_of (tV_3_895 List.mem_cons_self) (by decide +kernel)
