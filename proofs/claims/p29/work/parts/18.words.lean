/-! words of the tables in use; what callees need (by program) -/
theorem zm_32 : (.methodLink "WagerQuiz$PickedClue" 3 ⟨"java/lang/Object", "<init>", "()V"⟩ : Cond) ∈ zeBT := zeBT_of (k := 32) (by decide +kernel) rfl
theorem zm_19 : (.instanceMethod ⟨"java/lang/Object", "<init>", "()V"⟩ : Cond) ∈ zeBT := zeBT_of (k := 19) (by decide +kernel) rfl
theorem zm_62 : (.arrayClass .int : Cond) ∈ zeBT := zeBT_of (k := 62) (by decide +kernel) rfl
theorem zm_41 : (.fieldLink "WagerQuiz$PickedClue" 9 "WagerQuiz$PickedClue" "countingTicks" "[I" : Cond) ∈ zeBT := zeBT_of (k := 41) (by decide +kernel) rfl
theorem zm_63 : (.arrayClass .long : Cond) ∈ zeBT := zeBT_of (k := 63) (by decide +kernel) rfl
theorem zm_43 : (.fieldLink "WagerQuiz$PickedClue" 15 "WagerQuiz$PickedClue" "ticksBelow64" "[J" : Cond) ∈ zeBT := zeBT_of (k := 43) (by decide +kernel) rfl
theorem zm_44 : (.fieldLink "WagerQuiz$PickedClue" 19 "WagerQuiz$PickedClue" "ticksFrom64" "[J" : Cond) ∈ zeBT := zeBT_of (k := 44) (by decide +kernel) rfl
theorem zm_69 : (.methodLink "WagerQuiz$FinalRound" 3 ⟨"java/lang/Object", "<init>", "()V"⟩ : Cond) ∈ zeBT := zeBT_of (k := 69) (by decide +kernel) rfl
theorem zm_73 : (.fieldLink "WagerQuiz$FinalRound" 9 "WagerQuiz$FinalRound" "startScores" "[I" : Cond) ∈ zeBT := zeBT_of (k := 73) (by decide +kernel) rfl
theorem zm_75 : (.fieldLink "WagerQuiz$FinalRound" 15 "WagerQuiz$FinalRound" "wagers" "[I" : Cond) ∈ zeBT := zeBT_of (k := 75) (by decide +kernel) rfl
theorem zm_70 : (.constant "WagerQuiz$FinalRound" 18 (-10000005) : Cond) ∈ zeBT := zeBT_of (k := 70) (by decide +kernel) rfl
theorem zm_89 : (.methodLink "WagerQuiz$Log" 3 ⟨"java/lang/Object", "<init>", "()V"⟩ : Cond) ∈ zeBT := zeBT_of (k := 89) (by decide +kernel) rfl
theorem zm_93 : (.fieldLink "WagerQuiz$Log" 9 "WagerQuiz$Log" "players" "[I" : Cond) ∈ zeBT := zeBT_of (k := 93) (by decide +kernel) rfl
theorem zm_96 : (.fieldLink "WagerQuiz$Log" 15 "WagerQuiz$Log" "sorts" "[I" : Cond) ∈ zeBT := zeBT_of (k := 96) (by decide +kernel) rfl
theorem zm_99 : (.fieldLink "WagerQuiz$Log" 18 "WagerQuiz$Log" "clues" "[I" : Cond) ∈ zeBT := zeBT_of (k := 99) (by decide +kernel) rfl
theorem zm_102 : (.fieldLink "WagerQuiz$Log" 21 "WagerQuiz$Log" "amounts" "[I" : Cond) ∈ zeBT := zeBT_of (k := 102) (by decide +kernel) rfl
theorem zm_105 : (.fieldLink "WagerQuiz$Log" 24 "WagerQuiz$Log" "judgements" "[I" : Cond) ∈ zeBT := zeBT_of (k := 105) (by decide +kernel) rfl
theorem zm_26 : (.methodLink "WagerQuiz$State" 1 ⟨"java/lang/Object", "<init>", "()V"⟩ : Cond) ∈ zeBT := zeBT_of (k := 26) (by decide +kernel) rfl
theorem zm_129 : (.fieldLink "WagerQuiz$State" 7 "WagerQuiz$State" "settings" "[I" : Cond) ∈ zeBT := zeBT_of (k := 129) (by decide +kernel) rfl
theorem zm_27 : (.classLink "WagerQuiz$State" 13 "WagerQuiz$PickedClue" : Cond) ∈ zeBT := zeBT_of (k := 27) (by decide +kernel) rfl
theorem zm_28 : (.instantiable "WagerQuiz$PickedClue" 8 : Cond) ∈ zeBT := zeBT_of (k := 28) (by decide +kernel) rfl
theorem zm_3 : (.initialized "WagerQuiz$PickedClue" : Cond) ∈ zeBT := zeBT_of (k := 3) (by decide +kernel) rfl
theorem zm_30 : (.instanceMethod ⟨"WagerQuiz$PickedClue", "<init>", "()V"⟩ : Cond) ∈ zeBT := zeBT_of (k := 30) (by decide +kernel) rfl
theorem zm_131 : (.fieldLink "WagerQuiz$State" 16 "WagerQuiz$State" "open" "LWagerQuiz$PickedClue;" : Cond) ∈ zeBT := zeBT_of (k := 131) (by decide +kernel) rfl
theorem zm_64 : (.classLink "WagerQuiz$State" 20 "WagerQuiz$FinalRound" : Cond) ∈ zeBT := zeBT_of (k := 64) (by decide +kernel) rfl
theorem zm_65 : (.instantiable "WagerQuiz$FinalRound" 3 : Cond) ∈ zeBT := zeBT_of (k := 65) (by decide +kernel) rfl
theorem zm_4 : (.initialized "WagerQuiz$FinalRound" : Cond) ∈ zeBT := zeBT_of (k := 4) (by decide +kernel) rfl
theorem zm_67 : (.instanceMethod ⟨"WagerQuiz$FinalRound", "<init>", "()V"⟩ : Cond) ∈ zeBT := zeBT_of (k := 67) (by decide +kernel) rfl
theorem zm_66 : (.methodLink "WagerQuiz$State" 22 ⟨"WagerQuiz$FinalRound", "<init>", "()V"⟩ : Cond) ∈ zeBT := zeBT_of (k := 66) (by decide +kernel) rfl
theorem zm_133 : (.fieldLink "WagerQuiz$State" 23 "WagerQuiz$State" "finale" "LWagerQuiz$FinalRound;" : Cond) ∈ zeBT := zeBT_of (k := 133) (by decide +kernel) rfl
theorem zm_84 : (.classLink "WagerQuiz$State" 27 "WagerQuiz$Log" : Cond) ∈ zeBT := zeBT_of (k := 84) (by decide +kernel) rfl
theorem zm_85 : (.instantiable "WagerQuiz$Log" 6 : Cond) ∈ zeBT := zeBT_of (k := 85) (by decide +kernel) rfl
theorem zm_5 : (.initialized "WagerQuiz$Log" : Cond) ∈ zeBT := zeBT_of (k := 5) (by decide +kernel) rfl
theorem zm_87 : (.instanceMethod ⟨"WagerQuiz$Log", "<init>", "()V"⟩ : Cond) ∈ zeBT := zeBT_of (k := 87) (by decide +kernel) rfl
theorem zm_135 : (.fieldLink "WagerQuiz$State" 30 "WagerQuiz$State" "log" "LWagerQuiz$Log;" : Cond) ∈ zeBT := zeBT_of (k := 135) (by decide +kernel) rfl
theorem zm_159 : (.methodLink "WagerQuiz$Replay" 3 ⟨"java/lang/Object", "<init>", "()V"⟩ : Cond) ∈ zeBT := zeBT_of (k := 159) (by decide +kernel) rfl
theorem zm_163 : (.fieldLink "WagerQuiz$Replay" 9 "WagerQuiz$Replay" "scores" "[I" : Cond) ∈ zeBT := zeBT_of (k := 163) (by decide +kernel) rfl
theorem zm_165 : (.fieldLink "WagerQuiz$Replay" 15 "WagerQuiz$Replay" "rights" "[I" : Cond) ∈ zeBT := zeBT_of (k := 165) (by decide +kernel) rfl
theorem zm_167 : (.fieldLink "WagerQuiz$Replay" 18 "WagerQuiz$Replay" "wrongs" "[I" : Cond) ∈ zeBT := zeBT_of (k := 167) (by decide +kernel) rfl
theorem zm_169 : (.fieldLink "WagerQuiz$Replay" 21 "WagerQuiz$Replay" "corrections" "[I" : Cond) ∈ zeBT := zeBT_of (k := 169) (by decide +kernel) rfl
theorem zm_171 : (.fieldLink "WagerQuiz$Replay" 24 "WagerQuiz$Replay" "solvers" "[I" : Cond) ∈ zeBT := zeBT_of (k := 171) (by decide +kernel) rfl
theorem zm_173 : (.fieldLink "WagerQuiz$Replay" 27 "WagerQuiz$Replay" "amounts" "[I" : Cond) ∈ zeBT := zeBT_of (k := 173) (by decide +kernel) rfl
theorem zm_175 : (.fieldLink "WagerQuiz$Replay" 30 "WagerQuiz$Replay" "scoresBehind" "[I" : Cond) ∈ zeBT := zeBT_of (k := 175) (by decide +kernel) rfl
theorem zm_201 : (.arrayClass .boolean : Cond) ∈ zeBT := zeBT_of (k := 201) (by decide +kernel) rfl
theorem zm_177 : (.fieldLink "WagerQuiz$Replay" 33 "WagerQuiz$Replay" "voids" "[Z" : Cond) ∈ zeBT := zeBT_of (k := 177) (by decide +kernel) rfl
theorem zm_179 : (.fieldLink "WagerQuiz$Replay" 37 "WagerQuiz$Replay" "formerScores" "[I" : Cond) ∈ zeBT := zeBT_of (k := 179) (by decide +kernel) rfl
theorem zm_160 : (.constant "WagerQuiz$Replay" 40 (-10000005) : Cond) ∈ zeBT := zeBT_of (k := 160) (by decide +kernel) rfl
theorem zm_207 : (.methodLink "WagerQuiz$History" 3 ⟨"java/lang/Object", "<init>", "()V"⟩ : Cond) ∈ zeBT := zeBT_of (k := 207) (by decide +kernel) rfl
theorem zm_208 : (.classLink "WagerQuiz$History" 11 "WagerQuiz$State" : Cond) ∈ zeBT := zeBT_of (k := 208) (by decide +kernel) rfl
theorem zm_214 : (.fieldLink "WagerQuiz$History" 13 "WagerQuiz$History" "ring" "[LWagerQuiz$State;" : Cond) ∈ zeBT := zeBT_of (k := 214) (by decide +kernel) rfl
theorem zm_22 : (.instantiable "WagerQuiz$State" 8 : Cond) ∈ zeBT := zeBT_of (k := 22) (by decide +kernel) rfl
theorem zm_2 : (.initialized "WagerQuiz$State" : Cond) ∈ zeBT := zeBT_of (k := 2) (by decide +kernel) rfl
theorem zm_24 : (.instanceMethod ⟨"WagerQuiz$State", "<init>", "()V"⟩ : Cond) ∈ zeBT := zeBT_of (k := 24) (by decide +kernel) rfl
theorem zm_227 : (.methodLink "WagerQuiz$Script" 3 ⟨"java/lang/Object", "<init>", "()V"⟩ : Cond) ∈ zeBT := zeBT_of (k := 227) (by decide +kernel) rfl
theorem zm_235 : (.arrayClass .char : Cond) ∈ zeBT := zeBT_of (k := 235) (by decide +kernel) rfl
theorem zm_229 : (.fieldLink "WagerQuiz$Script" 9 "WagerQuiz$Script" "signs" "[C" : Cond) ∈ zeBT := zeBT_of (k := 229) (by decide +kernel) rfl
theorem zm_241 : (.methodLink "WagerQuiz$Message" 3 ⟨"java/lang/Object", "<init>", "()V"⟩ : Cond) ∈ zeBT := zeBT_of (k := 241) (by decide +kernel) rfl
theorem zm_242 : (.fieldLink "WagerQuiz$Message" 9 "WagerQuiz$Message" "signs" "[C" : Cond) ∈ zeBT := zeBT_of (k := 242) (by decide +kernel) rfl
theorem zm_18 : (.methodLink "WagerQuiz" 1 ⟨"java/lang/Object", "<init>", "()V"⟩ : Cond) ∈ zeBT := zeBT_of (k := 18) (by decide +kernel) rfl
theorem zm_21 : (.classLink "WagerQuiz" 7 "WagerQuiz$State" : Cond) ∈ zeBT := zeBT_of (k := 21) (by decide +kernel) rfl
theorem zm_248 : (.fieldLink "WagerQuiz" 10 "WagerQuiz" "now" "LWagerQuiz$State;" : Cond) ∈ zeBT := zeBT_of (k := 248) (by decide +kernel) rfl
theorem zm_154 : (.classLink "WagerQuiz" 16 "WagerQuiz$Replay" : Cond) ∈ zeBT := zeBT_of (k := 154) (by decide +kernel) rfl
theorem zm_155 : (.instantiable "WagerQuiz$Replay" 10 : Cond) ∈ zeBT := zeBT_of (k := 155) (by decide +kernel) rfl
theorem zm_6 : (.initialized "WagerQuiz$Replay" : Cond) ∈ zeBT := zeBT_of (k := 6) (by decide +kernel) rfl
theorem zm_157 : (.instanceMethod ⟨"WagerQuiz$Replay", "<init>", "()V"⟩ : Cond) ∈ zeBT := zeBT_of (k := 157) (by decide +kernel) rfl
theorem zm_156 : (.methodLink "WagerQuiz" 18 ⟨"WagerQuiz$Replay", "<init>", "()V"⟩ : Cond) ∈ zeBT := zeBT_of (k := 156) (by decide +kernel) rfl
theorem zm_249 : (.fieldLink "WagerQuiz" 19 "WagerQuiz" "replay" "LWagerQuiz$Replay;" : Cond) ∈ zeBT := zeBT_of (k := 249) (by decide +kernel) rfl
theorem zm_202 : (.classLink "WagerQuiz" 23 "WagerQuiz$History" : Cond) ∈ zeBT := zeBT_of (k := 202) (by decide +kernel) rfl
theorem zm_203 : (.instantiable "WagerQuiz$History" 3 : Cond) ∈ zeBT := zeBT_of (k := 203) (by decide +kernel) rfl
theorem zm_7 : (.initialized "WagerQuiz$History" : Cond) ∈ zeBT := zeBT_of (k := 7) (by decide +kernel) rfl
theorem zm_205 : (.instanceMethod ⟨"WagerQuiz$History", "<init>", "()V"⟩ : Cond) ∈ zeBT := zeBT_of (k := 205) (by decide +kernel) rfl
theorem zm_204 : (.methodLink "WagerQuiz" 25 ⟨"WagerQuiz$History", "<init>", "()V"⟩ : Cond) ∈ zeBT := zeBT_of (k := 204) (by decide +kernel) rfl
theorem zm_250 : (.fieldLink "WagerQuiz" 26 "WagerQuiz" "history" "LWagerQuiz$History;" : Cond) ∈ zeBT := zeBT_of (k := 250) (by decide +kernel) rfl
theorem zm_251 : (.fieldLink "WagerQuiz" 30 "WagerQuiz" "slots" "[LWagerQuiz$State;" : Cond) ∈ zeBT := zeBT_of (k := 251) (by decide +kernel) rfl
theorem zm_252 : (.fieldLink "WagerQuiz" 34 "WagerQuiz" "slotTaken" "[Z" : Cond) ∈ zeBT := zeBT_of (k := 252) (by decide +kernel) rfl
theorem zm_222 : (.classLink "WagerQuiz" 38 "WagerQuiz$Script" : Cond) ∈ zeBT := zeBT_of (k := 222) (by decide +kernel) rfl
theorem zm_223 : (.instantiable "WagerQuiz$Script" 2 : Cond) ∈ zeBT := zeBT_of (k := 223) (by decide +kernel) rfl
theorem zm_8 : (.initialized "WagerQuiz$Script" : Cond) ∈ zeBT := zeBT_of (k := 8) (by decide +kernel) rfl
theorem zm_225 : (.instanceMethod ⟨"WagerQuiz$Script", "<init>", "()V"⟩ : Cond) ∈ zeBT := zeBT_of (k := 225) (by decide +kernel) rfl
theorem zm_253 : (.fieldLink "WagerQuiz" 41 "WagerQuiz" "script" "LWagerQuiz$Script;" : Cond) ∈ zeBT := zeBT_of (k := 253) (by decide +kernel) rfl
theorem zm_236 : (.classLink "WagerQuiz" 45 "WagerQuiz$Message" : Cond) ∈ zeBT := zeBT_of (k := 236) (by decide +kernel) rfl
theorem zm_237 : (.instantiable "WagerQuiz$Message" 2 : Cond) ∈ zeBT := zeBT_of (k := 237) (by decide +kernel) rfl
theorem zm_9 : (.initialized "WagerQuiz$Message" : Cond) ∈ zeBT := zeBT_of (k := 9) (by decide +kernel) rfl
theorem zm_239 : (.instanceMethod ⟨"WagerQuiz$Message", "<init>", "()V"⟩ : Cond) ∈ zeBT := zeBT_of (k := 239) (by decide +kernel) rfl
theorem zm_254 : (.fieldLink "WagerQuiz" 48 "WagerQuiz" "message" "LWagerQuiz$Message;" : Cond) ∈ zeBT := zeBT_of (k := 254) (by decide +kernel) rfl
theorem zm_255 : (.fieldLink "WagerQuiz" 52 "WagerQuiz" "reason" "I" : Cond) ∈ zeBT := zeBT_of (k := 255) (by decide +kernel) rfl
theorem zm_211 : (.fieldLink "WagerQuiz$History" 26 "WagerQuiz$History" "size" "I" : Cond) ∈ zeBT := zeBT_of (k := 211) (by decide +kernel) rfl
theorem zm_213 : (.fieldLink "WagerQuiz$History" 18 "WagerQuiz$History" "trial" "I" : Cond) ∈ zeBT := zeBT_of (k := 213) (by decide +kernel) rfl
theorem zm_33 : (.fieldLink "WagerQuiz$PickedClue" 22 "WagerQuiz$PickedClue" "clue" "I" : Cond) ∈ zeBT := zeBT_of (k := 33) (by decide +kernel) rfl
theorem zm_35 : (.fieldLink "WagerQuiz$PickedClue" 26 "WagerQuiz$PickedClue" "reading" "I" : Cond) ∈ zeBT := zeBT_of (k := 35) (by decide +kernel) rfl
theorem zm_36 : (.fieldLink "WagerQuiz$PickedClue" 29 "WagerQuiz$PickedClue" "lock" "I" : Cond) ∈ zeBT := zeBT_of (k := 36) (by decide +kernel) rfl
theorem zm_37 : (.fieldLink "WagerQuiz$PickedClue" 32 "WagerQuiz$PickedClue" "wager" "I" : Cond) ∈ zeBT := zeBT_of (k := 37) (by decide +kernel) rfl
theorem zm_39 : (.fieldLink "WagerQuiz$PickedClue" 35 "WagerQuiz$PickedClue" "answered" "I" : Cond) ∈ zeBT := zeBT_of (k := 39) (by decide +kernel) rfl
theorem zm_294 : (.methodLink "WagerQuiz$PickedClue" 56 ⟨"java/lang/System", "arraycopy", "(Ljava/lang/Object;ILjava/lang/Object;II)V"⟩ : Cond) ∈ zeBT := zeBT_of (k := 294) (by decide +kernel) rfl
theorem zm_289 : (.native ⟨"java/lang/System", "arraycopy", "(Ljava/lang/Object;ILjava/lang/Object;II)V"⟩ : Cond) ∈ zeBT := zeBT_of (k := 289) (by decide +kernel) rfl
theorem zm_288 : (.static ⟨"java/lang/System", "arraycopy", "(Ljava/lang/Object;ILjava/lang/Object;II)V"⟩ : Cond) ∈ zeBT := zeBT_of (k := 288) (by decide +kernel) rfl
theorem zm_10 : (.initialized "java/lang/System" : Cond) ∈ zeBT := zeBT_of (k := 10) (by decide +kernel) rfl
theorem zm_71 : (.fieldLink "WagerQuiz$FinalRound" 33 "WagerQuiz$FinalRound" "answers" "I" : Cond) ∈ zeBT := zeBT_of (k := 71) (by decide +kernel) rfl
theorem zm_299 : (.methodLink "WagerQuiz$FinalRound" 41 ⟨"java/lang/System", "arraycopy", "(Ljava/lang/Object;ILjava/lang/Object;II)V"⟩ : Cond) ∈ zeBT := zeBT_of (k := 299) (by decide +kernel) rfl
theorem zm_90 : (.fieldLink "WagerQuiz$Log" 27 "WagerQuiz$Log" "size" "I" : Cond) ∈ zeBT := zeBT_of (k := 90) (by decide +kernel) rfl
theorem zm_304 : (.methodLink "WagerQuiz$Log" 35 ⟨"java/lang/System", "arraycopy", "(Ljava/lang/Object;ILjava/lang/Object;II)V"⟩ : Cond) ∈ zeBT := zeBT_of (k := 304) (by decide +kernel) rfl
theorem zm_121 : (.fieldLink "WagerQuiz$State" 34 "WagerQuiz$State" "phase" "I" : Cond) ∈ zeBT := zeBT_of (k := 121) (by decide +kernel) rfl
theorem zm_123 : (.fieldLink "WagerQuiz$State" 38 "WagerQuiz$State" "players" "I" : Cond) ∈ zeBT := zeBT_of (k := 123) (by decide +kernel) rfl
theorem zm_125 : (.fieldLink "WagerQuiz$State" 41 "WagerQuiz$State" "wagerClues" "I" : Cond) ∈ zeBT := zeBT_of (k := 125) (by decide +kernel) rfl
theorem zm_127 : (.fieldLink "WagerQuiz$State" 44 "WagerQuiz$State" "goneClues" "I" : Cond) ∈ zeBT := zeBT_of (k := 127) (by decide +kernel) rfl
theorem zm_287 : (.methodLink "WagerQuiz$State" 52 ⟨"java/lang/System", "arraycopy", "(Ljava/lang/Object;ILjava/lang/Object;II)V"⟩ : Cond) ∈ zeBT := zeBT_of (k := 287) (by decide +kernel) rfl
theorem zm_291 : (.instanceMethod ⟨"WagerQuiz$PickedClue", "copyFrom", "(LWagerQuiz$PickedClue;)V"⟩ : Cond) ∈ zeBT := zeBT_of (k := 291) (by decide +kernel) rfl
theorem zm_290 : (.methodLink "WagerQuiz$State" 58 ⟨"WagerQuiz$PickedClue", "copyFrom", "(LWagerQuiz$PickedClue;)V"⟩ : Cond) ∈ zeBT := zeBT_of (k := 290) (by decide +kernel) rfl
theorem zm_292 : (.selects "WagerQuiz$PickedClue" ⟨"WagerQuiz$PickedClue", "copyFrom", "(LWagerQuiz$PickedClue;)V"⟩ ⟨"WagerQuiz$PickedClue", "copyFrom", "(LWagerQuiz$PickedClue;)V"⟩ : Cond) ∈ zeBT := zeBT_of (k := 292) (by decide +kernel) rfl
theorem zm_296 : (.instanceMethod ⟨"WagerQuiz$FinalRound", "copyFrom", "(LWagerQuiz$FinalRound;)V"⟩ : Cond) ∈ zeBT := zeBT_of (k := 296) (by decide +kernel) rfl
theorem zm_295 : (.methodLink "WagerQuiz$State" 62 ⟨"WagerQuiz$FinalRound", "copyFrom", "(LWagerQuiz$FinalRound;)V"⟩ : Cond) ∈ zeBT := zeBT_of (k := 295) (by decide +kernel) rfl
theorem zm_297 : (.selects "WagerQuiz$FinalRound" ⟨"WagerQuiz$FinalRound", "copyFrom", "(LWagerQuiz$FinalRound;)V"⟩ ⟨"WagerQuiz$FinalRound", "copyFrom", "(LWagerQuiz$FinalRound;)V"⟩ : Cond) ∈ zeBT := zeBT_of (k := 297) (by decide +kernel) rfl
theorem zm_301 : (.instanceMethod ⟨"WagerQuiz$Log", "copyFrom", "(LWagerQuiz$Log;)V"⟩ : Cond) ∈ zeBT := zeBT_of (k := 301) (by decide +kernel) rfl
theorem zm_300 : (.methodLink "WagerQuiz$State" 65 ⟨"WagerQuiz$Log", "copyFrom", "(LWagerQuiz$Log;)V"⟩ : Cond) ∈ zeBT := zeBT_of (k := 300) (by decide +kernel) rfl
theorem zm_302 : (.selects "WagerQuiz$Log" ⟨"WagerQuiz$Log", "copyFrom", "(LWagerQuiz$Log;)V"⟩ ⟨"WagerQuiz$Log", "copyFrom", "(LWagerQuiz$Log;)V"⟩ : Cond) ∈ zeBT := zeBT_of (k := 302) (by decide +kernel) rfl
theorem zm_342 : (.static ⟨"WagerQuiz", "isClue", "(I)Z"⟩ : Cond) ∈ zeBT := zeBT_of (k := 342) (by decide +kernel) rfl
theorem zm_445 : (.methodLink "WagerQuiz$Replay" 86 ⟨"java/lang/Math", "max", "(II)I"⟩ : Cond) ∈ zeBT := zeBT_of (k := 445) (by decide +kernel) rfl
theorem zm_399 : (.static ⟨"java/lang/Math", "max", "(II)I"⟩ : Cond) ∈ zeBT := zeBT_of (k := 399) (by decide +kernel) rfl
theorem zm_11 : (.initialized "java/lang/Math" : Cond) ∈ zeBT := zeBT_of (k := 11) (by decide +kernel) rfl
theorem zm_446 : (.methodLink "WagerQuiz$Replay" 92 ⟨"java/lang/Math", "min", "(II)I"⟩ : Cond) ∈ zeBT := zeBT_of (k := 446) (by decide +kernel) rfl
theorem zm_447 : (.static ⟨"java/lang/Math", "min", "(II)I"⟩ : Cond) ∈ zeBT := zeBT_of (k := 447) (by decide +kernel) rfl
theorem zm_161 : (.fieldLink "WagerQuiz$Replay" 41 "WagerQuiz$Replay" "control" "I" : Cond) ∈ zeBT := zeBT_of (k := 161) (by decide +kernel) rfl
theorem zm_94 : (.fieldLink "WagerQuiz$Replay" 58 "WagerQuiz$Log" "players" "[I" : Cond) ∈ zeBT := zeBT_of (k := 94) (by decide +kernel) rfl
theorem zm_434 : (.methodLink "WagerQuiz$Replay" 54 ⟨"WagerQuiz$Replay", "isSeat", "(I)Z"⟩ : Cond) ∈ zeBT := zeBT_of (k := 434) (by decide +kernel) rfl
theorem zm_435 : (.static ⟨"WagerQuiz$Replay", "isSeat", "(I)Z"⟩ : Cond) ∈ zeBT := zeBT_of (k := 435) (by decide +kernel) rfl
theorem zm_103 : (.fieldLink "WagerQuiz$Replay" 61 "WagerQuiz$Log" "amounts" "[I" : Cond) ∈ zeBT := zeBT_of (k := 103) (by decide +kernel) rfl
theorem zm_97 : (.fieldLink "WagerQuiz$Replay" 62 "WagerQuiz$Log" "sorts" "[I" : Cond) ∈ zeBT := zeBT_of (k := 97) (by decide +kernel) rfl
theorem zm_100 : (.fieldLink "WagerQuiz$Replay" 65 "WagerQuiz$Log" "clues" "[I" : Cond) ∈ zeBT := zeBT_of (k := 100) (by decide +kernel) rfl
theorem zm_439 : (.instanceMethod ⟨"WagerQuiz$Replay", "solverOf", "(I)I"⟩ : Cond) ∈ zeBT := zeBT_of (k := 439) (by decide +kernel) rfl
theorem zm_437 : (.methodLink "WagerQuiz$Replay" 68 ⟨"WagerQuiz$Replay", "solverOf", "(I)I"⟩ : Cond) ∈ zeBT := zeBT_of (k := 437) (by decide +kernel) rfl
theorem zmp_13 : (.selects "WagerQuiz$Replay" ⟨"WagerQuiz$Replay", "solverOf", "(I)I"⟩ ⟨"WagerQuiz$Replay", "solverOf", "(I)I"⟩ : Cond) ∈ zeBT := zeBT_p (k := 13) (by decide +kernel) rfl
theorem zm_442 : (.methodLink "WagerQuiz$Replay" 72 ⟨"WagerQuiz$Replay", "limited", "(III)I"⟩ : Cond) ∈ zeBT := zeBT_of (k := 442) (by decide +kernel) rfl
theorem zm_443 : (.static ⟨"WagerQuiz$Replay", "limited", "(III)I"⟩ : Cond) ∈ zeBT := zeBT_of (k := 443) (by decide +kernel) rfl
theorem zm_106 : (.fieldLink "WagerQuiz$Replay" 76 "WagerQuiz$Log" "judgements" "[I" : Cond) ∈ zeBT := zeBT_of (k := 106) (by decide +kernel) rfl
theorem zm_451 : (.instanceMethod ⟨"WagerQuiz$Replay", "noteRight", "(II)V"⟩ : Cond) ∈ zeBT := zeBT_of (k := 451) (by decide +kernel) rfl
theorem zm_449 : (.methodLink "WagerQuiz$Replay" 79 ⟨"WagerQuiz$Replay", "noteRight", "(II)V"⟩ : Cond) ∈ zeBT := zeBT_of (k := 449) (by decide +kernel) rfl
theorem zmp_14 : (.selects "WagerQuiz$Replay" ⟨"WagerQuiz$Replay", "noteRight", "(II)V"⟩ ⟨"WagerQuiz$Replay", "noteRight", "(II)V"⟩ : Cond) ∈ zeBT := zeBT_p (k := 14) (by decide +kernel) rfl
theorem zm_91 : (.fieldLink "WagerQuiz$Replay" 45 "WagerQuiz$Log" "size" "I" : Cond) ∈ zeBT := zeBT_of (k := 91) (by decide +kernel) rfl
theorem zm_432 : (.instanceMethod ⟨"WagerQuiz$Replay", "replayEntry", "(LWagerQuiz$Log;I)V"⟩ : Cond) ∈ zeBT := zeBT_of (k := 432) (by decide +kernel) rfl
theorem zm_430 : (.methodLink "WagerQuiz$Replay" 50 ⟨"WagerQuiz$Replay", "replayEntry", "(LWagerQuiz$Log;I)V"⟩ : Cond) ∈ zeBT := zeBT_of (k := 430) (by decide +kernel) rfl
theorem zmp_12 : (.selects "WagerQuiz$Replay" ⟨"WagerQuiz$Replay", "replayEntry", "(LWagerQuiz$Log;I)V"⟩ ⟨"WagerQuiz$Replay", "replayEntry", "(LWagerQuiz$Log;I)V"⟩ : Cond) ∈ zeBT := zeBT_p (k := 12) (by decide +kernel) rfl
theorem zm_282 : (.instanceMethod ⟨"WagerQuiz$State", "copyFrom", "(LWagerQuiz$State;)V"⟩ : Cond) ∈ zeBT := zeBT_of (k := 282) (by decide +kernel) rfl
theorem zm_469 : (.methodLink "WagerQuiz" 161 ⟨"WagerQuiz$State", "copyFrom", "(LWagerQuiz$State;)V"⟩ : Cond) ∈ zeBT := zeBT_of (k := 469) (by decide +kernel) rfl
theorem zm_283 : (.selects "WagerQuiz$State" ⟨"WagerQuiz$State", "copyFrom", "(LWagerQuiz$State;)V"⟩ ⟨"WagerQuiz$State", "copyFrom", "(LWagerQuiz$State;)V"⟩ : Cond) ∈ zeBT := zeBT_of (k := 283) (by decide +kernel) rfl
theorem zm_136 : (.fieldLink "WagerQuiz" 164 "WagerQuiz$State" "log" "LWagerQuiz$Log;" : Cond) ∈ zeBT := zeBT_of (k := 136) (by decide +kernel) rfl
theorem zm_427 : (.instanceMethod ⟨"WagerQuiz$Replay", "run", "(LWagerQuiz$Log;)V"⟩ : Cond) ∈ zeBT := zeBT_of (k := 427) (by decide +kernel) rfl
theorem zm_426 : (.methodLink "WagerQuiz" 371 ⟨"WagerQuiz$Replay", "run", "(LWagerQuiz$Log;)V"⟩ : Cond) ∈ zeBT := zeBT_of (k := 426) (by decide +kernel) rfl
theorem zm_428 : (.selects "WagerQuiz$Replay" ⟨"WagerQuiz$Replay", "run", "(LWagerQuiz$Log;)V"⟩ ⟨"WagerQuiz$Replay", "run", "(LWagerQuiz$Log;)V"⟩ : Cond) ∈ zeBT := zeBT_of (k := 428) (by decide +kernel) rfl
theorem zm_212 : (.fieldLink "WagerQuiz" 148 "WagerQuiz$History" "size" "I" : Cond) ∈ zeBT := zeBT_of (k := 212) (by decide +kernel) rfl
theorem zm_328 : (.constant "WagerQuiz" 107 (-10000005) : Cond) ∈ zeBT := zeBT_of (k := 328) (by decide +kernel) rfl
theorem zm_462 : (.instanceMethod ⟨"WagerQuiz$History", "takeLatest", "()LWagerQuiz$State;"⟩ : Cond) ∈ zeBT := zeBT_of (k := 462) (by decide +kernel) rfl
theorem zm_461 : (.methodLink "WagerQuiz" 151 ⟨"WagerQuiz$History", "takeLatest", "()LWagerQuiz$State;"⟩ : Cond) ∈ zeBT := zeBT_of (k := 461) (by decide +kernel) rfl
theorem zm_463 : (.selects "WagerQuiz$History" ⟨"WagerQuiz$History", "takeLatest", "()LWagerQuiz$State;"⟩ ⟨"WagerQuiz$History", "takeLatest", "()LWagerQuiz$State;"⟩ : Cond) ∈ zeBT := zeBT_of (k := 463) (by decide +kernel) rfl
theorem zm_467 : (.instanceMethod ⟨"WagerQuiz", "load", "(LWagerQuiz$State;)V"⟩ : Cond) ∈ zeBT := zeBT_of (k := 467) (by decide +kernel) rfl
theorem zm_465 : (.methodLink "WagerQuiz" 155 ⟨"WagerQuiz", "load", "(LWagerQuiz$State;)V"⟩ : Cond) ∈ zeBT := zeBT_of (k := 465) (by decide +kernel) rfl
theorem zmp_15 : (.selects "WagerQuiz" ⟨"WagerQuiz", "load", "(LWagerQuiz$State;)V"⟩ ⟨"WagerQuiz", "load", "(LWagerQuiz$State;)V"⟩ : Cond) ∈ zeBT := zeBT_p (k := 15) (by decide +kernel) rfl
theorem zm_281 : (.methodLink "WagerQuiz$History" 22 ⟨"WagerQuiz$State", "copyFrom", "(LWagerQuiz$State;)V"⟩ : Cond) ∈ zeBT := zeBT_of (k := 281) (by decide +kernel) rfl
theorem zm_474 : (.methodLink "WagerQuiz" 158 ⟨"WagerQuiz", "isSlot", "(I)Z"⟩ : Cond) ∈ zeBT := zeBT_of (k := 474) (by decide +kernel) rfl
theorem zm_475 : (.static ⟨"WagerQuiz", "isSlot", "(I)Z"⟩ : Cond) ∈ zeBT := zeBT_of (k := 475) (by decide +kernel) rfl
theorem zm_326 : (.constant "WagerQuiz" 102 (-10000001) : Cond) ∈ zeBT := zeBT_of (k := 326) (by decide +kernel) rfl
theorem zm_278 : (.instanceMethod ⟨"WagerQuiz$History", "prepare", "(LWagerQuiz$State;)V"⟩ : Cond) ∈ zeBT := zeBT_of (k := 278) (by decide +kernel) rfl
theorem zm_277 : (.methodLink "WagerQuiz" 56 ⟨"WagerQuiz$History", "prepare", "(LWagerQuiz$State;)V"⟩ : Cond) ∈ zeBT := zeBT_of (k := 277) (by decide +kernel) rfl
theorem zm_279 : (.selects "WagerQuiz$History" ⟨"WagerQuiz$History", "prepare", "(LWagerQuiz$State;)V"⟩ ⟨"WagerQuiz$History", "prepare", "(LWagerQuiz$State;)V"⟩ : Cond) ∈ zeBT := zeBT_of (k := 279) (by decide +kernel) rfl
theorem zm_330 : (.instanceMethod ⟨"WagerQuiz$History", "commit", "()V"⟩ : Cond) ∈ zeBT := zeBT_of (k := 330) (by decide +kernel) rfl
theorem zm_329 : (.methodLink "WagerQuiz" 145 ⟨"WagerQuiz$History", "commit", "()V"⟩ : Cond) ∈ zeBT := zeBT_of (k := 329) (by decide +kernel) rfl
theorem zm_331 : (.selects "WagerQuiz$History" ⟨"WagerQuiz$History", "commit", "()V"⟩ ⟨"WagerQuiz$History", "commit", "()V"⟩ : Cond) ∈ zeBT := zeBT_of (k := 331) (by decide +kernel) rfl
theorem zm_92 : (.fieldLink "WagerQuiz" 168 "WagerQuiz$Log" "size" "I" : Cond) ∈ zeBT := zeBT_of (k := 92) (by decide +kernel) rfl
theorem zm_317 : (.constant "WagerQuiz" 385 (-10000003) : Cond) ∈ zeBT := zeBT_of (k := 317) (by decide +kernel) rfl
theorem zm_398 : (.methodLink "WagerQuiz$FinalRound" 19 ⟨"java/lang/Math", "max", "(II)I"⟩ : Cond) ∈ zeBT := zeBT_of (k := 398) (by decide +kernel) rfl
theorem zm_124 : (.fieldLink "WagerQuiz" 108 "WagerQuiz$State" "players" "I" : Cond) ∈ zeBT := zeBT_of (k := 124) (by decide +kernel) rfl
theorem zm_315 : (.instanceMethod ⟨"WagerQuiz", "refused", "(I)I"⟩ : Cond) ∈ zeBT := zeBT_of (k := 315) (by decide +kernel) rfl
theorem zm_313 : (.methodLink "WagerQuiz" 297 ⟨"WagerQuiz", "refused", "(I)I"⟩ : Cond) ∈ zeBT := zeBT_of (k := 313) (by decide +kernel) rfl
theorem zmp_2 : (.selects "WagerQuiz" ⟨"WagerQuiz", "refused", "(I)I"⟩ ⟨"WagerQuiz", "refused", "(I)I"⟩ : Cond) ∈ zeBT := zeBT_p (k := 2) (by decide +kernel) rfl
theorem zm_122 : (.fieldLink "WagerQuiz" 183 "WagerQuiz$State" "phase" "I" : Cond) ∈ zeBT := zeBT_of (k := 122) (by decide +kernel) rfl
theorem zm_134 : (.fieldLink "WagerQuiz" 195 "WagerQuiz$State" "finale" "LWagerQuiz$FinalRound;" : Cond) ∈ zeBT := zeBT_of (k := 134) (by decide +kernel) rfl
theorem zm_164 : (.fieldLink "WagerQuiz" 103 "WagerQuiz$Replay" "scores" "[I" : Cond) ∈ zeBT := zeBT_of (k := 164) (by decide +kernel) rfl
theorem zm_395 : (.instanceMethod ⟨"WagerQuiz$FinalRound", "begin", "([I)V"⟩ : Cond) ∈ zeBT := zeBT_of (k := 395) (by decide +kernel) rfl
theorem zm_394 : (.methodLink "WagerQuiz" 356 ⟨"WagerQuiz$FinalRound", "begin", "([I)V"⟩ : Cond) ∈ zeBT := zeBT_of (k := 394) (by decide +kernel) rfl
theorem zm_396 : (.selects "WagerQuiz$FinalRound" ⟨"WagerQuiz$FinalRound", "begin", "([I)V"⟩ ⟨"WagerQuiz$FinalRound", "begin", "([I)V"⟩ : Cond) ∈ zeBT := zeBT_of (k := 396) (by decide +kernel) rfl
theorem zm_402 : (.instanceMethod ⟨"WagerQuiz$FinalRound", "members", "()I"⟩ : Cond) ∈ zeBT := zeBT_of (k := 402) (by decide +kernel) rfl
theorem zm_401 : (.methodLink "WagerQuiz" 346 ⟨"WagerQuiz$FinalRound", "members", "()I"⟩ : Cond) ∈ zeBT := zeBT_of (k := 401) (by decide +kernel) rfl
theorem zm_403 : (.selects "WagerQuiz$FinalRound" ⟨"WagerQuiz$FinalRound", "members", "()I"⟩ ⟨"WagerQuiz$FinalRound", "members", "()I"⟩ : Cond) ∈ zeBT := zeBT_of (k := 403) (by decide +kernel) rfl
theorem zm_327 : (.constant "WagerQuiz" 207 (-10000002) : Cond) ∈ zeBT := zeBT_of (k := 327) (by decide +kernel) rfl
theorem zm_318 : (.constant "WagerQuiz" 132 (-10000004) : Cond) ∈ zeBT := zeBT_of (k := 318) (by decide +kernel) rfl
theorem zm_323 : (.methodLink "WagerQuiz" 139 ⟨"WagerQuiz", "isError", "(I)Z"⟩ : Cond) ∈ zeBT := zeBT_of (k := 323) (by decide +kernel) rfl
theorem zm_324 : (.static ⟨"WagerQuiz", "isError", "(I)Z"⟩ : Cond) ∈ zeBT := zeBT_of (k := 324) (by decide +kernel) rfl
theorem zm_392 : (.instanceMethod ⟨"WagerQuiz", "doBeginFinal", "()I"⟩ : Cond) ∈ zeBT := zeBT_of (k := 392) (by decide +kernel) rfl
theorem zm_390 : (.methodLink "WagerQuiz" 92 ⟨"WagerQuiz", "doBeginFinal", "()I"⟩ : Cond) ∈ zeBT := zeBT_of (k := 390) (by decide +kernel) rfl
theorem zmp_9 : (.selects "WagerQuiz" ⟨"WagerQuiz", "doBeginFinal", "()I"⟩ ⟨"WagerQuiz", "doBeginFinal", "()I"⟩ : Cond) ∈ zeBT := zeBT_p (k := 9) (by decide +kernel) rfl
theorem zm_321 : (.instanceMethod ⟨"WagerQuiz", "recorded", "(I)I"⟩ : Cond) ∈ zeBT := zeBT_of (k := 321) (by decide +kernel) rfl
theorem zm_319 : (.methodLink "WagerQuiz" 64 ⟨"WagerQuiz", "recorded", "(I)I"⟩ : Cond) ∈ zeBT := zeBT_of (k := 319) (by decide +kernel) rfl
theorem zmp_3 : (.selects "WagerQuiz" ⟨"WagerQuiz", "recorded", "(I)I"⟩ ⟨"WagerQuiz", "recorded", "(I)I"⟩ : Cond) ∈ zeBT := zeBT_p (k := 3) (by decide +kernel) rfl
theorem zm_350 : (.constant "java/lang/Integer" 265 (1431655765) : Cond) ∈ zeBT := zeBT_of (k := 350) (by decide +kernel) rfl
theorem zm_351 : (.constant "java/lang/Integer" 266 (858993459) : Cond) ∈ zeBT := zeBT_of (k := 351) (by decide +kernel) rfl
theorem zm_352 : (.constant "java/lang/Integer" 267 (252645135) : Cond) ∈ zeBT := zeBT_of (k := 352) (by decide +kernel) rfl
theorem zm_162 : (.fieldLink "WagerQuiz" 350 "WagerQuiz$Replay" "control" "I" : Cond) ∈ zeBT := zeBT_of (k := 162) (by decide +kernel) rfl
theorem zm_487 : (.instanceMethod ⟨"WagerQuiz", "playersAbove", "(I)I"⟩ : Cond) ∈ zeBT := zeBT_of (k := 487) (by decide +kernel) rfl
theorem zm_485 : (.methodLink "WagerQuiz" 177 ⟨"WagerQuiz", "playersAbove", "(I)I"⟩ : Cond) ∈ zeBT := zeBT_of (k := 485) (by decide +kernel) rfl
theorem zmp_16 : (.selects "WagerQuiz" ⟨"WagerQuiz", "playersAbove", "(I)I"⟩ ⟨"WagerQuiz", "playersAbove", "(I)I"⟩ : Cond) ∈ zeBT := zeBT_p (k := 16) (by decide +kernel) rfl
theorem zm_531 : (.instanceMethod ⟨"WagerQuiz$FinalRound", "isEarlier", "(II)Z"⟩ : Cond) ∈ zeBT := zeBT_of (k := 531) (by decide +kernel) rfl
theorem zm_529 : (.methodLink "WagerQuiz$FinalRound" 37 ⟨"WagerQuiz$FinalRound", "isEarlier", "(II)Z"⟩ : Cond) ∈ zeBT := zeBT_of (k := 529) (by decide +kernel) rfl
theorem zmp_22 : (.selects "WagerQuiz$FinalRound" ⟨"WagerQuiz$FinalRound", "isEarlier", "(II)Z"⟩ ⟨"WagerQuiz$FinalRound", "isEarlier", "(II)Z"⟩ : Cond) ∈ zeBT := zeBT_p (k := 22) (by decide +kernel) rfl
theorem zm_527 : (.instanceMethod ⟨"WagerQuiz$FinalRound", "turnOf", "(I)I"⟩ : Cond) ∈ zeBT := zeBT_of (k := 527) (by decide +kernel) rfl
theorem zm_525 : (.methodLink "WagerQuiz$FinalRound" 29 ⟨"WagerQuiz$FinalRound", "turnOf", "(I)I"⟩ : Cond) ∈ zeBT := zeBT_of (k := 525) (by decide +kernel) rfl
theorem zmp_21 : (.selects "WagerQuiz$FinalRound" ⟨"WagerQuiz$FinalRound", "turnOf", "(I)I"⟩ ⟨"WagerQuiz$FinalRound", "turnOf", "(I)I"⟩ : Cond) ∈ zeBT := zeBT_p (k := 21) (by decide +kernel) rfl
theorem zm_128 : (.fieldLink "WagerQuiz" 226 "WagerQuiz$State" "goneClues" "I" : Cond) ∈ zeBT := zeBT_of (k := 128) (by decide +kernel) rfl
theorem zm_347 : (.methodLink "WagerQuiz" 259 ⟨"java/lang/Integer", "bitCount", "(I)I"⟩ : Cond) ∈ zeBT := zeBT_of (k := 347) (by decide +kernel) rfl
theorem zm_348 : (.static ⟨"java/lang/Integer", "bitCount", "(I)I"⟩ : Cond) ∈ zeBT := zeBT_of (k := 348) (by decide +kernel) rfl
theorem zm_511 : (.instanceMethod ⟨"WagerQuiz", "isClueUnderWay", "()Z"⟩ : Cond) ∈ zeBT := zeBT_of (k := 511) (by decide +kernel) rfl
theorem zm_509 : (.methodLink "WagerQuiz" 264 ⟨"WagerQuiz", "isClueUnderWay", "()Z"⟩ : Cond) ∈ zeBT := zeBT_of (k := 509) (by decide +kernel) rfl
theorem zmp_18 : (.selects "WagerQuiz" ⟨"WagerQuiz", "isClueUnderWay", "()Z"⟩ ⟨"WagerQuiz", "isClueUnderWay", "()Z"⟩ : Cond) ∈ zeBT := zeBT_p (k := 18) (by decide +kernel) rfl
theorem zm_132 : (.fieldLink "WagerQuiz" 186 "WagerQuiz$State" "open" "LWagerQuiz$PickedClue;" : Cond) ∈ zeBT := zeBT_of (k := 132) (by decide +kernel) rfl
theorem zm_34 : (.fieldLink "WagerQuiz" 268 "WagerQuiz$PickedClue" "clue" "I" : Cond) ∈ zeBT := zeBT_of (k := 34) (by decide +kernel) rfl
theorem zm_376 : (.instanceMethod ⟨"WagerQuiz", "controller", "()I"⟩ : Cond) ∈ zeBT := zeBT_of (k := 376) (by decide +kernel) rfl
theorem zm_374 : (.methodLink "WagerQuiz" 271 ⟨"WagerQuiz", "controller", "()I"⟩ : Cond) ∈ zeBT := zeBT_of (k := 374) (by decide +kernel) rfl
theorem zmp_8 : (.selects "WagerQuiz" ⟨"WagerQuiz", "controller", "()I"⟩ ⟨"WagerQuiz", "controller", "()I"⟩ : Cond) ∈ zeBT := zeBT_p (k := 8) (by decide +kernel) rfl
theorem zm_515 : (.instanceMethod ⟨"WagerQuiz", "leaders", "()I"⟩ : Cond) ∈ zeBT := zeBT_of (k := 515) (by decide +kernel) rfl
theorem zm_513 : (.methodLink "WagerQuiz" 274 ⟨"WagerQuiz", "leaders", "()I"⟩ : Cond) ∈ zeBT := zeBT_of (k := 513) (by decide +kernel) rfl
theorem zmp_19 : (.selects "WagerQuiz" ⟨"WagerQuiz", "leaders", "()I"⟩ ⟨"WagerQuiz", "leaders", "()I"⟩ : Cond) ∈ zeBT := zeBT_p (k := 19) (by decide +kernel) rfl
theorem zm_519 : (.instanceMethod ⟨"WagerQuiz", "sumOfScores", "()I"⟩ : Cond) ∈ zeBT := zeBT_of (k := 519) (by decide +kernel) rfl
theorem zm_517 : (.methodLink "WagerQuiz" 277 ⟨"WagerQuiz", "sumOfScores", "()I"⟩ : Cond) ∈ zeBT := zeBT_of (k := 517) (by decide +kernel) rfl
theorem zmp_20 : (.selects "WagerQuiz" ⟨"WagerQuiz", "sumOfScores", "()I"⟩ ⟨"WagerQuiz", "sumOfScores", "()I"⟩ : Cond) ∈ zeBT := zeBT_p (k := 20) (by decide +kernel) rfl
theorem zm_130 : (.fieldLink "WagerQuiz" 280 "WagerQuiz$State" "settings" "[I" : Cond) ∈ zeBT := zeBT_of (k := 130) (by decide +kernel) rfl
theorem zm_228 : (.fieldLink "WagerQuiz" 129 "WagerQuiz$Script" "length" "I" : Cond) ∈ zeBT := zeBT_of (k := 228) (by decide +kernel) rfl
theorem zm_522 : (.instanceMethod ⟨"WagerQuiz$FinalRound", "nextToAnswer", "()I"⟩ : Cond) ∈ zeBT := zeBT_of (k := 522) (by decide +kernel) rfl
theorem zm_521 : (.methodLink "WagerQuiz" 283 ⟨"WagerQuiz$FinalRound", "nextToAnswer", "()I"⟩ : Cond) ∈ zeBT := zeBT_of (k := 521) (by decide +kernel) rfl
theorem zm_523 : (.selects "WagerQuiz$FinalRound" ⟨"WagerQuiz$FinalRound", "nextToAnswer", "()I"⟩ ⟨"WagerQuiz$FinalRound", "nextToAnswer", "()I"⟩ : Cond) ∈ zeBT := zeBT_of (k := 523) (by decide +kernel) rfl
theorem zm_382 : (.constant "WagerQuiz$PickedClue" 38 (-10000005) : Cond) ∈ zeBT := zeBT_of (k := 382) (by decide +kernel) rfl
theorem zm_372 : (.instanceMethod ⟨"WagerQuiz", "isPlayer", "(I)Z"⟩ : Cond) ∈ zeBT := zeBT_of (k := 372) (by decide +kernel) rfl
theorem zm_370 : (.methodLink "WagerQuiz" 98 ⟨"WagerQuiz", "isPlayer", "(I)Z"⟩ : Cond) ∈ zeBT := zeBT_of (k := 370) (by decide +kernel) rfl
theorem zmp_7 : (.selects "WagerQuiz" ⟨"WagerQuiz", "isPlayer", "(I)Z"⟩ ⟨"WagerQuiz", "isPlayer", "(I)Z"⟩ : Cond) ∈ zeBT := zeBT_p (k := 7) (by decide +kernel) rfl
theorem zm_341 : (.methodLink "WagerQuiz" 214 ⟨"WagerQuiz", "isClue", "(I)Z"⟩ : Cond) ∈ zeBT := zeBT_of (k := 341) (by decide +kernel) rfl
theorem zm_344 : (.methodLink "WagerQuiz" 223 ⟨"WagerQuiz", "bitOf", "(II)I"⟩ : Cond) ∈ zeBT := zeBT_of (k := 344) (by decide +kernel) rfl
theorem zm_345 : (.static ⟨"WagerQuiz", "bitOf", "(II)I"⟩ : Cond) ∈ zeBT := zeBT_of (k := 345) (by decide +kernel) rfl
theorem zm_379 : (.instanceMethod ⟨"WagerQuiz$PickedClue", "begin", "(III)V"⟩ : Cond) ∈ zeBT := zeBT_of (k := 379) (by decide +kernel) rfl
theorem zm_378 : (.methodLink "WagerQuiz" 303 ⟨"WagerQuiz$PickedClue", "begin", "(III)V"⟩ : Cond) ∈ zeBT := zeBT_of (k := 378) (by decide +kernel) rfl
theorem zm_380 : (.selects "WagerQuiz$PickedClue" ⟨"WagerQuiz$PickedClue", "begin", "(III)V"⟩ ⟨"WagerQuiz$PickedClue", "begin", "(III)V"⟩ : Cond) ∈ zeBT := zeBT_of (k := 380) (by decide +kernel) rfl
theorem zm_126 : (.fieldLink "WagerQuiz" 220 "WagerQuiz$State" "wagerClues" "I" : Cond) ∈ zeBT := zeBT_of (k := 126) (by decide +kernel) rfl
theorem zm_383 : (.methodLink "WagerQuiz" 217 ⟨"WagerQuiz", "valueOf", "(I)I"⟩ : Cond) ∈ zeBT := zeBT_of (k := 383) (by decide +kernel) rfl
theorem zm_384 : (.static ⟨"WagerQuiz", "valueOf", "(I)I"⟩ : Cond) ∈ zeBT := zeBT_of (k := 384) (by decide +kernel) rfl
theorem zm_368 : (.instanceMethod ⟨"WagerQuiz", "doPick", "(II)I"⟩ : Cond) ∈ zeBT := zeBT_of (k := 368) (by decide +kernel) rfl
theorem zm_366 : (.methodLink "WagerQuiz" 76 ⟨"WagerQuiz", "doPick", "(II)I"⟩ : Cond) ∈ zeBT := zeBT_of (k := 366) (by decide +kernel) rfl
theorem zmp_6 : (.selects "WagerQuiz" ⟨"WagerQuiz", "doPick", "(II)I"⟩ ⟨"WagerQuiz", "doPick", "(II)I"⟩ : Cond) ∈ zeBT := zeBT_p (k := 6) (by decide +kernel) rfl
theorem zm_536 : (.constant "WagerQuizLaw" 7 (2270021) : Cond) ∈ zeBT := zeBT_of (k := 536) (by decide +kernel) rfl
theorem zm_540 : (.constant "WagerQuizLaw" 8 (2147483647) : Cond) ∈ zeBT := zeBT_of (k := 540) (by decide +kernel) rfl
theorem zm_311 : (.instanceMethod ⟨"WagerQuiz", "isBeforeFirstPick", "()Z"⟩ : Cond) ∈ zeBT := zeBT_of (k := 311) (by decide +kernel) rfl
theorem zm_309 : (.methodLink "WagerQuiz" 294 ⟨"WagerQuiz", "isBeforeFirstPick", "()Z"⟩ : Cond) ∈ zeBT := zeBT_of (k := 309) (by decide +kernel) rfl
theorem zmp_1 : (.selects "WagerQuiz" ⟨"WagerQuiz", "isBeforeFirstPick", "()Z"⟩ ⟨"WagerQuiz", "isBeforeFirstPick", "()Z"⟩ : Cond) ∈ zeBT := zeBT_p (k := 1) (by decide +kernel) rfl
theorem zm_307 : (.instanceMethod ⟨"WagerQuiz", "doAddPlayer", "()I"⟩ : Cond) ∈ zeBT := zeBT_of (k := 307) (by decide +kernel) rfl
theorem zm_305 : (.methodLink "WagerQuiz" 60 ⟨"WagerQuiz", "doAddPlayer", "()I"⟩ : Cond) ∈ zeBT := zeBT_of (k := 305) (by decide +kernel) rfl
theorem zmp_0 : (.selects "WagerQuiz" ⟨"WagerQuiz", "doAddPlayer", "()I"⟩ ⟨"WagerQuiz", "doAddPlayer", "()I"⟩ : Cond) ∈ zeBT := zeBT_p (k := 0) (by decide +kernel) rfl
theorem zm_502 : (.instanceMethod ⟨"WagerQuiz$Log", "answersTo", "(I)I"⟩ : Cond) ∈ zeBT := zeBT_of (k := 502) (by decide +kernel) rfl
theorem zm_501 : (.methodLink "WagerQuiz" 229 ⟨"WagerQuiz$Log", "answersTo", "(I)I"⟩ : Cond) ∈ zeBT := zeBT_of (k := 501) (by decide +kernel) rfl
theorem zm_503 : (.selects "WagerQuiz$Log" ⟨"WagerQuiz$Log", "answersTo", "(I)I"⟩ ⟨"WagerQuiz$Log", "answersTo", "(I)I"⟩ : Cond) ∈ zeBT := zeBT_of (k := 503) (by decide +kernel) rfl
theorem zm_172 : (.fieldLink "WagerQuiz" 232 "WagerQuiz$Replay" "solvers" "[I" : Cond) ∈ zeBT := zeBT_of (k := 172) (by decide +kernel) rfl
theorem zm_339 : (.instanceMethod ⟨"WagerQuiz", "doSetWagerClue", "(IZ)I"⟩ : Cond) ∈ zeBT := zeBT_of (k := 339) (by decide +kernel) rfl
theorem zm_337 : (.methodLink "WagerQuiz" 68 ⟨"WagerQuiz", "doSetWagerClue", "(IZ)I"⟩ : Cond) ∈ zeBT := zeBT_of (k := 337) (by decide +kernel) rfl
theorem zmp_4 : (.selects "WagerQuiz" ⟨"WagerQuiz", "doSetWagerClue", "(IZ)I"⟩ ⟨"WagerQuiz", "doSetWagerClue", "(IZ)I"⟩ : Cond) ∈ zeBT := zeBT_p (k := 4) (by decide +kernel) rfl
theorem zm_498 : (.instanceMethod ⟨"WagerQuiz", "clue", "(II)I"⟩ : Cond) ∈ zeBT := zeBT_of (k := 498) (by decide +kernel) rfl
theorem zm_497 : (.methodLink "WagerQuizLaw" 26 ⟨"WagerQuiz", "clue", "(II)I"⟩ : Cond) ∈ zeBT := zeBT_of (k := 497) (by decide +kernel) rfl
theorem zm_499 : (.selects "WagerQuiz" ⟨"WagerQuiz", "clue", "(II)I"⟩ ⟨"WagerQuiz", "clue", "(II)I"⟩ : Cond) ∈ zeBT := zeBT_of (k := 499) (by decide +kernel) rfl
theorem zm_42 : (.fieldLink "WagerQuiz" 190 "WagerQuiz$PickedClue" "countingTicks" "[I" : Cond) ∈ zeBT := zeBT_of (k := 42) (by decide +kernel) rfl
theorem zm_40 : (.fieldLink "WagerQuiz" 340 "WagerQuiz$PickedClue" "answered" "I" : Cond) ∈ zeBT := zeBT_of (k := 40) (by decide +kernel) rfl
theorem zm_584 : (.instanceMethod ⟨"WagerQuiz", "isQueued", "(I)Z"⟩ : Cond) ∈ zeBT := zeBT_of (k := 584) (by decide +kernel) rfl
theorem zm_582 : (.methodLink "WagerQuiz" 403 ⟨"WagerQuiz", "isQueued", "(I)Z"⟩ : Cond) ∈ zeBT := zeBT_of (k := 582) (by decide +kernel) rfl
theorem zmp_26 : (.selects "WagerQuiz" ⟨"WagerQuiz", "isQueued", "(I)Z"⟩ ⟨"WagerQuiz", "isQueued", "(I)Z"⟩ : Cond) ∈ zeBT := zeBT_p (k := 26) (by decide +kernel) rfl
theorem zm_592 : (.instanceMethod ⟨"WagerQuiz", "isQueuedAhead", "(II)Z"⟩ : Cond) ∈ zeBT := zeBT_of (k := 592) (by decide +kernel) rfl
theorem zm_590 : (.methodLink "WagerQuiz" 406 ⟨"WagerQuiz", "isQueuedAhead", "(II)Z"⟩ : Cond) ∈ zeBT := zeBT_of (k := 590) (by decide +kernel) rfl
theorem zmp_28 : (.selects "WagerQuiz" ⟨"WagerQuiz", "isQueuedAhead", "(II)Z"⟩ ⟨"WagerQuiz", "isQueuedAhead", "(II)Z"⟩ : Cond) ∈ zeBT := zeBT_p (k := 28) (by decide +kernel) rfl
theorem zm_588 : (.instanceMethod ⟨"WagerQuiz", "queuePlaceOf", "(I)I"⟩ : Cond) ∈ zeBT := zeBT_of (k := 588) (by decide +kernel) rfl
theorem zm_586 : (.methodLink "WagerQuiz" 409 ⟨"WagerQuiz", "queuePlaceOf", "(I)I"⟩ : Cond) ∈ zeBT := zeBT_of (k := 586) (by decide +kernel) rfl
theorem zmp_27 : (.selects "WagerQuiz" ⟨"WagerQuiz", "queuePlaceOf", "(I)I"⟩ ⟨"WagerQuiz", "queuePlaceOf", "(I)I"⟩ : Cond) ∈ zeBT := zeBT_p (k := 27) (by decide +kernel) rfl
theorem zm_580 : (.instanceMethod ⟨"WagerQuiz", "playerInQueue", "(I)I"⟩ : Cond) ∈ zeBT := zeBT_of (k := 580) (by decide +kernel) rfl
theorem zm_578 : (.methodLink "WagerQuiz" 211 ⟨"WagerQuiz", "playerInQueue", "(I)I"⟩ : Cond) ∈ zeBT := zeBT_of (k := 578) (by decide +kernel) rfl
theorem zmp_25 : (.selects "WagerQuiz" ⟨"WagerQuiz", "playerInQueue", "(I)I"⟩ ⟨"WagerQuiz", "playerInQueue", "(I)I"⟩ : Cond) ∈ zeBT := zeBT_p (k := 25) (by decide +kernel) rfl
theorem zm_607 : (.instanceMethod ⟨"WagerQuiz$PickedClue", "isTold", "(II)Z"⟩ : Cond) ∈ zeBT := zeBT_of (k := 607) (by decide +kernel) rfl
theorem zm_622 : (.methodLink "WagerQuiz$PickedClue" 46 ⟨"WagerQuiz$PickedClue", "isTold", "(II)Z"⟩ : Cond) ∈ zeBT := zeBT_of (k := 622) (by decide +kernel) rfl
theorem zm_608 : (.selects "WagerQuiz$PickedClue" ⟨"WagerQuiz$PickedClue", "isTold", "(II)Z"⟩ ⟨"WagerQuiz$PickedClue", "isTold", "(II)Z"⟩ : Cond) ∈ zeBT := zeBT_of (k := 608) (by decide +kernel) rfl
theorem zm_623 : (.methodLink "WagerQuiz$PickedClue" 50 ⟨"java/lang/Math", "max", "(II)I"⟩ : Cond) ∈ zeBT := zeBT_of (k := 623) (by decide +kernel) rfl
theorem zm_620 : (.instanceMethod ⟨"WagerQuiz$PickedClue", "endOfLock", "(I)I"⟩ : Cond) ∈ zeBT := zeBT_of (k := 620) (by decide +kernel) rfl
theorem zm_618 : (.methodLink "WagerQuiz$PickedClue" 43 ⟨"WagerQuiz$PickedClue", "endOfLock", "(I)I"⟩ : Cond) ∈ zeBT := zeBT_of (k := 618) (by decide +kernel) rfl
theorem zmp_31 : (.selects "WagerQuiz$PickedClue" ⟨"WagerQuiz$PickedClue", "endOfLock", "(I)I"⟩ ⟨"WagerQuiz$PickedClue", "endOfLock", "(I)I"⟩ : Cond) ∈ zeBT := zeBT_p (k := 31) (by decide +kernel) rfl
theorem zm_616 : (.instanceMethod ⟨"WagerQuiz$PickedClue", "leastCountingTick", "(I)I"⟩ : Cond) ∈ zeBT := zeBT_of (k := 616) (by decide +kernel) rfl
theorem zm_614 : (.methodLink "WagerQuiz$PickedClue" 39 ⟨"WagerQuiz$PickedClue", "leastCountingTick", "(I)I"⟩ : Cond) ∈ zeBT := zeBT_of (k := 614) (by decide +kernel) rfl
theorem zmp_30 : (.selects "WagerQuiz$PickedClue" ⟨"WagerQuiz$PickedClue", "leastCountingTick", "(I)I"⟩ ⟨"WagerQuiz$PickedClue", "leastCountingTick", "(I)I"⟩ : Cond) ∈ zeBT := zeBT_p (k := 30) (by decide +kernel) rfl
theorem zm_606 : (.methodLink "WagerQuiz" 307 ⟨"WagerQuiz$PickedClue", "isTold", "(II)Z"⟩ : Cond) ∈ zeBT := zeBT_of (k := 606) (by decide +kernel) rfl
theorem zm_611 : (.instanceMethod ⟨"WagerQuiz$PickedClue", "tell", "(II)V"⟩ : Cond) ∈ zeBT := zeBT_of (k := 611) (by decide +kernel) rfl
theorem zm_610 : (.methodLink "WagerQuiz" 311 ⟨"WagerQuiz$PickedClue", "tell", "(II)V"⟩ : Cond) ∈ zeBT := zeBT_of (k := 610) (by decide +kernel) rfl
theorem zm_612 : (.selects "WagerQuiz$PickedClue" ⟨"WagerQuiz$PickedClue", "tell", "(II)V"⟩ ⟨"WagerQuiz$PickedClue", "tell", "(II)V"⟩ : Cond) ∈ zeBT := zeBT_of (k := 612) (by decide +kernel) rfl
theorem zm_626 : (.instanceMethod ⟨"WagerQuiz", "queueLength", "()I"⟩ : Cond) ∈ zeBT := zeBT_of (k := 626) (by decide +kernel) rfl
theorem zm_624 : (.methodLink "WagerQuiz" 315 ⟨"WagerQuiz", "queueLength", "()I"⟩ : Cond) ∈ zeBT := zeBT_of (k := 624) (by decide +kernel) rfl
theorem zmp_32 : (.selects "WagerQuiz" ⟨"WagerQuiz", "queueLength", "()I"⟩ ⟨"WagerQuiz", "queueLength", "()I"⟩ : Cond) ∈ zeBT := zeBT_p (k := 32) (by decide +kernel) rfl
theorem zm_604 : (.instanceMethod ⟨"WagerQuiz", "doBuzz", "(II)I"⟩ : Cond) ∈ zeBT := zeBT_of (k := 604) (by decide +kernel) rfl
theorem zm_602 : (.methodLink "WagerQuiz" 79 ⟨"WagerQuiz", "doBuzz", "(II)I"⟩ : Cond) ∈ zeBT := zeBT_of (k := 602) (by decide +kernel) rfl
theorem zmp_29 : (.selects "WagerQuiz" ⟨"WagerQuiz", "doBuzz", "(II)I"⟩ ⟨"WagerQuiz", "doBuzz", "(II)I"⟩ : Cond) ∈ zeBT := zeBT_p (k := 29) (by decide +kernel) rfl
theorem zm_494 : (.instanceMethod ⟨"WagerQuiz$Replay", "isAhead", "(II)Z"⟩ : Cond) ∈ zeBT := zeBT_of (k := 494) (by decide +kernel) rfl
theorem zm_493 : (.methodLink "WagerQuiz" 386 ⟨"WagerQuiz$Replay", "isAhead", "(II)Z"⟩ : Cond) ∈ zeBT := zeBT_of (k := 493) (by decide +kernel) rfl
theorem zm_495 : (.selects "WagerQuiz$Replay" ⟨"WagerQuiz$Replay", "isAhead", "(II)Z"⟩ ⟨"WagerQuiz$Replay", "isAhead", "(II)Z"⟩ : Cond) ∈ zeBT := zeBT_of (k := 495) (by decide +kernel) rfl
theorem zm_166 : (.fieldLink "WagerQuiz" 171 "WagerQuiz$Replay" "rights" "[I" : Cond) ∈ zeBT := zeBT_of (k := 166) (by decide +kernel) rfl
theorem zm_168 : (.fieldLink "WagerQuiz" 174 "WagerQuiz$Replay" "wrongs" "[I" : Cond) ∈ zeBT := zeBT_of (k := 168) (by decide +kernel) rfl
theorem zm_491 : (.instanceMethod ⟨"WagerQuiz", "placeOf", "(I)I"⟩ : Cond) ∈ zeBT := zeBT_of (k := 491) (by decide +kernel) rfl
theorem zm_489 : (.methodLink "WagerQuiz" 180 ⟨"WagerQuiz", "placeOf", "(I)I"⟩ : Cond) ∈ zeBT := zeBT_of (k := 489) (by decide +kernel) rfl
theorem zmp_17 : (.selects "WagerQuiz" ⟨"WagerQuiz", "placeOf", "(I)I"⟩ ⟨"WagerQuiz", "placeOf", "(I)I"⟩ : Cond) ∈ zeBT := zeBT_p (k := 17) (by decide +kernel) rfl
theorem zm_76 : (.fieldLink "WagerQuiz" 199 "WagerQuiz$FinalRound" "wagers" "[I" : Cond) ∈ zeBT := zeBT_of (k := 76) (by decide +kernel) rfl
theorem zm_170 : (.fieldLink "WagerQuiz" 204 "WagerQuiz$Replay" "corrections" "[I" : Cond) ∈ zeBT := zeBT_of (k := 170) (by decide +kernel) rfl
theorem zm_634 : (.instanceMethod ⟨"WagerQuiz", "doClose", "()I"⟩ : Cond) ∈ zeBT := zeBT_of (k := 634) (by decide +kernel) rfl
theorem zm_632 : (.methodLink "WagerQuiz" 86 ⟨"WagerQuiz", "doClose", "()I"⟩ : Cond) ∈ zeBT := zeBT_of (k := 632) (by decide +kernel) rfl
theorem zmp_33 : (.selects "WagerQuiz" ⟨"WagerQuiz", "doClose", "()I"⟩ ⟨"WagerQuiz", "doClose", "()I"⟩ : Cond) ∈ zeBT := zeBT_p (k := 33) (by decide +kernel) rfl
theorem zm_414 : (.instanceMethod ⟨"WagerQuiz$Log", "isFull", "()Z"⟩ : Cond) ∈ zeBT := zeBT_of (k := 414) (by decide +kernel) rfl
theorem zm_421 : (.methodLink "WagerQuiz$Log" 31 ⟨"WagerQuiz$Log", "isFull", "()Z"⟩ : Cond) ∈ zeBT := zeBT_of (k := 421) (by decide +kernel) rfl
theorem zm_415 : (.selects "WagerQuiz$Log" ⟨"WagerQuiz$Log", "isFull", "()Z"⟩ ⟨"WagerQuiz$Log", "isFull", "()Z"⟩ : Cond) ∈ zeBT := zeBT_of (k := 415) (by decide +kernel) rfl
theorem zm_418 : (.instanceMethod ⟨"WagerQuiz$Log", "append", "(IIIII)V"⟩ : Cond) ∈ zeBT := zeBT_of (k := 418) (by decide +kernel) rfl
theorem zm_417 : (.methodLink "WagerQuiz" 331 ⟨"WagerQuiz$Log", "append", "(IIIII)V"⟩ : Cond) ∈ zeBT := zeBT_of (k := 417) (by decide +kernel) rfl
theorem zm_419 : (.selects "WagerQuiz$Log" ⟨"WagerQuiz$Log", "append", "(IIIII)V"⟩ ⟨"WagerQuiz$Log", "append", "(IIIII)V"⟩ : Cond) ∈ zeBT := zeBT_of (k := 419) (by decide +kernel) rfl
theorem zm_72 : (.fieldLink "WagerQuiz" 343 "WagerQuiz$FinalRound" "answers" "I" : Cond) ∈ zeBT := zeBT_of (k := 72) (by decide +kernel) rfl
theorem zm_454 : (.instanceMethod ⟨"WagerQuiz$Replay", "scoreOf", "(I)I"⟩ : Cond) ∈ zeBT := zeBT_of (k := 454) (by decide +kernel) rfl
theorem zm_453 : (.methodLink "WagerQuiz" 353 ⟨"WagerQuiz$Replay", "scoreOf", "(I)I"⟩ : Cond) ∈ zeBT := zeBT_of (k := 453) (by decide +kernel) rfl
theorem zm_455 : (.selects "WagerQuiz$Replay" ⟨"WagerQuiz$Replay", "scoreOf", "(I)I"⟩ ⟨"WagerQuiz$Replay", "scoreOf", "(I)I"⟩ : Cond) ∈ zeBT := zeBT_of (k := 455) (by decide +kernel) rfl
theorem zm_646 : (.instanceMethod ⟨"WagerQuiz", "playerToAnswer", "()I"⟩ : Cond) ∈ zeBT := zeBT_of (k := 646) (by decide +kernel) rfl
theorem zm_644 : (.methodLink "WagerQuiz" 318 ⟨"WagerQuiz", "playerToAnswer", "()I"⟩ : Cond) ∈ zeBT := zeBT_of (k := 644) (by decide +kernel) rfl
theorem zmp_35 : (.selects "WagerQuiz" ⟨"WagerQuiz", "playerToAnswer", "()I"⟩ ⟨"WagerQuiz", "playerToAnswer", "()I"⟩ : Cond) ∈ zeBT := zeBT_p (k := 35) (by decide +kernel) rfl
theorem zm_413 : (.methodLink "WagerQuiz" 321 ⟨"WagerQuiz$Log", "isFull", "()Z"⟩ : Cond) ∈ zeBT := zeBT_of (k := 413) (by decide +kernel) rfl
theorem zm_650 : (.instanceMethod ⟨"WagerQuiz", "answerOpenClue", "(IZ)V"⟩ : Cond) ∈ zeBT := zeBT_of (k := 650) (by decide +kernel) rfl
theorem zm_648 : (.methodLink "WagerQuiz" 324 ⟨"WagerQuiz", "answerOpenClue", "(IZ)V"⟩ : Cond) ∈ zeBT := zeBT_of (k := 648) (by decide +kernel) rfl
theorem zmp_36 : (.selects "WagerQuiz" ⟨"WagerQuiz", "answerOpenClue", "(IZ)V"⟩ ⟨"WagerQuiz", "answerOpenClue", "(IZ)V"⟩ : Cond) ∈ zeBT := zeBT_p (k := 36) (by decide +kernel) rfl
theorem zm_38 : (.fieldLink "WagerQuiz" 328 "WagerQuiz$PickedClue" "wager" "I" : Cond) ∈ zeBT := zeBT_of (k := 38) (by decide +kernel) rfl
theorem zm_654 : (.instanceMethod ⟨"WagerQuiz", "answerFinal", "(IZ)V"⟩ : Cond) ∈ zeBT := zeBT_of (k := 654) (by decide +kernel) rfl
theorem zm_652 : (.methodLink "WagerQuiz" 334 ⟨"WagerQuiz", "answerFinal", "(IZ)V"⟩ : Cond) ∈ zeBT := zeBT_of (k := 652) (by decide +kernel) rfl
theorem zmp_37 : (.selects "WagerQuiz" ⟨"WagerQuiz", "answerFinal", "(IZ)V"⟩ ⟨"WagerQuiz", "answerFinal", "(IZ)V"⟩ : Cond) ∈ zeBT := zeBT_p (k := 37) (by decide +kernel) rfl
theorem zm_424 : (.instanceMethod ⟨"WagerQuiz", "replayedScore", "(I)I"⟩ : Cond) ∈ zeBT := zeBT_of (k := 424) (by decide +kernel) rfl
theorem zm_422 : (.methodLink "WagerQuiz" 337 ⟨"WagerQuiz", "replayedScore", "(I)I"⟩ : Cond) ∈ zeBT := zeBT_of (k := 422) (by decide +kernel) rfl
theorem zmp_11 : (.selects "WagerQuiz" ⟨"WagerQuiz", "replayedScore", "(I)I"⟩ ⟨"WagerQuiz", "replayedScore", "(I)I"⟩ : Cond) ∈ zeBT := zeBT_p (k := 11) (by decide +kernel) rfl
theorem zm_642 : (.instanceMethod ⟨"WagerQuiz", "doAnswer", "(Z)I"⟩ : Cond) ∈ zeBT := zeBT_of (k := 642) (by decide +kernel) rfl
theorem zm_640 : (.methodLink "WagerQuiz" 82 ⟨"WagerQuiz", "doAnswer", "(Z)I"⟩ : Cond) ∈ zeBT := zeBT_of (k := 640) (by decide +kernel) rfl
theorem zmp_34 : (.selects "WagerQuiz" ⟨"WagerQuiz", "doAnswer", "(Z)I"⟩ ⟨"WagerQuiz", "doAnswer", "(Z)I"⟩ : Cond) ∈ zeBT := zeBT_p (k := 34) (by decide +kernel) rfl
theorem zm_552 : (.instanceMethod ⟨"WagerQuiz", "isEntry", "(I)Z"⟩ : Cond) ∈ zeBT := zeBT_of (k := 552) (by decide +kernel) rfl
theorem zm_550 : (.methodLink "WagerQuiz" 235 ⟨"WagerQuiz", "isEntry", "(I)Z"⟩ : Cond) ∈ zeBT := zeBT_of (k := 550) (by decide +kernel) rfl
theorem zmp_23 : (.selects "WagerQuiz" ⟨"WagerQuiz", "isEntry", "(I)Z"⟩ ⟨"WagerQuiz", "isEntry", "(I)Z"⟩ : Cond) ∈ zeBT := zeBT_p (k := 23) (by decide +kernel) rfl
theorem zm_95 : (.fieldLink "WagerQuiz" 238 "WagerQuiz$Log" "players" "[I" : Cond) ∈ zeBT := zeBT_of (k := 95) (by decide +kernel) rfl
theorem zm_98 : (.fieldLink "WagerQuiz" 240 "WagerQuiz$Log" "sorts" "[I" : Cond) ∈ zeBT := zeBT_of (k := 98) (by decide +kernel) rfl
theorem zm_101 : (.fieldLink "WagerQuiz" 243 "WagerQuiz$Log" "clues" "[I" : Cond) ∈ zeBT := zeBT_of (k := 101) (by decide +kernel) rfl
theorem zm_104 : (.fieldLink "WagerQuiz" 246 "WagerQuiz$Log" "amounts" "[I" : Cond) ∈ zeBT := zeBT_of (k := 104) (by decide +kernel) rfl
theorem zm_174 : (.fieldLink "WagerQuiz" 249 "WagerQuiz$Replay" "amounts" "[I" : Cond) ∈ zeBT := zeBT_of (k := 174) (by decide +kernel) rfl
theorem zm_107 : (.fieldLink "WagerQuiz" 250 "WagerQuiz$Log" "judgements" "[I" : Cond) ∈ zeBT := zeBT_of (k := 107) (by decide +kernel) rfl
theorem zm_176 : (.fieldLink "WagerQuiz" 253 "WagerQuiz$Replay" "scoresBehind" "[I" : Cond) ∈ zeBT := zeBT_of (k := 176) (by decide +kernel) rfl
theorem zm_178 : (.fieldLink "WagerQuiz" 256 "WagerQuiz$Replay" "voids" "[Z" : Cond) ∈ zeBT := zeBT_of (k := 178) (by decide +kernel) rfl
theorem zm_664 : (.constant "WagerQuiz" 349 (100000) : Cond) ∈ zeBT := zeBT_of (k := 664) (by decide +kernel) rfl
theorem zm_665 : (.methodLink "WagerQuiz" 114 ⟨"java/lang/Math", "max", "(II)I"⟩ : Cond) ∈ zeBT := zeBT_of (k := 665) (by decide +kernel) rfl
theorem zm_662 : (.instanceMethod ⟨"WagerQuiz", "doWager", "(I)I"⟩ : Cond) ∈ zeBT := zeBT_of (k := 662) (by decide +kernel) rfl
theorem zm_660 : (.methodLink "WagerQuiz" 89 ⟨"WagerQuiz", "doWager", "(I)I"⟩ : Cond) ∈ zeBT := zeBT_of (k := 660) (by decide +kernel) rfl
theorem zmp_38 : (.selects "WagerQuiz" ⟨"WagerQuiz", "doWager", "(I)I"⟩ ⟨"WagerQuiz", "doWager", "(I)I"⟩ : Cond) ∈ zeBT := zeBT_p (k := 38) (by decide +kernel) rfl
theorem zm_675 : (.instanceMethod ⟨"WagerQuiz$FinalRound", "isWagerWanting", "(I)Z"⟩ : Cond) ∈ zeBT := zeBT_of (k := 675) (by decide +kernel) rfl
theorem zm_682 : (.methodLink "WagerQuiz$FinalRound" 25 ⟨"WagerQuiz$FinalRound", "isWagerWanting", "(I)Z"⟩ : Cond) ∈ zeBT := zeBT_of (k := 682) (by decide +kernel) rfl
theorem zm_676 : (.selects "WagerQuiz$FinalRound" ⟨"WagerQuiz$FinalRound", "isWagerWanting", "(I)Z"⟩ ⟨"WagerQuiz$FinalRound", "isWagerWanting", "(I)Z"⟩ : Cond) ∈ zeBT := zeBT_of (k := 676) (by decide +kernel) rfl
theorem zm_674 : (.methodLink "WagerQuiz" 359 ⟨"WagerQuiz$FinalRound", "isWagerWanting", "(I)Z"⟩ : Cond) ∈ zeBT := zeBT_of (k := 674) (by decide +kernel) rfl
theorem zm_74 : (.fieldLink "WagerQuiz" 362 "WagerQuiz$FinalRound" "startScores" "[I" : Cond) ∈ zeBT := zeBT_of (k := 74) (by decide +kernel) rfl
theorem zm_679 : (.instanceMethod ⟨"WagerQuiz$FinalRound", "wagersWanting", "()I"⟩ : Cond) ∈ zeBT := zeBT_of (k := 679) (by decide +kernel) rfl
theorem zm_678 : (.methodLink "WagerQuiz" 365 ⟨"WagerQuiz$FinalRound", "wagersWanting", "()I"⟩ : Cond) ∈ zeBT := zeBT_of (k := 678) (by decide +kernel) rfl
theorem zm_680 : (.selects "WagerQuiz$FinalRound" ⟨"WagerQuiz$FinalRound", "wagersWanting", "()I"⟩ ⟨"WagerQuiz$FinalRound", "wagersWanting", "()I"⟩ : Cond) ∈ zeBT := zeBT_of (k := 680) (by decide +kernel) rfl
theorem zm_672 : (.instanceMethod ⟨"WagerQuiz", "doWagerFinal", "(II)I"⟩ : Cond) ∈ zeBT := zeBT_of (k := 672) (by decide +kernel) rfl
theorem zm_670 : (.methodLink "WagerQuiz" 95 ⟨"WagerQuiz", "doWagerFinal", "(II)I"⟩ : Cond) ∈ zeBT := zeBT_of (k := 670) (by decide +kernel) rfl
theorem zmp_39 : (.selects "WagerQuiz" ⟨"WagerQuiz", "doWagerFinal", "(II)I"⟩ ⟨"WagerQuiz", "doWagerFinal", "(II)I"⟩ : Cond) ∈ zeBT := zeBT_p (k := 39) (by decide +kernel) rfl
theorem zm_506 : (.instanceMethod ⟨"WagerQuiz", "count", "(I)I"⟩ : Cond) ∈ zeBT := zeBT_of (k := 506) (by decide +kernel) rfl
theorem zm_505 : (.methodLink "WagerQuizLaw" 13 ⟨"WagerQuiz", "count", "(I)I"⟩ : Cond) ∈ zeBT := zeBT_of (k := 505) (by decide +kernel) rfl
theorem zm_507 : (.selects "WagerQuiz" ⟨"WagerQuiz", "count", "(I)I"⟩ ⟨"WagerQuiz", "count", "(I)I"⟩ : Cond) ∈ zeBT := zeBT_of (k := 507) (by decide +kernel) rfl
theorem zm_537 : (.methodLink "WagerQuizLaw" 38 ⟨"WagerQuizLaw", "low", "(II)I"⟩ : Cond) ∈ zeBT := zeBT_of (k := 537) (by decide +kernel) rfl
theorem zm_538 : (.static ⟨"WagerQuizLaw", "low", "(II)I"⟩ : Cond) ∈ zeBT := zeBT_of (k := 538) (by decide +kernel) rfl
theorem zm_363 : (.instanceMethod ⟨"WagerQuiz", "pick", "(II)I"⟩ : Cond) ∈ zeBT := zeBT_of (k := 363) (by decide +kernel) rfl
theorem zm_362 : (.methodLink "WagerQuizLaw" 43 ⟨"WagerQuiz", "pick", "(II)I"⟩ : Cond) ∈ zeBT := zeBT_of (k := 362) (by decide +kernel) rfl
theorem zm_364 : (.selects "WagerQuiz" ⟨"WagerQuiz", "pick", "(II)I"⟩ ⟨"WagerQuiz", "pick", "(II)I"⟩ : Cond) ∈ zeBT := zeBT_of (k := 364) (by decide +kernel) rfl
theorem zm_597 : (.constant "WagerQuizLaw" 46 (-10000003) : Cond) ∈ zeBT := zeBT_of (k := 597) (by decide +kernel) rfl
theorem zm_575 : (.instanceMethod ⟨"WagerQuiz", "queued", "(I)I"⟩ : Cond) ∈ zeBT := zeBT_of (k := 575) (by decide +kernel) rfl
theorem zm_574 : (.methodLink "WagerQuizLaw" 35 ⟨"WagerQuiz", "queued", "(I)I"⟩ : Cond) ∈ zeBT := zeBT_of (k := 574) (by decide +kernel) rfl
theorem zm_576 : (.selects "WagerQuiz" ⟨"WagerQuiz", "queued", "(I)I"⟩ ⟨"WagerQuiz", "queued", "(I)I"⟩ : Cond) ∈ zeBT := zeBT_of (k := 576) (by decide +kernel) rfl
theorem zm_599 : (.instanceMethod ⟨"WagerQuiz", "buzz", "(II)I"⟩ : Cond) ∈ zeBT := zeBT_of (k := 599) (by decide +kernel) rfl
theorem zm_598 : (.methodLink "WagerQuizLaw" 47 ⟨"WagerQuiz", "buzz", "(II)I"⟩ : Cond) ∈ zeBT := zeBT_of (k := 598) (by decide +kernel) rfl
theorem zm_600 : (.selects "WagerQuiz" ⟨"WagerQuiz", "buzz", "(II)I"⟩ ⟨"WagerQuiz", "buzz", "(II)I"⟩ : Cond) ∈ zeBT := zeBT_of (k := 600) (by decide +kernel) rfl
theorem zm_482 : (.instanceMethod ⟨"WagerQuiz", "player", "(II)I"⟩ : Cond) ∈ zeBT := zeBT_of (k := 482) (by decide +kernel) rfl
theorem zm_481 : (.methodLink "WagerQuizLaw" 19 ⟨"WagerQuiz", "player", "(II)I"⟩ : Cond) ∈ zeBT := zeBT_of (k := 481) (by decide +kernel) rfl
theorem zm_483 : (.selects "WagerQuiz" ⟨"WagerQuiz", "player", "(II)I"⟩ ⟨"WagerQuiz", "player", "(II)I"⟩ : Cond) ∈ zeBT := zeBT_of (k := 483) (by decide +kernel) rfl
theorem zm_557 : (.constant "WagerQuizLaw" 29 (-10000005) : Cond) ∈ zeBT := zeBT_of (k := 557) (by decide +kernel) rfl
theorem zm_558 : (.constant "WagerQuizLaw" 30 (-10000002) : Cond) ∈ zeBT := zeBT_of (k := 558) (by decide +kernel) rfl
theorem zm_629 : (.instanceMethod ⟨"WagerQuiz", "close", "()I"⟩ : Cond) ∈ zeBT := zeBT_of (k := 629) (by decide +kernel) rfl
theorem zm_628 : (.methodLink "WagerQuizLaw" 50 ⟨"WagerQuiz", "close", "()I"⟩ : Cond) ∈ zeBT := zeBT_of (k := 628) (by decide +kernel) rfl
theorem zm_630 : (.selects "WagerQuiz" ⟨"WagerQuiz", "close", "()I"⟩ ⟨"WagerQuiz", "close", "()I"⟩ : Cond) ∈ zeBT := zeBT_of (k := 630) (by decide +kernel) rfl
theorem zm_637 : (.instanceMethod ⟨"WagerQuiz", "answer", "(Z)I"⟩ : Cond) ∈ zeBT := zeBT_of (k := 637) (by decide +kernel) rfl
theorem zm_636 : (.methodLink "WagerQuizLaw" 54 ⟨"WagerQuiz", "answer", "(Z)I"⟩ : Cond) ∈ zeBT := zeBT_of (k := 636) (by decide +kernel) rfl
theorem zm_638 : (.selects "WagerQuiz" ⟨"WagerQuiz", "answer", "(Z)I"⟩ ⟨"WagerQuiz", "answer", "(Z)I"⟩ : Cond) ∈ zeBT := zeBT_of (k := 638) (by decide +kernel) rfl
theorem zm_547 : (.instanceMethod ⟨"WagerQuiz", "entry", "(II)I"⟩ : Cond) ∈ zeBT := zeBT_of (k := 547) (by decide +kernel) rfl
theorem zm_546 : (.methodLink "WagerQuizLaw" 23 ⟨"WagerQuiz", "entry", "(II)I"⟩ : Cond) ∈ zeBT := zeBT_of (k := 546) (by decide +kernel) rfl
theorem zm_548 : (.selects "WagerQuiz" ⟨"WagerQuiz", "entry", "(II)I"⟩ ⟨"WagerQuiz", "entry", "(II)I"⟩ : Cond) ∈ zeBT := zeBT_of (k := 548) (by decide +kernel) rfl
theorem zm_657 : (.instanceMethod ⟨"WagerQuiz", "wager", "(I)I"⟩ : Cond) ∈ zeBT := zeBT_of (k := 657) (by decide +kernel) rfl
theorem zm_656 : (.methodLink "WagerQuizLaw" 58 ⟨"WagerQuiz", "wager", "(I)I"⟩ : Cond) ∈ zeBT := zeBT_of (k := 656) (by decide +kernel) rfl
theorem zm_658 : (.selects "WagerQuiz" ⟨"WagerQuiz", "wager", "(I)I"⟩ ⟨"WagerQuiz", "wager", "(I)I"⟩ : Cond) ∈ zeBT := zeBT_of (k := 658) (by decide +kernel) rfl
theorem zm_667 : (.instanceMethod ⟨"WagerQuiz", "wagerFinal", "(II)I"⟩ : Cond) ∈ zeBT := zeBT_of (k := 667) (by decide +kernel) rfl
theorem zm_666 : (.methodLink "WagerQuizLaw" 61 ⟨"WagerQuiz", "wagerFinal", "(II)I"⟩ : Cond) ∈ zeBT := zeBT_of (k := 666) (by decide +kernel) rfl
theorem zm_668 : (.selects "WagerQuiz" ⟨"WagerQuiz", "wagerFinal", "(II)I"⟩ ⟨"WagerQuiz", "wagerFinal", "(II)I"⟩ : Cond) ∈ zeBT := zeBT_of (k := 668) (by decide +kernel) rfl
theorem zm_387 : (.instanceMethod ⟨"WagerQuiz", "beginFinal", "()I"⟩ : Cond) ∈ zeBT := zeBT_of (k := 387) (by decide +kernel) rfl
theorem zm_386 : (.methodLink "WagerQuizLaw" 64 ⟨"WagerQuiz", "beginFinal", "()I"⟩ : Cond) ∈ zeBT := zeBT_of (k := 386) (by decide +kernel) rfl
theorem zm_388 : (.selects "WagerQuiz" ⟨"WagerQuiz", "beginFinal", "()I"⟩ ⟨"WagerQuiz", "beginFinal", "()I"⟩ : Cond) ∈ zeBT := zeBT_of (k := 388) (by decide +kernel) rfl
theorem zm_411 : (.instanceMethod ⟨"WagerQuiz", "doCorrect", "(II)I"⟩ : Cond) ∈ zeBT := zeBT_of (k := 411) (by decide +kernel) rfl
theorem zm_409 : (.methodLink "WagerQuiz" 119 ⟨"WagerQuiz", "doCorrect", "(II)I"⟩ : Cond) ∈ zeBT := zeBT_of (k := 409) (by decide +kernel) rfl
theorem zmp_10 : (.selects "WagerQuiz" ⟨"WagerQuiz", "doCorrect", "(II)I"⟩ ⟨"WagerQuiz", "doCorrect", "(II)I"⟩ : Cond) ∈ zeBT := zeBT_p (k := 10) (by decide +kernel) rfl
theorem zm_544 : (.constantLong "WagerQuizLaw" 9 (41 : Int64) : Cond) ∈ zeBT := zeBT_of (k := 544) (by decide +kernel) rfl
theorem zm_545 : (.constantLong "WagerQuizLaw" 11 (31 : Int64) : Cond) ∈ zeBT := zeBT_of (k := 545) (by decide +kernel) rfl
theorem zm_698 : (.methodLink "WagerQuiz$Replay" 95 ⟨"java/lang/System", "arraycopy", "(Ljava/lang/Object;ILjava/lang/Object;II)V"⟩ : Cond) ∈ zeBT := zeBT_of (k := 698) (by decide +kernel) rfl
theorem zm_695 : (.instanceMethod ⟨"WagerQuiz$Replay", "rememberScores", "()V"⟩ : Cond) ∈ zeBT := zeBT_of (k := 695) (by decide +kernel) rfl
theorem zm_694 : (.methodLink "WagerQuiz" 368 ⟨"WagerQuiz$Replay", "rememberScores", "()V"⟩ : Cond) ∈ zeBT := zeBT_of (k := 694) (by decide +kernel) rfl
theorem zm_696 : (.selects "WagerQuiz$Replay" ⟨"WagerQuiz$Replay", "rememberScores", "()V"⟩ ⟨"WagerQuiz$Replay", "rememberScores", "()V"⟩ : Cond) ∈ zeBT := zeBT_of (k := 696) (by decide +kernel) rfl
theorem zm_700 : (.instanceMethod ⟨"WagerQuiz$Replay", "changedScores", "()I"⟩ : Cond) ∈ zeBT := zeBT_of (k := 700) (by decide +kernel) rfl
theorem zm_699 : (.methodLink "WagerQuiz" 375 ⟨"WagerQuiz$Replay", "changedScores", "()I"⟩ : Cond) ∈ zeBT := zeBT_of (k := 699) (by decide +kernel) rfl
theorem zm_701 : (.selects "WagerQuiz$Replay" ⟨"WagerQuiz$Replay", "changedScores", "()I"⟩ ⟨"WagerQuiz$Replay", "changedScores", "()I"⟩ : Cond) ∈ zeBT := zeBT_of (k := 701) (by decide +kernel) rfl
theorem zm_692 : (.instanceMethod ⟨"WagerQuiz", "doRejudge", "(I)I"⟩ : Cond) ∈ zeBT := zeBT_of (k := 692) (by decide +kernel) rfl
theorem zm_690 : (.methodLink "WagerQuiz" 122 ⟨"WagerQuiz", "doRejudge", "(I)I"⟩ : Cond) ∈ zeBT := zeBT_of (k := 690) (by decide +kernel) rfl
theorem zmp_40 : (.selects "WagerQuiz" ⟨"WagerQuiz", "doRejudge", "(I)I"⟩ ⟨"WagerQuiz", "doRejudge", "(I)I"⟩ : Cond) ∈ zeBT := zeBT_p (k := 40) (by decide +kernel) rfl
theorem zm_541 : (.methodLink "WagerQuizLaw" 67 ⟨"WagerQuizLaw", "digest", "(LWagerQuiz;)J"⟩ : Cond) ∈ zeBT := zeBT_of (k := 541) (by decide +kernel) rfl
theorem zm_542 : (.static ⟨"WagerQuizLaw", "digest", "(LWagerQuiz;)J"⟩ : Cond) ∈ zeBT := zeBT_of (k := 542) (by decide +kernel) rfl
theorem zm_687 : (.instanceMethod ⟨"WagerQuiz", "rejudge", "(I)I"⟩ : Cond) ∈ zeBT := zeBT_of (k := 687) (by decide +kernel) rfl
theorem zm_686 : (.methodLink "WagerQuizLaw" 71 ⟨"WagerQuiz", "rejudge", "(I)I"⟩ : Cond) ∈ zeBT := zeBT_of (k := 686) (by decide +kernel) rfl
theorem zm_688 : (.selects "WagerQuiz" ⟨"WagerQuiz", "rejudge", "(I)I"⟩ ⟨"WagerQuiz", "rejudge", "(I)I"⟩ : Cond) ∈ zeBT := zeBT_of (k := 688) (by decide +kernel) rfl
theorem zm_559 : (.constant "WagerQuizLaw" 31 (-10000001) : Cond) ∈ zeBT := zeBT_of (k := 559) (by decide +kernel) rfl
theorem zm_458 : (.instanceMethod ⟨"WagerQuiz", "undo", "()I"⟩ : Cond) ∈ zeBT := zeBT_of (k := 458) (by decide +kernel) rfl
theorem zm_457 : (.methodLink "WagerQuizLaw" 74 ⟨"WagerQuiz", "undo", "()I"⟩ : Cond) ∈ zeBT := zeBT_of (k := 457) (by decide +kernel) rfl
theorem zm_459 : (.selects "WagerQuiz" ⟨"WagerQuiz", "undo", "()I"⟩ ⟨"WagerQuiz", "undo", "()I"⟩ : Cond) ∈ zeBT := zeBT_of (k := 459) (by decide +kernel) rfl
theorem zm_361 : (.fieldLink "WagerQuiz" 300 "WagerQuiz" "SETTING_TOPS" "[I" : Cond) ∈ zeBT := zeBT_of (k := 361) (by decide +kernel) rfl
theorem zm_359 : (.instanceMethod ⟨"WagerQuiz", "doSet", "(II)I"⟩ : Cond) ∈ zeBT := zeBT_of (k := 359) (by decide +kernel) rfl
theorem zm_357 : (.methodLink "WagerQuiz" 72 ⟨"WagerQuiz", "doSet", "(II)I"⟩ : Cond) ∈ zeBT := zeBT_of (k := 357) (by decide +kernel) rfl
theorem zmp_5 : (.selects "WagerQuiz" ⟨"WagerQuiz", "doSet", "(II)I"⟩ ⟨"WagerQuiz", "doSet", "(II)I"⟩ : Cond) ∈ zeBT := zeBT_p (k := 5) (by decide +kernel) rfl
theorem zm_569 : (.instanceMethod ⟨"WagerQuiz", "playerAtPlace", "(I)I"⟩ : Cond) ∈ zeBT := zeBT_of (k := 569) (by decide +kernel) rfl
theorem zm_567 : (.methodLink "WagerQuiz" 208 ⟨"WagerQuiz", "playerAtPlace", "(I)I"⟩ : Cond) ∈ zeBT := zeBT_of (k := 567) (by decide +kernel) rfl
theorem zmp_24 : (.selects "WagerQuiz" ⟨"WagerQuiz", "playerAtPlace", "(I)I"⟩ ⟨"WagerQuiz", "playerAtPlace", "(I)I"⟩ : Cond) ∈ zeBT := zeBT_p (k := 24) (by decide +kernel) rfl
theorem zm_564 : (.instanceMethod ⟨"WagerQuiz", "ordered", "(I)I"⟩ : Cond) ∈ zeBT := zeBT_of (k := 564) (by decide +kernel) rfl
theorem zm_563 : (.methodLink "WagerQuizLaw" 32 ⟨"WagerQuiz", "ordered", "(I)I"⟩ : Cond) ∈ zeBT := zeBT_of (k := 563) (by decide +kernel) rfl
theorem zm_565 : (.selects "WagerQuiz" ⟨"WagerQuiz", "ordered", "(I)I"⟩ ⟨"WagerQuiz", "ordered", "(I)I"⟩ : Cond) ∈ zeBT := zeBT_of (k := 565) (by decide +kernel) rfl
theorem zm_711 : (.methodLink "WagerQuiz" 111 ⟨"WagerQuiz", "doubled", "(I)I"⟩ : Cond) ∈ zeBT := zeBT_of (k := 711) (by decide +kernel) rfl
theorem zm_712 : (.static ⟨"WagerQuiz", "doubled", "(I)I"⟩ : Cond) ∈ zeBT := zeBT_of (k := 712) (by decide +kernel) rfl
theorem zm_706 : (.constant "WagerQuizLaw" 77 (-99999999) : Cond) ∈ zeBT := zeBT_of (k := 706) (by decide +kernel) rfl
theorem zm_708 : (.instanceMethod ⟨"WagerQuiz", "safeWager", "(I)I"⟩ : Cond) ∈ zeBT := zeBT_of (k := 708) (by decide +kernel) rfl
theorem zm_707 : (.methodLink "WagerQuizLaw" 78 ⟨"WagerQuiz", "safeWager", "(I)I"⟩ : Cond) ∈ zeBT := zeBT_of (k := 707) (by decide +kernel) rfl
theorem zm_709 : (.selects "WagerQuiz" ⟨"WagerQuiz", "safeWager", "(I)I"⟩ ⟨"WagerQuiz", "safeWager", "(I)I"⟩ : Cond) ∈ zeBT := zeBT_of (k := 709) (by decide +kernel) rfl
theorem zm_13 : (.classLink "WagerQuizLaw" 14 "WagerQuiz" : Cond) ∈ zeBT := zeBT_of (k := 13) (by decide +kernel) rfl
theorem zm_14 : (.instantiable "WagerQuiz" 8 : Cond) ∈ zeBT := zeBT_of (k := 14) (by decide +kernel) rfl
theorem zm_1 : (.initialized "WagerQuiz" : Cond) ∈ zeBT := zeBT_of (k := 1) (by decide +kernel) rfl
theorem zm_16 : (.instanceMethod ⟨"WagerQuiz", "<init>", "()V"⟩ : Cond) ∈ zeBT := zeBT_of (k := 16) (by decide +kernel) rfl
theorem zm_15 : (.methodLink "WagerQuizLaw" 81 ⟨"WagerQuiz", "<init>", "()V"⟩ : Cond) ∈ zeBT := zeBT_of (k := 15) (by decide +kernel) rfl
theorem zm_478 : (.instanceMethod ⟨"WagerQuiz", "restore", "(I)I"⟩ : Cond) ∈ zeBT := zeBT_of (k := 478) (by decide +kernel) rfl
theorem zm_477 : (.methodLink "WagerQuizLaw" 82 ⟨"WagerQuiz", "restore", "(I)I"⟩ : Cond) ∈ zeBT := zeBT_of (k := 477) (by decide +kernel) rfl
theorem zm_479 : (.selects "WagerQuiz" ⟨"WagerQuiz", "restore", "(I)I"⟩ ⟨"WagerQuiz", "restore", "(I)I"⟩ : Cond) ∈ zeBT := zeBT_of (k := 479) (by decide +kernel) rfl
theorem zm_471 : (.instanceMethod ⟨"WagerQuiz", "keep", "(I)I"⟩ : Cond) ∈ zeBT := zeBT_of (k := 471) (by decide +kernel) rfl
theorem zm_470 : (.methodLink "WagerQuizLaw" 85 ⟨"WagerQuiz", "keep", "(I)I"⟩ : Cond) ∈ zeBT := zeBT_of (k := 470) (by decide +kernel) rfl
theorem zm_472 : (.selects "WagerQuiz" ⟨"WagerQuiz", "keep", "(I)I"⟩ ⟨"WagerQuiz", "keep", "(I)I"⟩ : Cond) ∈ zeBT := zeBT_of (k := 472) (by decide +kernel) rfl
theorem zm_533 : (.methodLink "WagerQuizLaw" 88 ⟨"WagerQuizLaw", "cell", "([II)I"⟩ : Cond) ∈ zeBT := zeBT_of (k := 533) (by decide +kernel) rfl
theorem zm_534 : (.static ⟨"WagerQuizLaw", "cell", "([II)I"⟩ : Cond) ∈ zeBT := zeBT_of (k := 534) (by decide +kernel) rfl
theorem zm_274 : (.instanceMethod ⟨"WagerQuiz", "addPlayer", "()I"⟩ : Cond) ∈ zeBT := zeBT_of (k := 274) (by decide +kernel) rfl
theorem zm_273 : (.methodLink "WagerQuizLaw" 92 ⟨"WagerQuiz", "addPlayer", "()I"⟩ : Cond) ∈ zeBT := zeBT_of (k := 273) (by decide +kernel) rfl
theorem zm_275 : (.selects "WagerQuiz" ⟨"WagerQuiz", "addPlayer", "()I"⟩ ⟨"WagerQuiz", "addPlayer", "()I"⟩ : Cond) ∈ zeBT := zeBT_of (k := 275) (by decide +kernel) rfl
theorem zm_334 : (.instanceMethod ⟨"WagerQuiz", "setWagerClue", "(IZ)I"⟩ : Cond) ∈ zeBT := zeBT_of (k := 334) (by decide +kernel) rfl
theorem zm_333 : (.methodLink "WagerQuizLaw" 95 ⟨"WagerQuiz", "setWagerClue", "(IZ)I"⟩ : Cond) ∈ zeBT := zeBT_of (k := 333) (by decide +kernel) rfl
theorem zm_335 : (.selects "WagerQuiz" ⟨"WagerQuiz", "setWagerClue", "(IZ)I"⟩ ⟨"WagerQuiz", "setWagerClue", "(IZ)I"⟩ : Cond) ∈ zeBT := zeBT_of (k := 335) (by decide +kernel) rfl
theorem zm_714 : (.methodLink "WagerQuizLaw" 99 ⟨"WagerQuizLaw", "wagers", "(LWagerQuiz;)I"⟩ : Cond) ∈ zeBT := zeBT_of (k := 714) (by decide +kernel) rfl
theorem zm_715 : (.static ⟨"WagerQuizLaw", "wagers", "(LWagerQuiz;)I"⟩ : Cond) ∈ zeBT := zeBT_of (k := 715) (by decide +kernel) rfl
theorem zm_594 : (.methodLink "WagerQuizLaw" 103 ⟨"WagerQuizLaw", "moves", "(LWagerQuiz;II)Z"⟩ : Cond) ∈ zeBT := zeBT_of (k := 594) (by decide +kernel) rfl
theorem zm_595 : (.static ⟨"WagerQuizLaw", "moves", "(LWagerQuiz;II)Z"⟩ : Cond) ∈ zeBT := zeBT_of (k := 595) (by decide +kernel) rfl
theorem zm_406 : (.instanceMethod ⟨"WagerQuiz", "correct", "(II)I"⟩ : Cond) ∈ zeBT := zeBT_of (k := 406) (by decide +kernel) rfl
theorem zm_405 : (.methodLink "WagerQuizLaw" 107 ⟨"WagerQuiz", "correct", "(II)I"⟩ : Cond) ∈ zeBT := zeBT_of (k := 405) (by decide +kernel) rfl
theorem zm_407 : (.selects "WagerQuiz" ⟨"WagerQuiz", "correct", "(II)I"⟩ ⟨"WagerQuiz", "correct", "(II)I"⟩ : Cond) ∈ zeBT := zeBT_of (k := 407) (by decide +kernel) rfl
theorem zm_683 : (.methodLink "WagerQuizLaw" 110 ⟨"WagerQuizLaw", "judged", "(LWagerQuiz;I)Z"⟩ : Cond) ∈ zeBT := zeBT_of (k := 683) (by decide +kernel) rfl
theorem zm_684 : (.static ⟨"WagerQuizLaw", "judged", "(LWagerQuiz;I)Z"⟩ : Cond) ∈ zeBT := zeBT_of (k := 684) (by decide +kernel) rfl
theorem zm_354 : (.instanceMethod ⟨"WagerQuiz", "set", "(II)I"⟩ : Cond) ∈ zeBT := zeBT_of (k := 354) (by decide +kernel) rfl
theorem zm_353 : (.methodLink "WagerQuizLaw" 114 ⟨"WagerQuiz", "set", "(II)I"⟩ : Cond) ∈ zeBT := zeBT_of (k := 353) (by decide +kernel) rfl
theorem zm_355 : (.selects "WagerQuiz" ⟨"WagerQuiz", "set", "(II)I"⟩ ⟨"WagerQuiz", "set", "(II)I"⟩ : Cond) ∈ zeBT := zeBT_of (k := 355) (by decide +kernel) rfl
theorem zm_554 : (.methodLink "WagerQuizLaw" 117 ⟨"WagerQuizLaw", "replay", "(LWagerQuiz;)Z"⟩ : Cond) ∈ zeBT := zeBT_of (k := 554) (by decide +kernel) rfl
theorem zm_555 : (.static ⟨"WagerQuizLaw", "replay", "(LWagerQuiz;)Z"⟩ : Cond) ∈ zeBT := zeBT_of (k := 555) (by decide +kernel) rfl
theorem zm_560 : (.methodLink "WagerQuizLaw" 121 ⟨"WagerQuizLaw", "ranks", "(LWagerQuiz;)Z"⟩ : Cond) ∈ zeBT := zeBT_of (k := 560) (by decide +kernel) rfl
theorem zm_561 : (.static ⟨"WagerQuizLaw", "ranks", "(LWagerQuiz;)Z"⟩ : Cond) ∈ zeBT := zeBT_of (k := 561) (by decide +kernel) rfl
theorem zm_571 : (.methodLink "WagerQuizLaw" 124 ⟨"WagerQuizLaw", "board", "(LWagerQuiz;)Z"⟩ : Cond) ∈ zeBT := zeBT_of (k := 571) (by decide +kernel) rfl
theorem zm_572 : (.static ⟨"WagerQuizLaw", "board", "(LWagerQuiz;)Z"⟩ : Cond) ∈ zeBT := zeBT_of (k := 572) (by decide +kernel) rfl
theorem zm_703 : (.methodLink "WagerQuizLaw" 127 ⟨"WagerQuizLaw", "safe", "(LWagerQuiz;I)Z"⟩ : Cond) ∈ zeBT := zeBT_of (k := 703) (by decide +kernel) rfl
theorem zm_704 : (.static ⟨"WagerQuizLaw", "safe", "(LWagerQuiz;I)Z"⟩ : Cond) ∈ zeBT := zeBT_of (k := 704) (by decide +kernel) rfl
theorem zm_77 : (.lays "WagerQuiz$FinalRound" "WagerQuiz$FinalRound" "answers" "I" : Cond) ∈ zeBT := zeBT_of (k := 77) (by decide +kernel) rfl
theorem zm_79 : (.laysFinal "WagerQuiz$FinalRound" "WagerQuiz$FinalRound" "startScores" "[I" : Cond) ∈ zeBT := zeBT_of (k := 79) (by decide +kernel) rfl
theorem zm_81 : (.laysFinal "WagerQuiz$FinalRound" "WagerQuiz$FinalRound" "wagers" "[I" : Cond) ∈ zeBT := zeBT_of (k := 81) (by decide +kernel) rfl
theorem zm_215 : (.lays "WagerQuiz$History" "WagerQuiz$History" "size" "I" : Cond) ∈ zeBT := zeBT_of (k := 215) (by decide +kernel) rfl
theorem zm_217 : (.lays "WagerQuiz$History" "WagerQuiz$History" "trial" "I" : Cond) ∈ zeBT := zeBT_of (k := 217) (by decide +kernel) rfl
theorem zm_219 : (.laysFinal "WagerQuiz$History" "WagerQuiz$History" "ring" "[LWagerQuiz$State;" : Cond) ∈ zeBT := zeBT_of (k := 219) (by decide +kernel) rfl
theorem zm_108 : (.lays "WagerQuiz$Log" "WagerQuiz$Log" "size" "I" : Cond) ∈ zeBT := zeBT_of (k := 108) (by decide +kernel) rfl
theorem zm_110 : (.laysFinal "WagerQuiz$Log" "WagerQuiz$Log" "players" "[I" : Cond) ∈ zeBT := zeBT_of (k := 110) (by decide +kernel) rfl
theorem zm_112 : (.laysFinal "WagerQuiz$Log" "WagerQuiz$Log" "sorts" "[I" : Cond) ∈ zeBT := zeBT_of (k := 112) (by decide +kernel) rfl
theorem zm_114 : (.laysFinal "WagerQuiz$Log" "WagerQuiz$Log" "clues" "[I" : Cond) ∈ zeBT := zeBT_of (k := 114) (by decide +kernel) rfl
theorem zm_116 : (.laysFinal "WagerQuiz$Log" "WagerQuiz$Log" "amounts" "[I" : Cond) ∈ zeBT := zeBT_of (k := 116) (by decide +kernel) rfl
theorem zm_118 : (.laysFinal "WagerQuiz$Log" "WagerQuiz$Log" "judgements" "[I" : Cond) ∈ zeBT := zeBT_of (k := 118) (by decide +kernel) rfl
theorem zm_45 : (.lays "WagerQuiz$PickedClue" "WagerQuiz$PickedClue" "clue" "I" : Cond) ∈ zeBT := zeBT_of (k := 45) (by decide +kernel) rfl
theorem zm_47 : (.lays "WagerQuiz$PickedClue" "WagerQuiz$PickedClue" "reading" "I" : Cond) ∈ zeBT := zeBT_of (k := 47) (by decide +kernel) rfl
theorem zm_49 : (.lays "WagerQuiz$PickedClue" "WagerQuiz$PickedClue" "lock" "I" : Cond) ∈ zeBT := zeBT_of (k := 49) (by decide +kernel) rfl
theorem zm_51 : (.lays "WagerQuiz$PickedClue" "WagerQuiz$PickedClue" "wager" "I" : Cond) ∈ zeBT := zeBT_of (k := 51) (by decide +kernel) rfl
theorem zm_53 : (.lays "WagerQuiz$PickedClue" "WagerQuiz$PickedClue" "answered" "I" : Cond) ∈ zeBT := zeBT_of (k := 53) (by decide +kernel) rfl
theorem zm_55 : (.laysFinal "WagerQuiz$PickedClue" "WagerQuiz$PickedClue" "countingTicks" "[I" : Cond) ∈ zeBT := zeBT_of (k := 55) (by decide +kernel) rfl
theorem zm_57 : (.laysFinal "WagerQuiz$PickedClue" "WagerQuiz$PickedClue" "ticksBelow64" "[J" : Cond) ∈ zeBT := zeBT_of (k := 57) (by decide +kernel) rfl
theorem zm_59 : (.laysFinal "WagerQuiz$PickedClue" "WagerQuiz$PickedClue" "ticksFrom64" "[J" : Cond) ∈ zeBT := zeBT_of (k := 59) (by decide +kernel) rfl
theorem zm_180 : (.lays "WagerQuiz$Replay" "WagerQuiz$Replay" "control" "I" : Cond) ∈ zeBT := zeBT_of (k := 180) (by decide +kernel) rfl
theorem zm_182 : (.laysFinal "WagerQuiz$Replay" "WagerQuiz$Replay" "scores" "[I" : Cond) ∈ zeBT := zeBT_of (k := 182) (by decide +kernel) rfl
theorem zm_184 : (.laysFinal "WagerQuiz$Replay" "WagerQuiz$Replay" "rights" "[I" : Cond) ∈ zeBT := zeBT_of (k := 184) (by decide +kernel) rfl
theorem zm_186 : (.laysFinal "WagerQuiz$Replay" "WagerQuiz$Replay" "wrongs" "[I" : Cond) ∈ zeBT := zeBT_of (k := 186) (by decide +kernel) rfl
theorem zm_188 : (.laysFinal "WagerQuiz$Replay" "WagerQuiz$Replay" "corrections" "[I" : Cond) ∈ zeBT := zeBT_of (k := 188) (by decide +kernel) rfl
theorem zm_190 : (.laysFinal "WagerQuiz$Replay" "WagerQuiz$Replay" "solvers" "[I" : Cond) ∈ zeBT := zeBT_of (k := 190) (by decide +kernel) rfl
theorem zm_192 : (.laysFinal "WagerQuiz$Replay" "WagerQuiz$Replay" "amounts" "[I" : Cond) ∈ zeBT := zeBT_of (k := 192) (by decide +kernel) rfl
theorem zm_194 : (.laysFinal "WagerQuiz$Replay" "WagerQuiz$Replay" "scoresBehind" "[I" : Cond) ∈ zeBT := zeBT_of (k := 194) (by decide +kernel) rfl
theorem zm_196 : (.laysFinal "WagerQuiz$Replay" "WagerQuiz$Replay" "voids" "[Z" : Cond) ∈ zeBT := zeBT_of (k := 196) (by decide +kernel) rfl
theorem zm_198 : (.laysFinal "WagerQuiz$Replay" "WagerQuiz$Replay" "formerScores" "[I" : Cond) ∈ zeBT := zeBT_of (k := 198) (by decide +kernel) rfl
theorem zm_230 : (.lays "WagerQuiz$Script" "WagerQuiz$Script" "length" "I" : Cond) ∈ zeBT := zeBT_of (k := 230) (by decide +kernel) rfl
theorem zm_232 : (.laysFinal "WagerQuiz$Script" "WagerQuiz$Script" "signs" "[C" : Cond) ∈ zeBT := zeBT_of (k := 232) (by decide +kernel) rfl
theorem zm_137 : (.lays "WagerQuiz$State" "WagerQuiz$State" "phase" "I" : Cond) ∈ zeBT := zeBT_of (k := 137) (by decide +kernel) rfl
theorem zm_139 : (.lays "WagerQuiz$State" "WagerQuiz$State" "players" "I" : Cond) ∈ zeBT := zeBT_of (k := 139) (by decide +kernel) rfl
theorem zm_141 : (.lays "WagerQuiz$State" "WagerQuiz$State" "wagerClues" "I" : Cond) ∈ zeBT := zeBT_of (k := 141) (by decide +kernel) rfl
theorem zm_143 : (.lays "WagerQuiz$State" "WagerQuiz$State" "goneClues" "I" : Cond) ∈ zeBT := zeBT_of (k := 143) (by decide +kernel) rfl
theorem zm_145 : (.laysFinal "WagerQuiz$State" "WagerQuiz$State" "settings" "[I" : Cond) ∈ zeBT := zeBT_of (k := 145) (by decide +kernel) rfl
theorem zm_147 : (.laysFinal "WagerQuiz$State" "WagerQuiz$State" "open" "LWagerQuiz$PickedClue;" : Cond) ∈ zeBT := zeBT_of (k := 147) (by decide +kernel) rfl
theorem zm_149 : (.laysFinal "WagerQuiz$State" "WagerQuiz$State" "finale" "LWagerQuiz$FinalRound;" : Cond) ∈ zeBT := zeBT_of (k := 149) (by decide +kernel) rfl
theorem zm_151 : (.laysFinal "WagerQuiz$State" "WagerQuiz$State" "log" "LWagerQuiz$Log;" : Cond) ∈ zeBT := zeBT_of (k := 151) (by decide +kernel) rfl
theorem zm_256 : (.laysFinal "WagerQuiz" "WagerQuiz" "now" "LWagerQuiz$State;" : Cond) ∈ zeBT := zeBT_of (k := 256) (by decide +kernel) rfl
theorem zm_258 : (.laysFinal "WagerQuiz" "WagerQuiz" "replay" "LWagerQuiz$Replay;" : Cond) ∈ zeBT := zeBT_of (k := 258) (by decide +kernel) rfl
theorem zm_260 : (.laysFinal "WagerQuiz" "WagerQuiz" "history" "LWagerQuiz$History;" : Cond) ∈ zeBT := zeBT_of (k := 260) (by decide +kernel) rfl
theorem zm_262 : (.laysFinal "WagerQuiz" "WagerQuiz" "slots" "[LWagerQuiz$State;" : Cond) ∈ zeBT := zeBT_of (k := 262) (by decide +kernel) rfl
theorem zm_264 : (.laysFinal "WagerQuiz" "WagerQuiz" "slotTaken" "[Z" : Cond) ∈ zeBT := zeBT_of (k := 264) (by decide +kernel) rfl
theorem zm_266 : (.laysFinal "WagerQuiz" "WagerQuiz" "script" "LWagerQuiz$Script;" : Cond) ∈ zeBT := zeBT_of (k := 266) (by decide +kernel) rfl
theorem zm_268 : (.laysFinal "WagerQuiz" "WagerQuiz" "message" "LWagerQuiz$Message;" : Cond) ∈ zeBT := zeBT_of (k := 268) (by decide +kernel) rfl
theorem zm_270 : (.lays "WagerQuiz" "WagerQuiz" "reason" "I" : Cond) ∈ zeBT := zeBT_of (k := 270) (by decide +kernel) rfl
theorem zm_243 : (.lays "WagerQuiz$Message" "WagerQuiz$Message" "length" "I" : Cond) ∈ zeBT := zeBT_of (k := 243) (by decide +kernel) rfl
theorem zm_245 : (.laysFinal "WagerQuiz$Message" "WagerQuiz$Message" "signs" "[C" : Cond) ∈ zeBT := zeBT_of (k := 245) (by decide +kernel) rfl
theorem zm_400 : (.code ⟨"java/lang/Math", "max", "(II)I"⟩ prog_13_method_65_code 2 (some .int) : Cond) ∈ zeBT := zeBT_of (k := 400) (by decide +kernel) rfl
theorem zm_448 : (.code ⟨"java/lang/Math", "min", "(II)I"⟩ prog_13_method_69_code 2 (some .int) : Cond) ∈ zeBT := zeBT_of (k := 448) (by decide +kernel) rfl
theorem zm_20 : (.code ⟨"java/lang/Object", "<init>", "()V"⟩ object_method_1_code 1 none : Cond) ∈ zeBT := zeBT_of (k := 20) (by decide +kernel) rfl
theorem zc_0 : zeCl[0]? = some ("WagerQuiz$FinalRound", zeT0, 3) := rfl
theorem zin_0 : ∀ w ∈ u_ws "WagerQuiz$FinalRound" zeT0 3, w ∈ zeBT := by
  have h : u_ws "WagerQuiz$FinalRound" zeT0 3 = [.lays "WagerQuiz$FinalRound" "WagerQuiz$FinalRound" "answers" "I", .laysFinal "WagerQuiz$FinalRound" "WagerQuiz$FinalRound" "startScores" "[I", .laysFinal "WagerQuiz$FinalRound" "WagerQuiz$FinalRound" "wagers" "[I"] := by decide +kernel
  rw [h]
  exact (List.forall_mem_cons.mpr ⟨zm_77, (List.forall_mem_cons.mpr ⟨zm_79, (List.forall_mem_cons.mpr ⟨zm_81, (fun w h => absurd h List.not_mem_nil)⟩)⟩)⟩)
theorem zdf_0 {G : zeG} : ∀ j, j < 3 → vp_V (zeFs G (fun _ => none) (fun _ => 0) 0 (zeFL 0)) j = defaultValue (zeY0 j) := by
  intro j hj
  match j, hj with
  | 0, _ => rfl
  | 1, _ => rfl
  | 2, _ => rfl
  | j + 3, h => exact absurd h (by omega)
theorem zk_0 : zeCl[0]? = some ("WagerQuiz$FinalRound", zeT0, 3) ∧ (∀ w ∈ u_ws "WagerQuiz$FinalRound" zeT0 3, w ∈ zeBT) ∧ (∀ k, k < 3 → parseFieldDescriptor (zeT0 k).2.2.1 = some (zeY0 k)) ∧ (∀ a, a < 3 → ∀ b, b < 3 → a ≠ b → (zeT0 a).2.1 ≠ (zeT0 b).2.1) ∧ (zeFL 0).length = 3 := ⟨zc_0, zin_0, zeYok0, zeNm0, rfl⟩
theorem zc_1 : zeCl[1]? = some ("WagerQuiz$History", zeT1, 3) := rfl
theorem zin_1 : ∀ w ∈ u_ws "WagerQuiz$History" zeT1 3, w ∈ zeBT := by
  have h : u_ws "WagerQuiz$History" zeT1 3 = [.lays "WagerQuiz$History" "WagerQuiz$History" "size" "I", .lays "WagerQuiz$History" "WagerQuiz$History" "trial" "I", .laysFinal "WagerQuiz$History" "WagerQuiz$History" "ring" "[LWagerQuiz$State;"] := by decide +kernel
  rw [h]
  exact (List.forall_mem_cons.mpr ⟨zm_215, (List.forall_mem_cons.mpr ⟨zm_217, (List.forall_mem_cons.mpr ⟨zm_219, (fun w h => absurd h List.not_mem_nil)⟩)⟩)⟩)
theorem zdf_1 {G : zeG} : ∀ j, j < 3 → vp_V (zeFs G (fun _ => none) (fun _ => 0) 0 (zeFL 1)) j = defaultValue (zeY1 j) := by
  intro j hj
  match j, hj with
  | 0, _ => rfl
  | 1, _ => rfl
  | 2, _ => rfl
  | j + 3, h => exact absurd h (by omega)
theorem zk_1 : zeCl[1]? = some ("WagerQuiz$History", zeT1, 3) ∧ (∀ w ∈ u_ws "WagerQuiz$History" zeT1 3, w ∈ zeBT) ∧ (∀ k, k < 3 → parseFieldDescriptor (zeT1 k).2.2.1 = some (zeY1 k)) ∧ (∀ a, a < 3 → ∀ b, b < 3 → a ≠ b → (zeT1 a).2.1 ≠ (zeT1 b).2.1) ∧ (zeFL 1).length = 3 := ⟨zc_1, zin_1, zeYok1, zeNm1, rfl⟩
theorem zc_2 : zeCl[2]? = some ("WagerQuiz$Log", zeT2, 6) := rfl
theorem zin_2 : ∀ w ∈ u_ws "WagerQuiz$Log" zeT2 6, w ∈ zeBT := by
  have h : u_ws "WagerQuiz$Log" zeT2 6 = [.lays "WagerQuiz$Log" "WagerQuiz$Log" "size" "I", .laysFinal "WagerQuiz$Log" "WagerQuiz$Log" "players" "[I", .laysFinal "WagerQuiz$Log" "WagerQuiz$Log" "sorts" "[I", .laysFinal "WagerQuiz$Log" "WagerQuiz$Log" "clues" "[I", .laysFinal "WagerQuiz$Log" "WagerQuiz$Log" "amounts" "[I", .laysFinal "WagerQuiz$Log" "WagerQuiz$Log" "judgements" "[I"] := by decide +kernel
  rw [h]
  exact (List.forall_mem_cons.mpr ⟨zm_108, (List.forall_mem_cons.mpr ⟨zm_110, (List.forall_mem_cons.mpr ⟨zm_112, (List.forall_mem_cons.mpr ⟨zm_114, (List.forall_mem_cons.mpr ⟨zm_116, (List.forall_mem_cons.mpr ⟨zm_118, (fun w h => absurd h List.not_mem_nil)⟩)⟩)⟩)⟩)⟩)⟩)
theorem zdf_2 {G : zeG} : ∀ j, j < 6 → vp_V (zeFs G (fun _ => none) (fun _ => 0) 0 (zeFL 2)) j = defaultValue (zeY2 j) := by
  intro j hj
  match j, hj with
  | 0, _ => rfl
  | 1, _ => rfl
  | 2, _ => rfl
  | 3, _ => rfl
  | 4, _ => rfl
  | 5, _ => rfl
  | j + 6, h => exact absurd h (by omega)
theorem zk_2 : zeCl[2]? = some ("WagerQuiz$Log", zeT2, 6) ∧ (∀ w ∈ u_ws "WagerQuiz$Log" zeT2 6, w ∈ zeBT) ∧ (∀ k, k < 6 → parseFieldDescriptor (zeT2 k).2.2.1 = some (zeY2 k)) ∧ (∀ a, a < 6 → ∀ b, b < 6 → a ≠ b → (zeT2 a).2.1 ≠ (zeT2 b).2.1) ∧ (zeFL 2).length = 6 := ⟨zc_2, zin_2, zeYok2, zeNm2, rfl⟩
theorem zc_3 : zeCl[3]? = some ("WagerQuiz$PickedClue", zeT3, 8) := rfl
theorem zin_3 : ∀ w ∈ u_ws "WagerQuiz$PickedClue" zeT3 8, w ∈ zeBT := by
  have h : u_ws "WagerQuiz$PickedClue" zeT3 8 = [.lays "WagerQuiz$PickedClue" "WagerQuiz$PickedClue" "clue" "I", .lays "WagerQuiz$PickedClue" "WagerQuiz$PickedClue" "reading" "I", .lays "WagerQuiz$PickedClue" "WagerQuiz$PickedClue" "lock" "I", .lays "WagerQuiz$PickedClue" "WagerQuiz$PickedClue" "wager" "I", .lays "WagerQuiz$PickedClue" "WagerQuiz$PickedClue" "answered" "I", .laysFinal "WagerQuiz$PickedClue" "WagerQuiz$PickedClue" "countingTicks" "[I", .laysFinal "WagerQuiz$PickedClue" "WagerQuiz$PickedClue" "ticksBelow64" "[J", .laysFinal "WagerQuiz$PickedClue" "WagerQuiz$PickedClue" "ticksFrom64" "[J"] := by decide +kernel
  rw [h]
  exact (List.forall_mem_cons.mpr ⟨zm_45, (List.forall_mem_cons.mpr ⟨zm_47, (List.forall_mem_cons.mpr ⟨zm_49, (List.forall_mem_cons.mpr ⟨zm_51, (List.forall_mem_cons.mpr ⟨zm_53, (List.forall_mem_cons.mpr ⟨zm_55, (List.forall_mem_cons.mpr ⟨zm_57, (List.forall_mem_cons.mpr ⟨zm_59, (fun w h => absurd h List.not_mem_nil)⟩)⟩)⟩)⟩)⟩)⟩)⟩)⟩)
theorem zdf_3 {G : zeG} : ∀ j, j < 8 → vp_V (zeFs G (fun _ => none) (fun _ => 0) 0 (zeFL 3)) j = defaultValue (zeY3 j) := by
  intro j hj
  match j, hj with
  | 0, _ => rfl
  | 1, _ => rfl
  | 2, _ => rfl
  | 3, _ => rfl
  | 4, _ => rfl
  | 5, _ => rfl
  | 6, _ => rfl
  | 7, _ => rfl
  | j + 8, h => exact absurd h (by omega)
theorem zk_3 : zeCl[3]? = some ("WagerQuiz$PickedClue", zeT3, 8) ∧ (∀ w ∈ u_ws "WagerQuiz$PickedClue" zeT3 8, w ∈ zeBT) ∧ (∀ k, k < 8 → parseFieldDescriptor (zeT3 k).2.2.1 = some (zeY3 k)) ∧ (∀ a, a < 8 → ∀ b, b < 8 → a ≠ b → (zeT3 a).2.1 ≠ (zeT3 b).2.1) ∧ (zeFL 3).length = 8 := ⟨zc_3, zin_3, zeYok3, zeNm3, rfl⟩
theorem zc_4 : zeCl[4]? = some ("WagerQuiz$Replay", zeT4, 10) := rfl
theorem zin_4 : ∀ w ∈ u_ws "WagerQuiz$Replay" zeT4 10, w ∈ zeBT := by
  have h : u_ws "WagerQuiz$Replay" zeT4 10 = [.lays "WagerQuiz$Replay" "WagerQuiz$Replay" "control" "I", .laysFinal "WagerQuiz$Replay" "WagerQuiz$Replay" "scores" "[I", .laysFinal "WagerQuiz$Replay" "WagerQuiz$Replay" "rights" "[I", .laysFinal "WagerQuiz$Replay" "WagerQuiz$Replay" "wrongs" "[I", .laysFinal "WagerQuiz$Replay" "WagerQuiz$Replay" "corrections" "[I", .laysFinal "WagerQuiz$Replay" "WagerQuiz$Replay" "solvers" "[I", .laysFinal "WagerQuiz$Replay" "WagerQuiz$Replay" "amounts" "[I", .laysFinal "WagerQuiz$Replay" "WagerQuiz$Replay" "scoresBehind" "[I", .laysFinal "WagerQuiz$Replay" "WagerQuiz$Replay" "voids" "[Z", .laysFinal "WagerQuiz$Replay" "WagerQuiz$Replay" "formerScores" "[I"] := by decide +kernel
  rw [h]
  exact (List.forall_mem_cons.mpr ⟨zm_180, (List.forall_mem_cons.mpr ⟨zm_182, (List.forall_mem_cons.mpr ⟨zm_184, (List.forall_mem_cons.mpr ⟨zm_186, (List.forall_mem_cons.mpr ⟨zm_188, (List.forall_mem_cons.mpr ⟨zm_190, (List.forall_mem_cons.mpr ⟨zm_192, (List.forall_mem_cons.mpr ⟨zm_194, (List.forall_mem_cons.mpr ⟨zm_196, (List.forall_mem_cons.mpr ⟨zm_198, (fun w h => absurd h List.not_mem_nil)⟩)⟩)⟩)⟩)⟩)⟩)⟩)⟩)⟩)⟩)
theorem zdf_4 {G : zeG} : ∀ j, j < 10 → vp_V (zeFs G (fun _ => none) (fun _ => 0) 0 (zeFL 4)) j = defaultValue (zeY4 j) := by
  intro j hj
  match j, hj with
  | 0, _ => rfl
  | 1, _ => rfl
  | 2, _ => rfl
  | 3, _ => rfl
  | 4, _ => rfl
  | 5, _ => rfl
  | 6, _ => rfl
  | 7, _ => rfl
  | 8, _ => rfl
  | 9, _ => rfl
  | j + 10, h => exact absurd h (by omega)
theorem zk_4 : zeCl[4]? = some ("WagerQuiz$Replay", zeT4, 10) ∧ (∀ w ∈ u_ws "WagerQuiz$Replay" zeT4 10, w ∈ zeBT) ∧ (∀ k, k < 10 → parseFieldDescriptor (zeT4 k).2.2.1 = some (zeY4 k)) ∧ (∀ a, a < 10 → ∀ b, b < 10 → a ≠ b → (zeT4 a).2.1 ≠ (zeT4 b).2.1) ∧ (zeFL 4).length = 10 := ⟨zc_4, zin_4, zeYok4, zeNm4, rfl⟩
theorem zc_5 : zeCl[5]? = some ("WagerQuiz$Script", zeT5, 2) := rfl
theorem zin_5 : ∀ w ∈ u_ws "WagerQuiz$Script" zeT5 2, w ∈ zeBT := by
  have h : u_ws "WagerQuiz$Script" zeT5 2 = [.lays "WagerQuiz$Script" "WagerQuiz$Script" "length" "I", .laysFinal "WagerQuiz$Script" "WagerQuiz$Script" "signs" "[C"] := by decide +kernel
  rw [h]
  exact (List.forall_mem_cons.mpr ⟨zm_230, (List.forall_mem_cons.mpr ⟨zm_232, (fun w h => absurd h List.not_mem_nil)⟩)⟩)
theorem zdf_5 {G : zeG} : ∀ j, j < 2 → vp_V (zeFs G (fun _ => none) (fun _ => 0) 0 (zeFL 5)) j = defaultValue (zeY5 j) := by
  intro j hj
  match j, hj with
  | 0, _ => rfl
  | 1, _ => rfl
  | j + 2, h => exact absurd h (by omega)
theorem zk_5 : zeCl[5]? = some ("WagerQuiz$Script", zeT5, 2) ∧ (∀ w ∈ u_ws "WagerQuiz$Script" zeT5 2, w ∈ zeBT) ∧ (∀ k, k < 2 → parseFieldDescriptor (zeT5 k).2.2.1 = some (zeY5 k)) ∧ (∀ a, a < 2 → ∀ b, b < 2 → a ≠ b → (zeT5 a).2.1 ≠ (zeT5 b).2.1) ∧ (zeFL 5).length = 2 := ⟨zc_5, zin_5, zeYok5, zeNm5, rfl⟩
theorem zc_6 : zeCl[6]? = some ("WagerQuiz$State", zeT6, 8) := rfl
theorem zin_6 : ∀ w ∈ u_ws "WagerQuiz$State" zeT6 8, w ∈ zeBT := by
  have h : u_ws "WagerQuiz$State" zeT6 8 = [.lays "WagerQuiz$State" "WagerQuiz$State" "phase" "I", .lays "WagerQuiz$State" "WagerQuiz$State" "players" "I", .lays "WagerQuiz$State" "WagerQuiz$State" "wagerClues" "I", .lays "WagerQuiz$State" "WagerQuiz$State" "goneClues" "I", .laysFinal "WagerQuiz$State" "WagerQuiz$State" "settings" "[I", .laysFinal "WagerQuiz$State" "WagerQuiz$State" "open" "LWagerQuiz$PickedClue;", .laysFinal "WagerQuiz$State" "WagerQuiz$State" "finale" "LWagerQuiz$FinalRound;", .laysFinal "WagerQuiz$State" "WagerQuiz$State" "log" "LWagerQuiz$Log;"] := by decide +kernel
  rw [h]
  exact (List.forall_mem_cons.mpr ⟨zm_137, (List.forall_mem_cons.mpr ⟨zm_139, (List.forall_mem_cons.mpr ⟨zm_141, (List.forall_mem_cons.mpr ⟨zm_143, (List.forall_mem_cons.mpr ⟨zm_145, (List.forall_mem_cons.mpr ⟨zm_147, (List.forall_mem_cons.mpr ⟨zm_149, (List.forall_mem_cons.mpr ⟨zm_151, (fun w h => absurd h List.not_mem_nil)⟩)⟩)⟩)⟩)⟩)⟩)⟩)⟩)
theorem zdf_6 {G : zeG} : ∀ j, j < 8 → vp_V (zeFs G (fun _ => none) (fun _ => 0) 0 (zeFL 6)) j = defaultValue (zeY6 j) := by
  intro j hj
  match j, hj with
  | 0, _ => rfl
  | 1, _ => rfl
  | 2, _ => rfl
  | 3, _ => rfl
  | 4, _ => rfl
  | 5, _ => rfl
  | 6, _ => rfl
  | 7, _ => rfl
  | j + 8, h => exact absurd h (by omega)
theorem zk_6 : zeCl[6]? = some ("WagerQuiz$State", zeT6, 8) ∧ (∀ w ∈ u_ws "WagerQuiz$State" zeT6 8, w ∈ zeBT) ∧ (∀ k, k < 8 → parseFieldDescriptor (zeT6 k).2.2.1 = some (zeY6 k)) ∧ (∀ a, a < 8 → ∀ b, b < 8 → a ≠ b → (zeT6 a).2.1 ≠ (zeT6 b).2.1) ∧ (zeFL 6).length = 8 := ⟨zc_6, zin_6, zeYok6, zeNm6, rfl⟩
theorem zc_7 : zeCl[7]? = some ("WagerQuiz", zeT7, 8) := rfl
theorem zin_7 : ∀ w ∈ u_ws "WagerQuiz" zeT7 8, w ∈ zeBT := by
  have h : u_ws "WagerQuiz" zeT7 8 = [.laysFinal "WagerQuiz" "WagerQuiz" "now" "LWagerQuiz$State;", .laysFinal "WagerQuiz" "WagerQuiz" "replay" "LWagerQuiz$Replay;", .laysFinal "WagerQuiz" "WagerQuiz" "history" "LWagerQuiz$History;", .laysFinal "WagerQuiz" "WagerQuiz" "slots" "[LWagerQuiz$State;", .laysFinal "WagerQuiz" "WagerQuiz" "slotTaken" "[Z", .laysFinal "WagerQuiz" "WagerQuiz" "script" "LWagerQuiz$Script;", .laysFinal "WagerQuiz" "WagerQuiz" "message" "LWagerQuiz$Message;", .lays "WagerQuiz" "WagerQuiz" "reason" "I"] := by decide +kernel
  rw [h]
  exact (List.forall_mem_cons.mpr ⟨zm_256, (List.forall_mem_cons.mpr ⟨zm_258, (List.forall_mem_cons.mpr ⟨zm_260, (List.forall_mem_cons.mpr ⟨zm_262, (List.forall_mem_cons.mpr ⟨zm_264, (List.forall_mem_cons.mpr ⟨zm_266, (List.forall_mem_cons.mpr ⟨zm_268, (List.forall_mem_cons.mpr ⟨zm_270, (fun w h => absurd h List.not_mem_nil)⟩)⟩)⟩)⟩)⟩)⟩)⟩)⟩)
theorem zdf_7 {G : zeG} : ∀ j, j < 8 → vp_V (zeFs G (fun _ => none) (fun _ => 0) 0 (zeFL 7)) j = defaultValue (zeY7 j) := by
  intro j hj
  match j, hj with
  | 0, _ => rfl
  | 1, _ => rfl
  | 2, _ => rfl
  | 3, _ => rfl
  | 4, _ => rfl
  | 5, _ => rfl
  | 6, _ => rfl
  | 7, _ => rfl
  | j + 8, h => exact absurd h (by omega)
theorem zk_7 : zeCl[7]? = some ("WagerQuiz", zeT7, 8) ∧ (∀ w ∈ u_ws "WagerQuiz" zeT7 8, w ∈ zeBT) ∧ (∀ k, k < 8 → parseFieldDescriptor (zeT7 k).2.2.1 = some (zeY7 k)) ∧ (∀ a, a < 8 → ∀ b, b < 8 → a ≠ b → (zeT7 a).2.1 ≠ (zeT7 b).2.1) ∧ (zeFL 7).length = 8 := ⟨zc_7, zin_7, zeYok7, zeNm7, rfl⟩
theorem zc_8 : zeCl[8]? = some ("WagerQuiz$Message", zeT8, 2) := rfl
theorem zin_8 : ∀ w ∈ u_ws "WagerQuiz$Message" zeT8 2, w ∈ zeBT := by
  have h : u_ws "WagerQuiz$Message" zeT8 2 = [.lays "WagerQuiz$Message" "WagerQuiz$Message" "length" "I", .laysFinal "WagerQuiz$Message" "WagerQuiz$Message" "signs" "[C"] := by decide +kernel
  rw [h]
  exact (List.forall_mem_cons.mpr ⟨zm_243, (List.forall_mem_cons.mpr ⟨zm_245, (fun w h => absurd h List.not_mem_nil)⟩)⟩)
theorem zdf_8 {G : zeG} : ∀ j, j < 2 → vp_V (zeFs G (fun _ => none) (fun _ => 0) 0 (zeFL 8)) j = defaultValue (zeY8 j) := by
  intro j hj
  match j, hj with
  | 0, _ => rfl
  | 1, _ => rfl
  | j + 2, h => exact absurd h (by omega)
theorem zk_8 : zeCl[8]? = some ("WagerQuiz$Message", zeT8, 2) ∧ (∀ w ∈ u_ws "WagerQuiz$Message" zeT8 2, w ∈ zeBT) ∧ (∀ k, k < 2 → parseFieldDescriptor (zeT8 k).2.2.1 = some (zeY8 k)) ∧ (∀ a, a < 2 → ∀ b, b < 2 → a ≠ b → (zeT8 a).2.1 ≠ (zeT8 b).2.1) ∧ (zeFL 8).length = 2 := ⟨zc_8, zin_8, zeYok8, zeNm8, rfl⟩
theorem zm_objcode : Cond.code Lib.objectInit ⟨#[0xb1]⟩ 1 none ∈ zeBT := zeBT_of (k := 20) (by decide +kernel) rfl
theorem zm_mmaxcode : Cond.code Lib.Math.max.name Lib.Math.max.code 2 (some .int) ∈ zeBT := zeBT_of (k := 400) (by decide +kernel) rfl
theorem zm_mmincode : Cond.code Lib.Math.min.name Lib.Math.min.code 2 (some .int) ∈ zeBT := zeBT_of (k := 448) (by decide +kernel) rfl
