/-! words of the tables in use; what callees need (by program) -/
theorem zm_37 : (.methodLink "WagerQuiz$PickedClue" 3 ⟨"java/lang/Object", "<init>", "()V"⟩ : Cond) ∈ zeBT := zeBT_of (k := 37) (by decide +kernel) rfl
theorem zm_24 : (.instanceMethod ⟨"java/lang/Object", "<init>", "()V"⟩ : Cond) ∈ zeBT := zeBT_of (k := 24) (by decide +kernel) rfl
theorem zm_67 : (.arrayClass .int : Cond) ∈ zeBT := zeBT_of (k := 67) (by decide +kernel) rfl
theorem zm_46 : (.fieldLink "WagerQuiz$PickedClue" 9 "WagerQuiz$PickedClue" "countingTicks" "[I" : Cond) ∈ zeBT := zeBT_of (k := 46) (by decide +kernel) rfl
theorem zm_68 : (.arrayClass .long : Cond) ∈ zeBT := zeBT_of (k := 68) (by decide +kernel) rfl
theorem zm_48 : (.fieldLink "WagerQuiz$PickedClue" 15 "WagerQuiz$PickedClue" "ticksBelow64" "[J" : Cond) ∈ zeBT := zeBT_of (k := 48) (by decide +kernel) rfl
theorem zm_49 : (.fieldLink "WagerQuiz$PickedClue" 19 "WagerQuiz$PickedClue" "ticksFrom64" "[J" : Cond) ∈ zeBT := zeBT_of (k := 49) (by decide +kernel) rfl
theorem zm_74 : (.methodLink "WagerQuiz$FinalRound" 3 ⟨"java/lang/Object", "<init>", "()V"⟩ : Cond) ∈ zeBT := zeBT_of (k := 74) (by decide +kernel) rfl
theorem zm_78 : (.fieldLink "WagerQuiz$FinalRound" 9 "WagerQuiz$FinalRound" "startScores" "[I" : Cond) ∈ zeBT := zeBT_of (k := 78) (by decide +kernel) rfl
theorem zm_80 : (.fieldLink "WagerQuiz$FinalRound" 15 "WagerQuiz$FinalRound" "wagers" "[I" : Cond) ∈ zeBT := zeBT_of (k := 80) (by decide +kernel) rfl
theorem zm_75 : (.constant "WagerQuiz$FinalRound" 18 (-10000005) : Cond) ∈ zeBT := zeBT_of (k := 75) (by decide +kernel) rfl
theorem zm_94 : (.methodLink "WagerQuiz$Log" 3 ⟨"java/lang/Object", "<init>", "()V"⟩ : Cond) ∈ zeBT := zeBT_of (k := 94) (by decide +kernel) rfl
theorem zm_98 : (.fieldLink "WagerQuiz$Log" 9 "WagerQuiz$Log" "players" "[I" : Cond) ∈ zeBT := zeBT_of (k := 98) (by decide +kernel) rfl
theorem zm_101 : (.fieldLink "WagerQuiz$Log" 15 "WagerQuiz$Log" "sorts" "[I" : Cond) ∈ zeBT := zeBT_of (k := 101) (by decide +kernel) rfl
theorem zm_104 : (.fieldLink "WagerQuiz$Log" 18 "WagerQuiz$Log" "clues" "[I" : Cond) ∈ zeBT := zeBT_of (k := 104) (by decide +kernel) rfl
theorem zm_107 : (.fieldLink "WagerQuiz$Log" 21 "WagerQuiz$Log" "amounts" "[I" : Cond) ∈ zeBT := zeBT_of (k := 107) (by decide +kernel) rfl
theorem zm_110 : (.fieldLink "WagerQuiz$Log" 24 "WagerQuiz$Log" "judgements" "[I" : Cond) ∈ zeBT := zeBT_of (k := 110) (by decide +kernel) rfl
theorem zm_31 : (.methodLink "WagerQuiz$State" 1 ⟨"java/lang/Object", "<init>", "()V"⟩ : Cond) ∈ zeBT := zeBT_of (k := 31) (by decide +kernel) rfl
theorem zm_134 : (.fieldLink "WagerQuiz$State" 7 "WagerQuiz$State" "settings" "[I" : Cond) ∈ zeBT := zeBT_of (k := 134) (by decide +kernel) rfl
theorem zm_32 : (.classLink "WagerQuiz$State" 13 "WagerQuiz$PickedClue" : Cond) ∈ zeBT := zeBT_of (k := 32) (by decide +kernel) rfl
theorem zm_33 : (.instantiable "WagerQuiz$PickedClue" 8 : Cond) ∈ zeBT := zeBT_of (k := 33) (by decide +kernel) rfl
theorem zm_3 : (.initialized "WagerQuiz$PickedClue" : Cond) ∈ zeBT := zeBT_of (k := 3) (by decide +kernel) rfl
theorem zm_35 : (.instanceMethod ⟨"WagerQuiz$PickedClue", "<init>", "()V"⟩ : Cond) ∈ zeBT := zeBT_of (k := 35) (by decide +kernel) rfl
theorem zm_136 : (.fieldLink "WagerQuiz$State" 16 "WagerQuiz$State" "open" "LWagerQuiz$PickedClue;" : Cond) ∈ zeBT := zeBT_of (k := 136) (by decide +kernel) rfl
theorem zm_69 : (.classLink "WagerQuiz$State" 20 "WagerQuiz$FinalRound" : Cond) ∈ zeBT := zeBT_of (k := 69) (by decide +kernel) rfl
theorem zm_70 : (.instantiable "WagerQuiz$FinalRound" 3 : Cond) ∈ zeBT := zeBT_of (k := 70) (by decide +kernel) rfl
theorem zm_4 : (.initialized "WagerQuiz$FinalRound" : Cond) ∈ zeBT := zeBT_of (k := 4) (by decide +kernel) rfl
theorem zm_72 : (.instanceMethod ⟨"WagerQuiz$FinalRound", "<init>", "()V"⟩ : Cond) ∈ zeBT := zeBT_of (k := 72) (by decide +kernel) rfl
theorem zm_71 : (.methodLink "WagerQuiz$State" 22 ⟨"WagerQuiz$FinalRound", "<init>", "()V"⟩ : Cond) ∈ zeBT := zeBT_of (k := 71) (by decide +kernel) rfl
theorem zm_138 : (.fieldLink "WagerQuiz$State" 23 "WagerQuiz$State" "finale" "LWagerQuiz$FinalRound;" : Cond) ∈ zeBT := zeBT_of (k := 138) (by decide +kernel) rfl
theorem zm_89 : (.classLink "WagerQuiz$State" 27 "WagerQuiz$Log" : Cond) ∈ zeBT := zeBT_of (k := 89) (by decide +kernel) rfl
theorem zm_90 : (.instantiable "WagerQuiz$Log" 6 : Cond) ∈ zeBT := zeBT_of (k := 90) (by decide +kernel) rfl
theorem zm_5 : (.initialized "WagerQuiz$Log" : Cond) ∈ zeBT := zeBT_of (k := 5) (by decide +kernel) rfl
theorem zm_92 : (.instanceMethod ⟨"WagerQuiz$Log", "<init>", "()V"⟩ : Cond) ∈ zeBT := zeBT_of (k := 92) (by decide +kernel) rfl
theorem zm_140 : (.fieldLink "WagerQuiz$State" 30 "WagerQuiz$State" "log" "LWagerQuiz$Log;" : Cond) ∈ zeBT := zeBT_of (k := 140) (by decide +kernel) rfl
theorem zm_164 : (.methodLink "WagerQuiz$Replay" 3 ⟨"java/lang/Object", "<init>", "()V"⟩ : Cond) ∈ zeBT := zeBT_of (k := 164) (by decide +kernel) rfl
theorem zm_168 : (.fieldLink "WagerQuiz$Replay" 9 "WagerQuiz$Replay" "scores" "[I" : Cond) ∈ zeBT := zeBT_of (k := 168) (by decide +kernel) rfl
theorem zm_170 : (.fieldLink "WagerQuiz$Replay" 15 "WagerQuiz$Replay" "rights" "[I" : Cond) ∈ zeBT := zeBT_of (k := 170) (by decide +kernel) rfl
theorem zm_172 : (.fieldLink "WagerQuiz$Replay" 18 "WagerQuiz$Replay" "wrongs" "[I" : Cond) ∈ zeBT := zeBT_of (k := 172) (by decide +kernel) rfl
theorem zm_174 : (.fieldLink "WagerQuiz$Replay" 21 "WagerQuiz$Replay" "corrections" "[I" : Cond) ∈ zeBT := zeBT_of (k := 174) (by decide +kernel) rfl
theorem zm_176 : (.fieldLink "WagerQuiz$Replay" 24 "WagerQuiz$Replay" "solvers" "[I" : Cond) ∈ zeBT := zeBT_of (k := 176) (by decide +kernel) rfl
theorem zm_178 : (.fieldLink "WagerQuiz$Replay" 27 "WagerQuiz$Replay" "amounts" "[I" : Cond) ∈ zeBT := zeBT_of (k := 178) (by decide +kernel) rfl
theorem zm_180 : (.fieldLink "WagerQuiz$Replay" 30 "WagerQuiz$Replay" "scoresBehind" "[I" : Cond) ∈ zeBT := zeBT_of (k := 180) (by decide +kernel) rfl
theorem zm_206 : (.arrayClass .boolean : Cond) ∈ zeBT := zeBT_of (k := 206) (by decide +kernel) rfl
theorem zm_182 : (.fieldLink "WagerQuiz$Replay" 33 "WagerQuiz$Replay" "voids" "[Z" : Cond) ∈ zeBT := zeBT_of (k := 182) (by decide +kernel) rfl
theorem zm_184 : (.fieldLink "WagerQuiz$Replay" 37 "WagerQuiz$Replay" "formerScores" "[I" : Cond) ∈ zeBT := zeBT_of (k := 184) (by decide +kernel) rfl
theorem zm_165 : (.constant "WagerQuiz$Replay" 40 (-10000005) : Cond) ∈ zeBT := zeBT_of (k := 165) (by decide +kernel) rfl
theorem zm_212 : (.methodLink "WagerQuiz$History" 3 ⟨"java/lang/Object", "<init>", "()V"⟩ : Cond) ∈ zeBT := zeBT_of (k := 212) (by decide +kernel) rfl
theorem zm_213 : (.classLink "WagerQuiz$History" 11 "WagerQuiz$State" : Cond) ∈ zeBT := zeBT_of (k := 213) (by decide +kernel) rfl
theorem zm_219 : (.fieldLink "WagerQuiz$History" 13 "WagerQuiz$History" "ring" "[LWagerQuiz$State;" : Cond) ∈ zeBT := zeBT_of (k := 219) (by decide +kernel) rfl
theorem zm_27 : (.instantiable "WagerQuiz$State" 8 : Cond) ∈ zeBT := zeBT_of (k := 27) (by decide +kernel) rfl
theorem zm_2 : (.initialized "WagerQuiz$State" : Cond) ∈ zeBT := zeBT_of (k := 2) (by decide +kernel) rfl
theorem zm_29 : (.instanceMethod ⟨"WagerQuiz$State", "<init>", "()V"⟩ : Cond) ∈ zeBT := zeBT_of (k := 29) (by decide +kernel) rfl
theorem zm_232 : (.methodLink "WagerQuiz$Script" 3 ⟨"java/lang/Object", "<init>", "()V"⟩ : Cond) ∈ zeBT := zeBT_of (k := 232) (by decide +kernel) rfl
theorem zm_241 : (.arrayClass .char : Cond) ∈ zeBT := zeBT_of (k := 241) (by decide +kernel) rfl
theorem zm_235 : (.fieldLink "WagerQuiz$Script" 9 "WagerQuiz$Script" "signs" "[C" : Cond) ∈ zeBT := zeBT_of (k := 235) (by decide +kernel) rfl
theorem zm_247 : (.methodLink "WagerQuiz$Message" 3 ⟨"java/lang/Object", "<init>", "()V"⟩ : Cond) ∈ zeBT := zeBT_of (k := 247) (by decide +kernel) rfl
theorem zm_250 : (.fieldLink "WagerQuiz$Message" 9 "WagerQuiz$Message" "signs" "[C" : Cond) ∈ zeBT := zeBT_of (k := 250) (by decide +kernel) rfl
theorem zm_23 : (.methodLink "WagerQuiz" 1 ⟨"java/lang/Object", "<init>", "()V"⟩ : Cond) ∈ zeBT := zeBT_of (k := 23) (by decide +kernel) rfl
theorem zm_26 : (.classLink "WagerQuiz" 7 "WagerQuiz$State" : Cond) ∈ zeBT := zeBT_of (k := 26) (by decide +kernel) rfl
theorem zm_257 : (.fieldLink "WagerQuiz" 10 "WagerQuiz" "now" "LWagerQuiz$State;" : Cond) ∈ zeBT := zeBT_of (k := 257) (by decide +kernel) rfl
theorem zm_159 : (.classLink "WagerQuiz" 16 "WagerQuiz$Replay" : Cond) ∈ zeBT := zeBT_of (k := 159) (by decide +kernel) rfl
theorem zm_160 : (.instantiable "WagerQuiz$Replay" 10 : Cond) ∈ zeBT := zeBT_of (k := 160) (by decide +kernel) rfl
theorem zm_6 : (.initialized "WagerQuiz$Replay" : Cond) ∈ zeBT := zeBT_of (k := 6) (by decide +kernel) rfl
theorem zm_162 : (.instanceMethod ⟨"WagerQuiz$Replay", "<init>", "()V"⟩ : Cond) ∈ zeBT := zeBT_of (k := 162) (by decide +kernel) rfl
theorem zm_161 : (.methodLink "WagerQuiz" 18 ⟨"WagerQuiz$Replay", "<init>", "()V"⟩ : Cond) ∈ zeBT := zeBT_of (k := 161) (by decide +kernel) rfl
theorem zm_258 : (.fieldLink "WagerQuiz" 19 "WagerQuiz" "replay" "LWagerQuiz$Replay;" : Cond) ∈ zeBT := zeBT_of (k := 258) (by decide +kernel) rfl
theorem zm_207 : (.classLink "WagerQuiz" 23 "WagerQuiz$History" : Cond) ∈ zeBT := zeBT_of (k := 207) (by decide +kernel) rfl
theorem zm_208 : (.instantiable "WagerQuiz$History" 3 : Cond) ∈ zeBT := zeBT_of (k := 208) (by decide +kernel) rfl
theorem zm_7 : (.initialized "WagerQuiz$History" : Cond) ∈ zeBT := zeBT_of (k := 7) (by decide +kernel) rfl
theorem zm_210 : (.instanceMethod ⟨"WagerQuiz$History", "<init>", "()V"⟩ : Cond) ∈ zeBT := zeBT_of (k := 210) (by decide +kernel) rfl
theorem zm_209 : (.methodLink "WagerQuiz" 25 ⟨"WagerQuiz$History", "<init>", "()V"⟩ : Cond) ∈ zeBT := zeBT_of (k := 209) (by decide +kernel) rfl
theorem zm_259 : (.fieldLink "WagerQuiz" 26 "WagerQuiz" "history" "LWagerQuiz$History;" : Cond) ∈ zeBT := zeBT_of (k := 259) (by decide +kernel) rfl
theorem zm_260 : (.fieldLink "WagerQuiz" 30 "WagerQuiz" "slots" "[LWagerQuiz$State;" : Cond) ∈ zeBT := zeBT_of (k := 260) (by decide +kernel) rfl
theorem zm_261 : (.fieldLink "WagerQuiz" 34 "WagerQuiz" "slotTaken" "[Z" : Cond) ∈ zeBT := zeBT_of (k := 261) (by decide +kernel) rfl
theorem zm_227 : (.classLink "WagerQuiz" 38 "WagerQuiz$Script" : Cond) ∈ zeBT := zeBT_of (k := 227) (by decide +kernel) rfl
theorem zm_228 : (.instantiable "WagerQuiz$Script" 2 : Cond) ∈ zeBT := zeBT_of (k := 228) (by decide +kernel) rfl
theorem zm_8 : (.initialized "WagerQuiz$Script" : Cond) ∈ zeBT := zeBT_of (k := 8) (by decide +kernel) rfl
theorem zm_230 : (.instanceMethod ⟨"WagerQuiz$Script", "<init>", "()V"⟩ : Cond) ∈ zeBT := zeBT_of (k := 230) (by decide +kernel) rfl
theorem zm_262 : (.fieldLink "WagerQuiz" 41 "WagerQuiz" "script" "LWagerQuiz$Script;" : Cond) ∈ zeBT := zeBT_of (k := 262) (by decide +kernel) rfl
theorem zm_242 : (.classLink "WagerQuiz" 45 "WagerQuiz$Message" : Cond) ∈ zeBT := zeBT_of (k := 242) (by decide +kernel) rfl
theorem zm_243 : (.instantiable "WagerQuiz$Message" 2 : Cond) ∈ zeBT := zeBT_of (k := 243) (by decide +kernel) rfl
theorem zm_9 : (.initialized "WagerQuiz$Message" : Cond) ∈ zeBT := zeBT_of (k := 9) (by decide +kernel) rfl
theorem zm_245 : (.instanceMethod ⟨"WagerQuiz$Message", "<init>", "()V"⟩ : Cond) ∈ zeBT := zeBT_of (k := 245) (by decide +kernel) rfl
theorem zm_263 : (.fieldLink "WagerQuiz" 48 "WagerQuiz" "message" "LWagerQuiz$Message;" : Cond) ∈ zeBT := zeBT_of (k := 263) (by decide +kernel) rfl
theorem zm_264 : (.fieldLink "WagerQuiz" 52 "WagerQuiz" "reason" "I" : Cond) ∈ zeBT := zeBT_of (k := 264) (by decide +kernel) rfl
theorem zm_814 : (.methodLink "WagerQuizModel" 1 ⟨"java/lang/Object", "<init>", "()V"⟩ : Cond) ∈ zeBT := zeBT_of (k := 814) (by decide +kernel) rfl
theorem zm_815 : (.fieldLink "WagerQuizModel" 7 "WagerQuizModel" "now" "[I" : Cond) ∈ zeBT := zeBT_of (k := 815) (by decide +kernel) rfl
theorem zm_816 : (.fieldLink "WagerQuizModel" 13 "WagerQuizModel" "history" "[I" : Cond) ∈ zeBT := zeBT_of (k := 816) (by decide +kernel) rfl
theorem zm_818 : (.fieldLink "WagerQuizModel" 16 "WagerQuizModel" "slots" "[I" : Cond) ∈ zeBT := zeBT_of (k := 818) (by decide +kernel) rfl
theorem zm_819 : (.fieldLink "WagerQuizModel" 19 "WagerQuizModel" "isFilled" "[Z" : Cond) ∈ zeBT := zeBT_of (k := 819) (by decide +kernel) rfl
theorem zm_821 : (.fieldLink "WagerQuizModel" 23 "WagerQuizModel" "score" "[I" : Cond) ∈ zeBT := zeBT_of (k := 821) (by decide +kernel) rfl
theorem zm_822 : (.fieldLink "WagerQuizModel" 26 "WagerQuizModel" "amount" "[I" : Cond) ∈ zeBT := zeBT_of (k := 822) (by decide +kernel) rfl
theorem zm_823 : (.fieldLink "WagerQuizModel" 29 "WagerQuizModel" "isVoid" "[Z" : Cond) ∈ zeBT := zeBT_of (k := 823) (by decide +kernel) rfl
theorem zm_824 : (.fieldLink "WagerQuizModel" 32 "WagerQuizModel" "after" "[I" : Cond) ∈ zeBT := zeBT_of (k := 824) (by decide +kernel) rfl
theorem zm_825 : (.fieldLink "WagerQuizModel" 35 "WagerQuizModel" "rights" "[I" : Cond) ∈ zeBT := zeBT_of (k := 825) (by decide +kernel) rfl
theorem zm_826 : (.fieldLink "WagerQuizModel" 38 "WagerQuizModel" "wrongs" "[I" : Cond) ∈ zeBT := zeBT_of (k := 826) (by decide +kernel) rfl
theorem zm_827 : (.fieldLink "WagerQuizModel" 41 "WagerQuizModel" "corrections" "[I" : Cond) ∈ zeBT := zeBT_of (k := 827) (by decide +kernel) rfl
theorem zm_829 : (.fieldLink "WagerQuizModel" 44 "WagerQuizModel" "waits" "[I" : Cond) ∈ zeBT := zeBT_of (k := 829) (by decide +kernel) rfl
theorem zm_830 : (.fieldLink "WagerQuizModel" 47 "WagerQuizModel" "before" "[I" : Cond) ∈ zeBT := zeBT_of (k := 830) (by decide +kernel) rfl
theorem zm_832 : (.fieldLink "WagerQuizModel" 50 "WagerQuizModel" "text" "[C" : Cond) ∈ zeBT := zeBT_of (k := 832) (by decide +kernel) rfl
theorem zm_834 : (.fieldLink "WagerQuizModel" 54 "WagerQuizModel" "moveOf" "[I" : Cond) ∈ zeBT := zeBT_of (k := 834) (by decide +kernel) rfl
theorem zm_836 : (.fieldLink "WagerQuizModel" 57 "WagerQuizModel" "message" "[I" : Cond) ∈ zeBT := zeBT_of (k := 836) (by decide +kernel) rfl
theorem zm_38 : (.fieldLink "WagerQuiz$PickedClue" 22 "WagerQuiz$PickedClue" "clue" "I" : Cond) ∈ zeBT := zeBT_of (k := 38) (by decide +kernel) rfl
theorem zm_40 : (.fieldLink "WagerQuiz$PickedClue" 26 "WagerQuiz$PickedClue" "reading" "I" : Cond) ∈ zeBT := zeBT_of (k := 40) (by decide +kernel) rfl
theorem zm_41 : (.fieldLink "WagerQuiz$PickedClue" 29 "WagerQuiz$PickedClue" "lock" "I" : Cond) ∈ zeBT := zeBT_of (k := 41) (by decide +kernel) rfl
theorem zm_42 : (.fieldLink "WagerQuiz$PickedClue" 32 "WagerQuiz$PickedClue" "wager" "I" : Cond) ∈ zeBT := zeBT_of (k := 42) (by decide +kernel) rfl
theorem zm_44 : (.fieldLink "WagerQuiz$PickedClue" 35 "WagerQuiz$PickedClue" "answered" "I" : Cond) ∈ zeBT := zeBT_of (k := 44) (by decide +kernel) rfl
theorem zm_303 : (.methodLink "WagerQuiz$PickedClue" 56 ⟨"java/lang/System", "arraycopy", "(Ljava/lang/Object;ILjava/lang/Object;II)V"⟩ : Cond) ∈ zeBT := zeBT_of (k := 303) (by decide +kernel) rfl
theorem zm_298 : (.native ⟨"java/lang/System", "arraycopy", "(Ljava/lang/Object;ILjava/lang/Object;II)V"⟩ : Cond) ∈ zeBT := zeBT_of (k := 298) (by decide +kernel) rfl
theorem zm_297 : (.static ⟨"java/lang/System", "arraycopy", "(Ljava/lang/Object;ILjava/lang/Object;II)V"⟩ : Cond) ∈ zeBT := zeBT_of (k := 297) (by decide +kernel) rfl
theorem zm_11 : (.initialized "java/lang/System" : Cond) ∈ zeBT := zeBT_of (k := 11) (by decide +kernel) rfl
theorem zm_76 : (.fieldLink "WagerQuiz$FinalRound" 33 "WagerQuiz$FinalRound" "answers" "I" : Cond) ∈ zeBT := zeBT_of (k := 76) (by decide +kernel) rfl
theorem zm_308 : (.methodLink "WagerQuiz$FinalRound" 41 ⟨"java/lang/System", "arraycopy", "(Ljava/lang/Object;ILjava/lang/Object;II)V"⟩ : Cond) ∈ zeBT := zeBT_of (k := 308) (by decide +kernel) rfl
theorem zm_95 : (.fieldLink "WagerQuiz$Log" 27 "WagerQuiz$Log" "size" "I" : Cond) ∈ zeBT := zeBT_of (k := 95) (by decide +kernel) rfl
theorem zm_313 : (.methodLink "WagerQuiz$Log" 35 ⟨"java/lang/System", "arraycopy", "(Ljava/lang/Object;ILjava/lang/Object;II)V"⟩ : Cond) ∈ zeBT := zeBT_of (k := 313) (by decide +kernel) rfl
theorem zm_126 : (.fieldLink "WagerQuiz$State" 34 "WagerQuiz$State" "phase" "I" : Cond) ∈ zeBT := zeBT_of (k := 126) (by decide +kernel) rfl
theorem zm_128 : (.fieldLink "WagerQuiz$State" 38 "WagerQuiz$State" "players" "I" : Cond) ∈ zeBT := zeBT_of (k := 128) (by decide +kernel) rfl
theorem zm_130 : (.fieldLink "WagerQuiz$State" 41 "WagerQuiz$State" "wagerClues" "I" : Cond) ∈ zeBT := zeBT_of (k := 130) (by decide +kernel) rfl
theorem zm_132 : (.fieldLink "WagerQuiz$State" 44 "WagerQuiz$State" "goneClues" "I" : Cond) ∈ zeBT := zeBT_of (k := 132) (by decide +kernel) rfl
theorem zm_296 : (.methodLink "WagerQuiz$State" 52 ⟨"java/lang/System", "arraycopy", "(Ljava/lang/Object;ILjava/lang/Object;II)V"⟩ : Cond) ∈ zeBT := zeBT_of (k := 296) (by decide +kernel) rfl
theorem zm_300 : (.instanceMethod ⟨"WagerQuiz$PickedClue", "copyFrom", "(LWagerQuiz$PickedClue;)V"⟩ : Cond) ∈ zeBT := zeBT_of (k := 300) (by decide +kernel) rfl
theorem zm_299 : (.methodLink "WagerQuiz$State" 58 ⟨"WagerQuiz$PickedClue", "copyFrom", "(LWagerQuiz$PickedClue;)V"⟩ : Cond) ∈ zeBT := zeBT_of (k := 299) (by decide +kernel) rfl
theorem zm_301 : (.selects "WagerQuiz$PickedClue" ⟨"WagerQuiz$PickedClue", "copyFrom", "(LWagerQuiz$PickedClue;)V"⟩ ⟨"WagerQuiz$PickedClue", "copyFrom", "(LWagerQuiz$PickedClue;)V"⟩ : Cond) ∈ zeBT := zeBT_of (k := 301) (by decide +kernel) rfl
theorem zm_305 : (.instanceMethod ⟨"WagerQuiz$FinalRound", "copyFrom", "(LWagerQuiz$FinalRound;)V"⟩ : Cond) ∈ zeBT := zeBT_of (k := 305) (by decide +kernel) rfl
theorem zm_304 : (.methodLink "WagerQuiz$State" 62 ⟨"WagerQuiz$FinalRound", "copyFrom", "(LWagerQuiz$FinalRound;)V"⟩ : Cond) ∈ zeBT := zeBT_of (k := 304) (by decide +kernel) rfl
theorem zm_306 : (.selects "WagerQuiz$FinalRound" ⟨"WagerQuiz$FinalRound", "copyFrom", "(LWagerQuiz$FinalRound;)V"⟩ ⟨"WagerQuiz$FinalRound", "copyFrom", "(LWagerQuiz$FinalRound;)V"⟩ : Cond) ∈ zeBT := zeBT_of (k := 306) (by decide +kernel) rfl
theorem zm_310 : (.instanceMethod ⟨"WagerQuiz$Log", "copyFrom", "(LWagerQuiz$Log;)V"⟩ : Cond) ∈ zeBT := zeBT_of (k := 310) (by decide +kernel) rfl
theorem zm_309 : (.methodLink "WagerQuiz$State" 65 ⟨"WagerQuiz$Log", "copyFrom", "(LWagerQuiz$Log;)V"⟩ : Cond) ∈ zeBT := zeBT_of (k := 309) (by decide +kernel) rfl
theorem zm_311 : (.selects "WagerQuiz$Log" ⟨"WagerQuiz$Log", "copyFrom", "(LWagerQuiz$Log;)V"⟩ ⟨"WagerQuiz$Log", "copyFrom", "(LWagerQuiz$Log;)V"⟩ : Cond) ∈ zeBT := zeBT_of (k := 311) (by decide +kernel) rfl
theorem zm_218 : (.fieldLink "WagerQuiz$History" 18 "WagerQuiz$History" "trial" "I" : Cond) ∈ zeBT := zeBT_of (k := 218) (by decide +kernel) rfl
theorem zm_291 : (.instanceMethod ⟨"WagerQuiz$State", "copyFrom", "(LWagerQuiz$State;)V"⟩ : Cond) ∈ zeBT := zeBT_of (k := 291) (by decide +kernel) rfl
theorem zm_290 : (.methodLink "WagerQuiz$History" 22 ⟨"WagerQuiz$State", "copyFrom", "(LWagerQuiz$State;)V"⟩ : Cond) ∈ zeBT := zeBT_of (k := 290) (by decide +kernel) rfl
theorem zm_292 : (.selects "WagerQuiz$State" ⟨"WagerQuiz$State", "copyFrom", "(LWagerQuiz$State;)V"⟩ ⟨"WagerQuiz$State", "copyFrom", "(LWagerQuiz$State;)V"⟩ : Cond) ∈ zeBT := zeBT_of (k := 292) (by decide +kernel) rfl
theorem zm_127 : (.fieldLink "WagerQuiz" 183 "WagerQuiz$State" "phase" "I" : Cond) ∈ zeBT := zeBT_of (k := 127) (by decide +kernel) rfl
theorem zm_133 : (.fieldLink "WagerQuiz" 226 "WagerQuiz$State" "goneClues" "I" : Cond) ∈ zeBT := zeBT_of (k := 133) (by decide +kernel) rfl
theorem zm_326 : (.constant "WagerQuiz" 385 (-10000003) : Cond) ∈ zeBT := zeBT_of (k := 326) (by decide +kernel) rfl
theorem zm_320 : (.instanceMethod ⟨"WagerQuiz", "isBeforeFirstPick", "()Z"⟩ : Cond) ∈ zeBT := zeBT_of (k := 320) (by decide +kernel) rfl
theorem zm_318 : (.methodLink "WagerQuiz" 294 ⟨"WagerQuiz", "isBeforeFirstPick", "()Z"⟩ : Cond) ∈ zeBT := zeBT_of (k := 318) (by decide +kernel) rfl
theorem zmp_1 : (.selects "WagerQuiz" ⟨"WagerQuiz", "isBeforeFirstPick", "()Z"⟩ ⟨"WagerQuiz", "isBeforeFirstPick", "()Z"⟩ : Cond) ∈ zeBT := zeBT_p (k := 1) (by decide +kernel) rfl
theorem zm_324 : (.instanceMethod ⟨"WagerQuiz", "refused", "(I)I"⟩ : Cond) ∈ zeBT := zeBT_of (k := 324) (by decide +kernel) rfl
theorem zm_322 : (.methodLink "WagerQuiz" 297 ⟨"WagerQuiz", "refused", "(I)I"⟩ : Cond) ∈ zeBT := zeBT_of (k := 322) (by decide +kernel) rfl
theorem zmp_2 : (.selects "WagerQuiz" ⟨"WagerQuiz", "refused", "(I)I"⟩ ⟨"WagerQuiz", "refused", "(I)I"⟩ : Cond) ∈ zeBT := zeBT_p (k := 2) (by decide +kernel) rfl
theorem zm_129 : (.fieldLink "WagerQuiz" 108 "WagerQuiz$State" "players" "I" : Cond) ∈ zeBT := zeBT_of (k := 129) (by decide +kernel) rfl
theorem zm_327 : (.constant "WagerQuiz" 132 (-10000004) : Cond) ∈ zeBT := zeBT_of (k := 327) (by decide +kernel) rfl
theorem zm_335 : (.constant "WagerQuiz" 102 (-10000001) : Cond) ∈ zeBT := zeBT_of (k := 335) (by decide +kernel) rfl
theorem zm_336 : (.constant "WagerQuiz" 207 (-10000002) : Cond) ∈ zeBT := zeBT_of (k := 336) (by decide +kernel) rfl
theorem zm_216 : (.fieldLink "WagerQuiz$History" 26 "WagerQuiz$History" "size" "I" : Cond) ∈ zeBT := zeBT_of (k := 216) (by decide +kernel) rfl
theorem zm_332 : (.methodLink "WagerQuiz" 139 ⟨"WagerQuiz", "isError", "(I)Z"⟩ : Cond) ∈ zeBT := zeBT_of (k := 332) (by decide +kernel) rfl
theorem zm_333 : (.static ⟨"WagerQuiz", "isError", "(I)Z"⟩ : Cond) ∈ zeBT := zeBT_of (k := 333) (by decide +kernel) rfl
theorem zm_337 : (.constant "WagerQuiz" 107 (-10000005) : Cond) ∈ zeBT := zeBT_of (k := 337) (by decide +kernel) rfl
theorem zm_339 : (.instanceMethod ⟨"WagerQuiz$History", "commit", "()V"⟩ : Cond) ∈ zeBT := zeBT_of (k := 339) (by decide +kernel) rfl
theorem zm_338 : (.methodLink "WagerQuiz" 145 ⟨"WagerQuiz$History", "commit", "()V"⟩ : Cond) ∈ zeBT := zeBT_of (k := 338) (by decide +kernel) rfl
theorem zm_340 : (.selects "WagerQuiz$History" ⟨"WagerQuiz$History", "commit", "()V"⟩ ⟨"WagerQuiz$History", "commit", "()V"⟩ : Cond) ∈ zeBT := zeBT_of (k := 340) (by decide +kernel) rfl
theorem zm_287 : (.instanceMethod ⟨"WagerQuiz$History", "prepare", "(LWagerQuiz$State;)V"⟩ : Cond) ∈ zeBT := zeBT_of (k := 287) (by decide +kernel) rfl
theorem zm_286 : (.methodLink "WagerQuiz" 56 ⟨"WagerQuiz$History", "prepare", "(LWagerQuiz$State;)V"⟩ : Cond) ∈ zeBT := zeBT_of (k := 286) (by decide +kernel) rfl
theorem zm_288 : (.selects "WagerQuiz$History" ⟨"WagerQuiz$History", "prepare", "(LWagerQuiz$State;)V"⟩ ⟨"WagerQuiz$History", "prepare", "(LWagerQuiz$State;)V"⟩ : Cond) ∈ zeBT := zeBT_of (k := 288) (by decide +kernel) rfl
theorem zm_316 : (.instanceMethod ⟨"WagerQuiz", "doAddPlayer", "()I"⟩ : Cond) ∈ zeBT := zeBT_of (k := 316) (by decide +kernel) rfl
theorem zm_314 : (.methodLink "WagerQuiz" 60 ⟨"WagerQuiz", "doAddPlayer", "()I"⟩ : Cond) ∈ zeBT := zeBT_of (k := 314) (by decide +kernel) rfl
theorem zmp_0 : (.selects "WagerQuiz" ⟨"WagerQuiz", "doAddPlayer", "()I"⟩ ⟨"WagerQuiz", "doAddPlayer", "()I"⟩ : Cond) ∈ zeBT := zeBT_p (k := 0) (by decide +kernel) rfl
theorem zm_330 : (.instanceMethod ⟨"WagerQuiz", "recorded", "(I)I"⟩ : Cond) ∈ zeBT := zeBT_of (k := 330) (by decide +kernel) rfl
theorem zm_328 : (.methodLink "WagerQuiz" 64 ⟨"WagerQuiz", "recorded", "(I)I"⟩ : Cond) ∈ zeBT := zeBT_of (k := 328) (by decide +kernel) rfl
theorem zmp_3 : (.selects "WagerQuiz" ⟨"WagerQuiz", "recorded", "(I)I"⟩ ⟨"WagerQuiz", "recorded", "(I)I"⟩ : Cond) ∈ zeBT := zeBT_p (k := 3) (by decide +kernel) rfl
theorem zm_820 : (.fieldLink "WagerQuizModel" 73 "WagerQuizModel" "reason" "I" : Cond) ∈ zeBT := zeBT_of (k := 820) (by decide +kernel) rfl
theorem zm_915 : (.constant "WagerQuizModel" 76 (-10000003) : Cond) ∈ zeBT := zeBT_of (k := 915) (by decide +kernel) rfl
theorem zm_817 : (.fieldLink "WagerQuizModel" 60 "WagerQuizModel" "kept" "I" : Cond) ∈ zeBT := zeBT_of (k := 817) (by decide +kernel) rfl
theorem zm_909 : (.instanceMethod ⟨"WagerQuizModel", "hasBegun", "()Z"⟩ : Cond) ∈ zeBT := zeBT_of (k := 909) (by decide +kernel) rfl
theorem zm_907 : (.methodLink "WagerQuizModel" 88 ⟨"WagerQuizModel", "hasBegun", "()Z"⟩ : Cond) ∈ zeBT := zeBT_of (k := 907) (by decide +kernel) rfl
theorem zmp_47 : (.selects "WagerQuizModel" ⟨"WagerQuizModel", "hasBegun", "()Z"⟩ ⟨"WagerQuizModel", "hasBegun", "()Z"⟩ : Cond) ∈ zeBT := zeBT_p (k := 47) (by decide +kernel) rfl
theorem zm_913 : (.instanceMethod ⟨"WagerQuizModel", "refuse", "(I)I"⟩ : Cond) ∈ zeBT := zeBT_of (k := 913) (by decide +kernel) rfl
theorem zm_911 : (.methodLink "WagerQuizModel" 92 ⟨"WagerQuizModel", "refuse", "(I)I"⟩ : Cond) ∈ zeBT := zeBT_of (k := 911) (by decide +kernel) rfl
theorem zmp_48 : (.selects "WagerQuizModel" ⟨"WagerQuizModel", "refuse", "(I)I"⟩ ⟨"WagerQuizModel", "refuse", "(I)I"⟩ : Cond) ∈ zeBT := zeBT_p (k := 48) (by decide +kernel) rfl
theorem zm_916 : (.constant "WagerQuizModel" 95 (-10000004) : Cond) ∈ zeBT := zeBT_of (k := 916) (by decide +kernel) rfl
theorem zm_901 : (.instanceMethod ⟨"WagerQuizModel", "record", "()V"⟩ : Cond) ∈ zeBT := zeBT_of (k := 901) (by decide +kernel) rfl
theorem zm_899 : (.methodLink "WagerQuizModel" 70 ⟨"WagerQuizModel", "record", "()V"⟩ : Cond) ∈ zeBT := zeBT_of (k := 899) (by decide +kernel) rfl
theorem zmp_46 : (.selects "WagerQuizModel" ⟨"WagerQuizModel", "record", "()V"⟩ ⟨"WagerQuizModel", "record", "()V"⟩ : Cond) ∈ zeBT := zeBT_p (k := 46) (by decide +kernel) rfl
theorem zm_359 : (.constant "java/lang/Integer" 265 (1431655765) : Cond) ∈ zeBT := zeBT_of (k := 359) (by decide +kernel) rfl
theorem zm_360 : (.constant "java/lang/Integer" 266 (858993459) : Cond) ∈ zeBT := zeBT_of (k := 360) (by decide +kernel) rfl
theorem zm_361 : (.constant "java/lang/Integer" 267 (252645135) : Cond) ∈ zeBT := zeBT_of (k := 361) (by decide +kernel) rfl
theorem zm_350 : (.methodLink "WagerQuiz" 214 ⟨"WagerQuiz", "isClue", "(I)Z"⟩ : Cond) ∈ zeBT := zeBT_of (k := 350) (by decide +kernel) rfl
theorem zm_351 : (.static ⟨"WagerQuiz", "isClue", "(I)Z"⟩ : Cond) ∈ zeBT := zeBT_of (k := 351) (by decide +kernel) rfl
theorem zm_131 : (.fieldLink "WagerQuiz" 220 "WagerQuiz$State" "wagerClues" "I" : Cond) ∈ zeBT := zeBT_of (k := 131) (by decide +kernel) rfl
theorem zm_353 : (.methodLink "WagerQuiz" 223 ⟨"WagerQuiz", "bitOf", "(II)I"⟩ : Cond) ∈ zeBT := zeBT_of (k := 353) (by decide +kernel) rfl
theorem zm_354 : (.static ⟨"WagerQuiz", "bitOf", "(II)I"⟩ : Cond) ∈ zeBT := zeBT_of (k := 354) (by decide +kernel) rfl
theorem zm_356 : (.methodLink "WagerQuiz" 259 ⟨"java/lang/Integer", "bitCount", "(I)I"⟩ : Cond) ∈ zeBT := zeBT_of (k := 356) (by decide +kernel) rfl
theorem zm_357 : (.static ⟨"java/lang/Integer", "bitCount", "(I)I"⟩ : Cond) ∈ zeBT := zeBT_of (k := 357) (by decide +kernel) rfl
theorem zm_348 : (.instanceMethod ⟨"WagerQuiz", "doSetWagerClue", "(IZ)I"⟩ : Cond) ∈ zeBT := zeBT_of (k := 348) (by decide +kernel) rfl
theorem zm_346 : (.methodLink "WagerQuiz" 68 ⟨"WagerQuiz", "doSetWagerClue", "(IZ)I"⟩ : Cond) ∈ zeBT := zeBT_of (k := 346) (by decide +kernel) rfl
theorem zmp_4 : (.selects "WagerQuiz" ⟨"WagerQuiz", "doSetWagerClue", "(IZ)I"⟩ ⟨"WagerQuiz", "doSetWagerClue", "(IZ)I"⟩ : Cond) ∈ zeBT := zeBT_p (k := 4) (by decide +kernel) rfl
theorem zm_891 : (.methodLink "WagerQuizModel" 65 ⟨"WagerQuizModel", "in", "(III)Z"⟩ : Cond) ∈ zeBT := zeBT_of (k := 891) (by decide +kernel) rfl
theorem zm_892 : (.static ⟨"WagerQuizModel", "in", "(III)Z"⟩ : Cond) ∈ zeBT := zeBT_of (k := 892) (by decide +kernel) rfl
theorem zm_894 : (.constant "WagerQuizModel" 69 (-10000001) : Cond) ∈ zeBT := zeBT_of (k := 894) (by decide +kernel) rfl
theorem zm_886 : (.constant "WagerQuizModel" 64 (-10000005) : Cond) ∈ zeBT := zeBT_of (k := 886) (by decide +kernel) rfl
theorem zm_921 : (.methodLink "WagerQuizModel" 96 ⟨"WagerQuizModel", "bits", "(I)I"⟩ : Cond) ∈ zeBT := zeBT_of (k := 921) (by decide +kernel) rfl
theorem zm_922 : (.static ⟨"WagerQuizModel", "bits", "(I)I"⟩ : Cond) ∈ zeBT := zeBT_of (k := 922) (by decide +kernel) rfl
theorem zm_370 : (.fieldLink "WagerQuiz" 300 "WagerQuiz" "SETTING_TOPS" "[I" : Cond) ∈ zeBT := zeBT_of (k := 370) (by decide +kernel) rfl
theorem zm_135 : (.fieldLink "WagerQuiz" 280 "WagerQuiz$State" "settings" "[I" : Cond) ∈ zeBT := zeBT_of (k := 135) (by decide +kernel) rfl
theorem zm_368 : (.instanceMethod ⟨"WagerQuiz", "doSet", "(II)I"⟩ : Cond) ∈ zeBT := zeBT_of (k := 368) (by decide +kernel) rfl
theorem zm_366 : (.methodLink "WagerQuiz" 72 ⟨"WagerQuiz", "doSet", "(II)I"⟩ : Cond) ∈ zeBT := zeBT_of (k := 366) (by decide +kernel) rfl
theorem zmp_5 : (.selects "WagerQuiz" ⟨"WagerQuiz", "doSet", "(II)I"⟩ ⟨"WagerQuiz", "doSet", "(II)I"⟩ : Cond) ∈ zeBT := zeBT_p (k := 5) (by decide +kernel) rfl
theorem zm_928 : (.constant "WagerQuizModel" 99 (-10000002) : Cond) ∈ zeBT := zeBT_of (k := 928) (by decide +kernel) rfl
theorem zm_167 : (.fieldLink "WagerQuiz" 350 "WagerQuiz$Replay" "control" "I" : Cond) ∈ zeBT := zeBT_of (k := 167) (by decide +kernel) rfl
theorem zm_391 : (.constant "WagerQuiz$PickedClue" 38 (-10000005) : Cond) ∈ zeBT := zeBT_of (k := 391) (by decide +kernel) rfl
theorem zm_381 : (.instanceMethod ⟨"WagerQuiz", "isPlayer", "(I)Z"⟩ : Cond) ∈ zeBT := zeBT_of (k := 381) (by decide +kernel) rfl
theorem zm_379 : (.methodLink "WagerQuiz" 98 ⟨"WagerQuiz", "isPlayer", "(I)Z"⟩ : Cond) ∈ zeBT := zeBT_of (k := 379) (by decide +kernel) rfl
theorem zmp_7 : (.selects "WagerQuiz" ⟨"WagerQuiz", "isPlayer", "(I)Z"⟩ ⟨"WagerQuiz", "isPlayer", "(I)Z"⟩ : Cond) ∈ zeBT := zeBT_p (k := 7) (by decide +kernel) rfl
theorem zm_385 : (.instanceMethod ⟨"WagerQuiz", "controller", "()I"⟩ : Cond) ∈ zeBT := zeBT_of (k := 385) (by decide +kernel) rfl
theorem zm_383 : (.methodLink "WagerQuiz" 271 ⟨"WagerQuiz", "controller", "()I"⟩ : Cond) ∈ zeBT := zeBT_of (k := 383) (by decide +kernel) rfl
theorem zmp_8 : (.selects "WagerQuiz" ⟨"WagerQuiz", "controller", "()I"⟩ ⟨"WagerQuiz", "controller", "()I"⟩ : Cond) ∈ zeBT := zeBT_p (k := 8) (by decide +kernel) rfl
theorem zm_137 : (.fieldLink "WagerQuiz" 186 "WagerQuiz$State" "open" "LWagerQuiz$PickedClue;" : Cond) ∈ zeBT := zeBT_of (k := 137) (by decide +kernel) rfl
theorem zm_388 : (.instanceMethod ⟨"WagerQuiz$PickedClue", "begin", "(III)V"⟩ : Cond) ∈ zeBT := zeBT_of (k := 388) (by decide +kernel) rfl
theorem zm_387 : (.methodLink "WagerQuiz" 303 ⟨"WagerQuiz$PickedClue", "begin", "(III)V"⟩ : Cond) ∈ zeBT := zeBT_of (k := 387) (by decide +kernel) rfl
theorem zm_389 : (.selects "WagerQuiz$PickedClue" ⟨"WagerQuiz$PickedClue", "begin", "(III)V"⟩ ⟨"WagerQuiz$PickedClue", "begin", "(III)V"⟩ : Cond) ∈ zeBT := zeBT_of (k := 389) (by decide +kernel) rfl
theorem zm_392 : (.methodLink "WagerQuiz" 217 ⟨"WagerQuiz", "valueOf", "(I)I"⟩ : Cond) ∈ zeBT := zeBT_of (k := 392) (by decide +kernel) rfl
theorem zm_393 : (.static ⟨"WagerQuiz", "valueOf", "(I)I"⟩ : Cond) ∈ zeBT := zeBT_of (k := 393) (by decide +kernel) rfl
theorem zm_377 : (.instanceMethod ⟨"WagerQuiz", "doPick", "(II)I"⟩ : Cond) ∈ zeBT := zeBT_of (k := 377) (by decide +kernel) rfl
theorem zm_375 : (.methodLink "WagerQuiz" 76 ⟨"WagerQuiz", "doPick", "(II)I"⟩ : Cond) ∈ zeBT := zeBT_of (k := 375) (by decide +kernel) rfl
theorem zmp_6 : (.selects "WagerQuiz" ⟨"WagerQuiz", "doPick", "(II)I"⟩ ⟨"WagerQuiz", "doPick", "(II)I"⟩ : Cond) ∈ zeBT := zeBT_p (k := 6) (by decide +kernel) rfl
theorem zm_945 : (.methodLink "WagerQuizModel" 77 ⟨"WagerQuizModel", "at", "(I)I"⟩ : Cond) ∈ zeBT := zeBT_of (k := 945) (by decide +kernel) rfl
theorem zm_946 : (.static ⟨"WagerQuizModel", "at", "(I)I"⟩ : Cond) ∈ zeBT := zeBT_of (k := 946) (by decide +kernel) rfl
theorem zm_828 : (.fieldLink "WagerQuizModel" 81 "WagerQuizModel" "control" "I" : Cond) ∈ zeBT := zeBT_of (k := 828) (by decide +kernel) rfl
theorem zm_950 : (.instanceMethod ⟨"WagerQuizModel", "isStealVoid", "(I)Z"⟩ : Cond) ∈ zeBT := zeBT_of (k := 950) (by decide +kernel) rfl
theorem zm_948 : (.methodLink "WagerQuizModel" 84 ⟨"WagerQuizModel", "isStealVoid", "(I)Z"⟩ : Cond) ∈ zeBT := zeBT_of (k := 948) (by decide +kernel) rfl
theorem zmp_52 : (.selects "WagerQuizModel" ⟨"WagerQuizModel", "isStealVoid", "(I)Z"⟩ ⟨"WagerQuizModel", "isStealVoid", "(I)Z"⟩ : Cond) ∈ zeBT := zeBT_p (k := 52) (by decide +kernel) rfl
theorem zm_939 : (.instanceMethod ⟨"WagerQuizModel", "noPlayer", "(I)Z"⟩ : Cond) ∈ zeBT := zeBT_of (k := 939) (by decide +kernel) rfl
theorem zm_937 : (.methodLink "WagerQuizModel" 100 ⟨"WagerQuizModel", "noPlayer", "(I)Z"⟩ : Cond) ∈ zeBT := zeBT_of (k := 937) (by decide +kernel) rfl
theorem zmp_50 : (.selects "WagerQuizModel" ⟨"WagerQuizModel", "noPlayer", "(I)Z"⟩ ⟨"WagerQuizModel", "noPlayer", "(I)Z"⟩ : Cond) ∈ zeBT := zeBT_p (k := 50) (by decide +kernel) rfl
theorem zm_943 : (.instanceMethod ⟨"WagerQuizModel", "replay", "()V"⟩ : Cond) ∈ zeBT := zeBT_of (k := 943) (by decide +kernel) rfl
theorem zm_941 : (.methodLink "WagerQuizModel" 103 ⟨"WagerQuizModel", "replay", "()V"⟩ : Cond) ∈ zeBT := zeBT_of (k := 941) (by decide +kernel) rfl
theorem zmp_51 : (.selects "WagerQuizModel" ⟨"WagerQuizModel", "replay", "()V"⟩ ⟨"WagerQuizModel", "replay", "()V"⟩ : Cond) ∈ zeBT := zeBT_p (k := 51) (by decide +kernel) rfl
theorem zm_956 : (.methodLink "WagerQuizModel" 106 ⟨"WagerQuizModel", "value", "(I)I"⟩ : Cond) ∈ zeBT := zeBT_of (k := 956) (by decide +kernel) rfl
theorem zm_957 : (.static ⟨"WagerQuizModel", "value", "(I)I"⟩ : Cond) ∈ zeBT := zeBT_of (k := 957) (by decide +kernel) rfl
theorem zm_935 : (.instanceMethod ⟨"WagerQuizModel", "checkPick", "(II)I"⟩ : Cond) ∈ zeBT := zeBT_of (k := 935) (by decide +kernel) rfl
theorem zm_933 : (.methodLink "WagerQuizModel" 109 ⟨"WagerQuizModel", "checkPick", "(II)I"⟩ : Cond) ∈ zeBT := zeBT_of (k := 933) (by decide +kernel) rfl
theorem zmp_49 : (.selects "WagerQuizModel" ⟨"WagerQuizModel", "checkPick", "(II)I"⟩ ⟨"WagerQuizModel", "checkPick", "(II)I"⟩ : Cond) ∈ zeBT := zeBT_p (k := 49) (by decide +kernel) rfl
theorem zm_954 : (.instanceMethod ⟨"WagerQuizModel", "picks", "(I)I"⟩ : Cond) ∈ zeBT := zeBT_of (k := 954) (by decide +kernel) rfl
theorem zm_952 : (.methodLink "WagerQuizModel" 113 ⟨"WagerQuizModel", "picks", "(I)I"⟩ : Cond) ∈ zeBT := zeBT_of (k := 952) (by decide +kernel) rfl
theorem zmp_53 : (.selects "WagerQuizModel" ⟨"WagerQuizModel", "picks", "(I)I"⟩ ⟨"WagerQuizModel", "picks", "(I)I"⟩ : Cond) ∈ zeBT := zeBT_p (k := 53) (by decide +kernel) rfl
theorem zm_404 : (.instanceMethod ⟨"WagerQuiz$PickedClue", "isTold", "(II)Z"⟩ : Cond) ∈ zeBT := zeBT_of (k := 404) (by decide +kernel) rfl
theorem zm_419 : (.methodLink "WagerQuiz$PickedClue" 46 ⟨"WagerQuiz$PickedClue", "isTold", "(II)Z"⟩ : Cond) ∈ zeBT := zeBT_of (k := 419) (by decide +kernel) rfl
theorem zm_405 : (.selects "WagerQuiz$PickedClue" ⟨"WagerQuiz$PickedClue", "isTold", "(II)Z"⟩ ⟨"WagerQuiz$PickedClue", "isTold", "(II)Z"⟩ : Cond) ∈ zeBT := zeBT_of (k := 405) (by decide +kernel) rfl
theorem zm_420 : (.methodLink "WagerQuiz$PickedClue" 50 ⟨"java/lang/Math", "max", "(II)I"⟩ : Cond) ∈ zeBT := zeBT_of (k := 420) (by decide +kernel) rfl
theorem zm_421 : (.static ⟨"java/lang/Math", "max", "(II)I"⟩ : Cond) ∈ zeBT := zeBT_of (k := 421) (by decide +kernel) rfl
theorem zm_13 : (.initialized "java/lang/Math" : Cond) ∈ zeBT := zeBT_of (k := 13) (by decide +kernel) rfl
theorem zm_417 : (.instanceMethod ⟨"WagerQuiz$PickedClue", "endOfLock", "(I)I"⟩ : Cond) ∈ zeBT := zeBT_of (k := 417) (by decide +kernel) rfl
theorem zm_415 : (.methodLink "WagerQuiz$PickedClue" 43 ⟨"WagerQuiz$PickedClue", "endOfLock", "(I)I"⟩ : Cond) ∈ zeBT := zeBT_of (k := 415) (by decide +kernel) rfl
theorem zmp_11 : (.selects "WagerQuiz$PickedClue" ⟨"WagerQuiz$PickedClue", "endOfLock", "(I)I"⟩ ⟨"WagerQuiz$PickedClue", "endOfLock", "(I)I"⟩ : Cond) ∈ zeBT := zeBT_p (k := 11) (by decide +kernel) rfl
theorem zm_413 : (.instanceMethod ⟨"WagerQuiz$PickedClue", "leastCountingTick", "(I)I"⟩ : Cond) ∈ zeBT := zeBT_of (k := 413) (by decide +kernel) rfl
theorem zm_411 : (.methodLink "WagerQuiz$PickedClue" 39 ⟨"WagerQuiz$PickedClue", "leastCountingTick", "(I)I"⟩ : Cond) ∈ zeBT := zeBT_of (k := 411) (by decide +kernel) rfl
theorem zmp_10 : (.selects "WagerQuiz$PickedClue" ⟨"WagerQuiz$PickedClue", "leastCountingTick", "(I)I"⟩ ⟨"WagerQuiz$PickedClue", "leastCountingTick", "(I)I"⟩ : Cond) ∈ zeBT := zeBT_p (k := 10) (by decide +kernel) rfl
theorem zm_47 : (.fieldLink "WagerQuiz" 190 "WagerQuiz$PickedClue" "countingTicks" "[I" : Cond) ∈ zeBT := zeBT_of (k := 47) (by decide +kernel) rfl
theorem zm_45 : (.fieldLink "WagerQuiz" 340 "WagerQuiz$PickedClue" "answered" "I" : Cond) ∈ zeBT := zeBT_of (k := 45) (by decide +kernel) rfl
theorem zm_429 : (.instanceMethod ⟨"WagerQuiz", "isQueued", "(I)Z"⟩ : Cond) ∈ zeBT := zeBT_of (k := 429) (by decide +kernel) rfl
theorem zm_427 : (.methodLink "WagerQuiz" 403 ⟨"WagerQuiz", "isQueued", "(I)Z"⟩ : Cond) ∈ zeBT := zeBT_of (k := 427) (by decide +kernel) rfl
theorem zmp_13 : (.selects "WagerQuiz" ⟨"WagerQuiz", "isQueued", "(I)Z"⟩ ⟨"WagerQuiz", "isQueued", "(I)Z"⟩ : Cond) ∈ zeBT := zeBT_p (k := 13) (by decide +kernel) rfl
theorem zm_403 : (.methodLink "WagerQuiz" 307 ⟨"WagerQuiz$PickedClue", "isTold", "(II)Z"⟩ : Cond) ∈ zeBT := zeBT_of (k := 403) (by decide +kernel) rfl
theorem zm_408 : (.instanceMethod ⟨"WagerQuiz$PickedClue", "tell", "(II)V"⟩ : Cond) ∈ zeBT := zeBT_of (k := 408) (by decide +kernel) rfl
theorem zm_407 : (.methodLink "WagerQuiz" 311 ⟨"WagerQuiz$PickedClue", "tell", "(II)V"⟩ : Cond) ∈ zeBT := zeBT_of (k := 407) (by decide +kernel) rfl
theorem zm_409 : (.selects "WagerQuiz$PickedClue" ⟨"WagerQuiz$PickedClue", "tell", "(II)V"⟩ ⟨"WagerQuiz$PickedClue", "tell", "(II)V"⟩ : Cond) ∈ zeBT := zeBT_of (k := 409) (by decide +kernel) rfl
theorem zm_425 : (.instanceMethod ⟨"WagerQuiz", "queueLength", "()I"⟩ : Cond) ∈ zeBT := zeBT_of (k := 425) (by decide +kernel) rfl
theorem zm_423 : (.methodLink "WagerQuiz" 315 ⟨"WagerQuiz", "queueLength", "()I"⟩ : Cond) ∈ zeBT := zeBT_of (k := 423) (by decide +kernel) rfl
theorem zmp_12 : (.selects "WagerQuiz" ⟨"WagerQuiz", "queueLength", "()I"⟩ ⟨"WagerQuiz", "queueLength", "()I"⟩ : Cond) ∈ zeBT := zeBT_p (k := 12) (by decide +kernel) rfl
theorem zm_401 : (.instanceMethod ⟨"WagerQuiz", "doBuzz", "(II)I"⟩ : Cond) ∈ zeBT := zeBT_of (k := 401) (by decide +kernel) rfl
theorem zm_399 : (.methodLink "WagerQuiz" 79 ⟨"WagerQuiz", "doBuzz", "(II)I"⟩ : Cond) ∈ zeBT := zeBT_of (k := 399) (by decide +kernel) rfl
theorem zmp_9 : (.selects "WagerQuiz" ⟨"WagerQuiz", "doBuzz", "(II)I"⟩ ⟨"WagerQuiz", "doBuzz", "(II)I"⟩ : Cond) ∈ zeBT := zeBT_p (k := 9) (by decide +kernel) rfl
theorem zm_969 : (.instanceMethod ⟨"WagerQuizModel", "hasBuzzed", "(II)Z"⟩ : Cond) ∈ zeBT := zeBT_of (k := 969) (by decide +kernel) rfl
theorem zm_967 : (.methodLink "WagerQuizModel" 116 ⟨"WagerQuizModel", "hasBuzzed", "(II)Z"⟩ : Cond) ∈ zeBT := zeBT_of (k := 967) (by decide +kernel) rfl
theorem zmp_55 : (.selects "WagerQuizModel" ⟨"WagerQuizModel", "hasBuzzed", "(II)Z"⟩ ⟨"WagerQuizModel", "hasBuzzed", "(II)Z"⟩ : Cond) ∈ zeBT := zeBT_p (k := 55) (by decide +kernel) rfl
theorem zm_981 : (.instanceMethod ⟨"WagerQuizModel", "counting", "(I)I"⟩ : Cond) ∈ zeBT := zeBT_of (k := 981) (by decide +kernel) rfl
theorem zm_979 : (.methodLink "WagerQuizModel" 130 ⟨"WagerQuizModel", "counting", "(I)I"⟩ : Cond) ∈ zeBT := zeBT_of (k := 979) (by decide +kernel) rfl
theorem zmp_58 : (.selects "WagerQuizModel" ⟨"WagerQuizModel", "counting", "(I)I"⟩ ⟨"WagerQuizModel", "counting", "(I)I"⟩ : Cond) ∈ zeBT := zeBT_p (k := 58) (by decide +kernel) rfl
theorem zm_985 : (.instanceMethod ⟨"WagerQuizModel", "isAhead", "(III)Z"⟩ : Cond) ∈ zeBT := zeBT_of (k := 985) (by decide +kernel) rfl
theorem zm_983 : (.methodLink "WagerQuizModel" 133 ⟨"WagerQuizModel", "isAhead", "(III)Z"⟩ : Cond) ∈ zeBT := zeBT_of (k := 983) (by decide +kernel) rfl
theorem zmp_59 : (.selects "WagerQuizModel" ⟨"WagerQuizModel", "isAhead", "(III)Z"⟩ ⟨"WagerQuizModel", "isAhead", "(III)Z"⟩ : Cond) ∈ zeBT := zeBT_p (k := 59) (by decide +kernel) rfl
theorem zm_977 : (.instanceMethod ⟨"WagerQuizModel", "queue", "()I"⟩ : Cond) ∈ zeBT := zeBT_of (k := 977) (by decide +kernel) rfl
theorem zm_975 : (.methodLink "WagerQuizModel" 120 ⟨"WagerQuizModel", "queue", "()I"⟩ : Cond) ∈ zeBT := zeBT_of (k := 975) (by decide +kernel) rfl
theorem zmp_57 : (.selects "WagerQuizModel" ⟨"WagerQuizModel", "queue", "()I"⟩ ⟨"WagerQuizModel", "queue", "()I"⟩ : Cond) ∈ zeBT := zeBT_p (k := 57) (by decide +kernel) rfl
theorem zm_965 : (.instanceMethod ⟨"WagerQuizModel", "checkBuzz", "(II)I"⟩ : Cond) ∈ zeBT := zeBT_of (k := 965) (by decide +kernel) rfl
theorem zm_963 : (.methodLink "WagerQuizModel" 124 ⟨"WagerQuizModel", "checkBuzz", "(II)I"⟩ : Cond) ∈ zeBT := zeBT_of (k := 963) (by decide +kernel) rfl
theorem zmp_54 : (.selects "WagerQuizModel" ⟨"WagerQuizModel", "checkBuzz", "(II)I"⟩ ⟨"WagerQuizModel", "checkBuzz", "(II)I"⟩ : Cond) ∈ zeBT := zeBT_p (k := 54) (by decide +kernel) rfl
theorem zm_973 : (.instanceMethod ⟨"WagerQuizModel", "buzzes", "(II)I"⟩ : Cond) ∈ zeBT := zeBT_of (k := 973) (by decide +kernel) rfl
theorem zm_971 : (.methodLink "WagerQuizModel" 127 ⟨"WagerQuizModel", "buzzes", "(II)I"⟩ : Cond) ∈ zeBT := zeBT_of (k := 971) (by decide +kernel) rfl
theorem zmp_56 : (.selects "WagerQuizModel" ⟨"WagerQuizModel", "buzzes", "(II)I"⟩ ⟨"WagerQuizModel", "buzzes", "(II)I"⟩ : Cond) ∈ zeBT := zeBT_p (k := 56) (by decide +kernel) rfl
theorem zm_169 : (.fieldLink "WagerQuiz" 103 "WagerQuiz$Replay" "scores" "[I" : Cond) ∈ zeBT := zeBT_of (k := 169) (by decide +kernel) rfl
theorem zm_453 : (.instanceMethod ⟨"WagerQuiz", "isQueuedAhead", "(II)Z"⟩ : Cond) ∈ zeBT := zeBT_of (k := 453) (by decide +kernel) rfl
theorem zm_451 : (.methodLink "WagerQuiz" 406 ⟨"WagerQuiz", "isQueuedAhead", "(II)Z"⟩ : Cond) ∈ zeBT := zeBT_of (k := 451) (by decide +kernel) rfl
theorem zmp_18 : (.selects "WagerQuiz" ⟨"WagerQuiz", "isQueuedAhead", "(II)Z"⟩ ⟨"WagerQuiz", "isQueuedAhead", "(II)Z"⟩ : Cond) ∈ zeBT := zeBT_p (k := 18) (by decide +kernel) rfl
theorem zm_449 : (.instanceMethod ⟨"WagerQuiz", "queuePlaceOf", "(I)I"⟩ : Cond) ∈ zeBT := zeBT_of (k := 449) (by decide +kernel) rfl
theorem zm_447 : (.methodLink "WagerQuiz" 409 ⟨"WagerQuiz", "queuePlaceOf", "(I)I"⟩ : Cond) ∈ zeBT := zeBT_of (k := 447) (by decide +kernel) rfl
theorem zmp_17 : (.selects "WagerQuiz" ⟨"WagerQuiz", "queuePlaceOf", "(I)I"⟩ ⟨"WagerQuiz", "queuePlaceOf", "(I)I"⟩ : Cond) ∈ zeBT := zeBT_p (k := 17) (by decide +kernel) rfl
theorem zm_465 : (.instanceMethod ⟨"WagerQuiz$FinalRound", "isEarlier", "(II)Z"⟩ : Cond) ∈ zeBT := zeBT_of (k := 465) (by decide +kernel) rfl
theorem zm_463 : (.methodLink "WagerQuiz$FinalRound" 37 ⟨"WagerQuiz$FinalRound", "isEarlier", "(II)Z"⟩ : Cond) ∈ zeBT := zeBT_of (k := 463) (by decide +kernel) rfl
theorem zmp_20 : (.selects "WagerQuiz$FinalRound" ⟨"WagerQuiz$FinalRound", "isEarlier", "(II)Z"⟩ ⟨"WagerQuiz$FinalRound", "isEarlier", "(II)Z"⟩ : Cond) ∈ zeBT := zeBT_p (k := 20) (by decide +kernel) rfl
theorem zm_461 : (.instanceMethod ⟨"WagerQuiz$FinalRound", "turnOf", "(I)I"⟩ : Cond) ∈ zeBT := zeBT_of (k := 461) (by decide +kernel) rfl
theorem zm_459 : (.methodLink "WagerQuiz$FinalRound" 29 ⟨"WagerQuiz$FinalRound", "turnOf", "(I)I"⟩ : Cond) ∈ zeBT := zeBT_of (k := 459) (by decide +kernel) rfl
theorem zmp_19 : (.selects "WagerQuiz$FinalRound" ⟨"WagerQuiz$FinalRound", "turnOf", "(I)I"⟩ ⟨"WagerQuiz$FinalRound", "turnOf", "(I)I"⟩ : Cond) ∈ zeBT := zeBT_p (k := 19) (by decide +kernel) rfl
theorem zm_445 : (.instanceMethod ⟨"WagerQuiz", "playerInQueue", "(I)I"⟩ : Cond) ∈ zeBT := zeBT_of (k := 445) (by decide +kernel) rfl
theorem zm_443 : (.methodLink "WagerQuiz" 211 ⟨"WagerQuiz", "playerInQueue", "(I)I"⟩ : Cond) ∈ zeBT := zeBT_of (k := 443) (by decide +kernel) rfl
theorem zmp_16 : (.selects "WagerQuiz" ⟨"WagerQuiz", "playerInQueue", "(I)I"⟩ ⟨"WagerQuiz", "playerInQueue", "(I)I"⟩ : Cond) ∈ zeBT := zeBT_p (k := 16) (by decide +kernel) rfl
theorem zm_139 : (.fieldLink "WagerQuiz" 195 "WagerQuiz$State" "finale" "LWagerQuiz$FinalRound;" : Cond) ∈ zeBT := zeBT_of (k := 139) (by decide +kernel) rfl
theorem zm_456 : (.instanceMethod ⟨"WagerQuiz$FinalRound", "nextToAnswer", "()I"⟩ : Cond) ∈ zeBT := zeBT_of (k := 456) (by decide +kernel) rfl
theorem zm_455 : (.methodLink "WagerQuiz" 283 ⟨"WagerQuiz$FinalRound", "nextToAnswer", "()I"⟩ : Cond) ∈ zeBT := zeBT_of (k := 455) (by decide +kernel) rfl
theorem zm_457 : (.selects "WagerQuiz$FinalRound" ⟨"WagerQuiz$FinalRound", "nextToAnswer", "()I"⟩ ⟨"WagerQuiz$FinalRound", "nextToAnswer", "()I"⟩ : Cond) ∈ zeBT := zeBT_of (k := 457) (by decide +kernel) rfl
theorem zm_468 : (.instanceMethod ⟨"WagerQuiz$Log", "isFull", "()Z"⟩ : Cond) ∈ zeBT := zeBT_of (k := 468) (by decide +kernel) rfl
theorem zm_479 : (.methodLink "WagerQuiz$Log" 31 ⟨"WagerQuiz$Log", "isFull", "()Z"⟩ : Cond) ∈ zeBT := zeBT_of (k := 479) (by decide +kernel) rfl
theorem zm_469 : (.selects "WagerQuiz$Log" ⟨"WagerQuiz$Log", "isFull", "()Z"⟩ ⟨"WagerQuiz$Log", "isFull", "()Z"⟩ : Cond) ∈ zeBT := zeBT_of (k := 469) (by decide +kernel) rfl
theorem zm_39 : (.fieldLink "WagerQuiz" 268 "WagerQuiz$PickedClue" "clue" "I" : Cond) ∈ zeBT := zeBT_of (k := 39) (by decide +kernel) rfl
theorem zm_141 : (.fieldLink "WagerQuiz" 164 "WagerQuiz$State" "log" "LWagerQuiz$Log;" : Cond) ∈ zeBT := zeBT_of (k := 141) (by decide +kernel) rfl
theorem zm_476 : (.instanceMethod ⟨"WagerQuiz$Log", "append", "(IIIII)V"⟩ : Cond) ∈ zeBT := zeBT_of (k := 476) (by decide +kernel) rfl
theorem zm_475 : (.methodLink "WagerQuiz" 331 ⟨"WagerQuiz$Log", "append", "(IIIII)V"⟩ : Cond) ∈ zeBT := zeBT_of (k := 475) (by decide +kernel) rfl
theorem zm_477 : (.selects "WagerQuiz$Log" ⟨"WagerQuiz$Log", "append", "(IIIII)V"⟩ ⟨"WagerQuiz$Log", "append", "(IIIII)V"⟩ : Cond) ∈ zeBT := zeBT_of (k := 477) (by decide +kernel) rfl
theorem zm_81 : (.fieldLink "WagerQuiz" 199 "WagerQuiz$FinalRound" "wagers" "[I" : Cond) ∈ zeBT := zeBT_of (k := 81) (by decide +kernel) rfl
theorem zm_77 : (.fieldLink "WagerQuiz" 343 "WagerQuiz$FinalRound" "answers" "I" : Cond) ∈ zeBT := zeBT_of (k := 77) (by decide +kernel) rfl
theorem zm_485 : (.instanceMethod ⟨"WagerQuiz$FinalRound", "members", "()I"⟩ : Cond) ∈ zeBT := zeBT_of (k := 485) (by decide +kernel) rfl
theorem zm_484 : (.methodLink "WagerQuiz" 346 ⟨"WagerQuiz$FinalRound", "members", "()I"⟩ : Cond) ∈ zeBT := zeBT_of (k := 484) (by decide +kernel) rfl
theorem zm_486 : (.selects "WagerQuiz$FinalRound" ⟨"WagerQuiz$FinalRound", "members", "()I"⟩ ⟨"WagerQuiz$FinalRound", "members", "()I"⟩ : Cond) ∈ zeBT := zeBT_of (k := 486) (by decide +kernel) rfl
theorem zm_511 : (.methodLink "WagerQuiz$Replay" 86 ⟨"java/lang/Math", "max", "(II)I"⟩ : Cond) ∈ zeBT := zeBT_of (k := 511) (by decide +kernel) rfl
theorem zm_512 : (.methodLink "WagerQuiz$Replay" 92 ⟨"java/lang/Math", "min", "(II)I"⟩ : Cond) ∈ zeBT := zeBT_of (k := 512) (by decide +kernel) rfl
theorem zm_513 : (.static ⟨"java/lang/Math", "min", "(II)I"⟩ : Cond) ∈ zeBT := zeBT_of (k := 513) (by decide +kernel) rfl
theorem zm_166 : (.fieldLink "WagerQuiz$Replay" 41 "WagerQuiz$Replay" "control" "I" : Cond) ∈ zeBT := zeBT_of (k := 166) (by decide +kernel) rfl
theorem zm_99 : (.fieldLink "WagerQuiz$Replay" 58 "WagerQuiz$Log" "players" "[I" : Cond) ∈ zeBT := zeBT_of (k := 99) (by decide +kernel) rfl
theorem zm_500 : (.methodLink "WagerQuiz$Replay" 54 ⟨"WagerQuiz$Replay", "isSeat", "(I)Z"⟩ : Cond) ∈ zeBT := zeBT_of (k := 500) (by decide +kernel) rfl
theorem zm_501 : (.static ⟨"WagerQuiz$Replay", "isSeat", "(I)Z"⟩ : Cond) ∈ zeBT := zeBT_of (k := 501) (by decide +kernel) rfl
theorem zm_108 : (.fieldLink "WagerQuiz$Replay" 61 "WagerQuiz$Log" "amounts" "[I" : Cond) ∈ zeBT := zeBT_of (k := 108) (by decide +kernel) rfl
theorem zm_102 : (.fieldLink "WagerQuiz$Replay" 62 "WagerQuiz$Log" "sorts" "[I" : Cond) ∈ zeBT := zeBT_of (k := 102) (by decide +kernel) rfl
theorem zm_105 : (.fieldLink "WagerQuiz$Replay" 65 "WagerQuiz$Log" "clues" "[I" : Cond) ∈ zeBT := zeBT_of (k := 105) (by decide +kernel) rfl
theorem zm_505 : (.instanceMethod ⟨"WagerQuiz$Replay", "solverOf", "(I)I"⟩ : Cond) ∈ zeBT := zeBT_of (k := 505) (by decide +kernel) rfl
theorem zm_503 : (.methodLink "WagerQuiz$Replay" 68 ⟨"WagerQuiz$Replay", "solverOf", "(I)I"⟩ : Cond) ∈ zeBT := zeBT_of (k := 503) (by decide +kernel) rfl
theorem zmp_25 : (.selects "WagerQuiz$Replay" ⟨"WagerQuiz$Replay", "solverOf", "(I)I"⟩ ⟨"WagerQuiz$Replay", "solverOf", "(I)I"⟩ : Cond) ∈ zeBT := zeBT_p (k := 25) (by decide +kernel) rfl
theorem zm_508 : (.methodLink "WagerQuiz$Replay" 72 ⟨"WagerQuiz$Replay", "limited", "(III)I"⟩ : Cond) ∈ zeBT := zeBT_of (k := 508) (by decide +kernel) rfl
theorem zm_509 : (.static ⟨"WagerQuiz$Replay", "limited", "(III)I"⟩ : Cond) ∈ zeBT := zeBT_of (k := 509) (by decide +kernel) rfl
theorem zm_111 : (.fieldLink "WagerQuiz$Replay" 76 "WagerQuiz$Log" "judgements" "[I" : Cond) ∈ zeBT := zeBT_of (k := 111) (by decide +kernel) rfl
theorem zm_517 : (.instanceMethod ⟨"WagerQuiz$Replay", "noteRight", "(II)V"⟩ : Cond) ∈ zeBT := zeBT_of (k := 517) (by decide +kernel) rfl
theorem zm_515 : (.methodLink "WagerQuiz$Replay" 79 ⟨"WagerQuiz$Replay", "noteRight", "(II)V"⟩ : Cond) ∈ zeBT := zeBT_of (k := 515) (by decide +kernel) rfl
theorem zmp_26 : (.selects "WagerQuiz$Replay" ⟨"WagerQuiz$Replay", "noteRight", "(II)V"⟩ ⟨"WagerQuiz$Replay", "noteRight", "(II)V"⟩ : Cond) ∈ zeBT := zeBT_p (k := 26) (by decide +kernel) rfl
theorem zm_96 : (.fieldLink "WagerQuiz$Replay" 45 "WagerQuiz$Log" "size" "I" : Cond) ∈ zeBT := zeBT_of (k := 96) (by decide +kernel) rfl
theorem zm_498 : (.instanceMethod ⟨"WagerQuiz$Replay", "replayEntry", "(LWagerQuiz$Log;I)V"⟩ : Cond) ∈ zeBT := zeBT_of (k := 498) (by decide +kernel) rfl
theorem zm_496 : (.methodLink "WagerQuiz$Replay" 50 ⟨"WagerQuiz$Replay", "replayEntry", "(LWagerQuiz$Log;I)V"⟩ : Cond) ∈ zeBT := zeBT_of (k := 496) (by decide +kernel) rfl
theorem zmp_24 : (.selects "WagerQuiz$Replay" ⟨"WagerQuiz$Replay", "replayEntry", "(LWagerQuiz$Log;I)V"⟩ ⟨"WagerQuiz$Replay", "replayEntry", "(LWagerQuiz$Log;I)V"⟩ : Cond) ∈ zeBT := zeBT_p (k := 24) (by decide +kernel) rfl
theorem zm_493 : (.instanceMethod ⟨"WagerQuiz$Replay", "run", "(LWagerQuiz$Log;)V"⟩ : Cond) ∈ zeBT := zeBT_of (k := 493) (by decide +kernel) rfl
theorem zm_492 : (.methodLink "WagerQuiz" 371 ⟨"WagerQuiz$Replay", "run", "(LWagerQuiz$Log;)V"⟩ : Cond) ∈ zeBT := zeBT_of (k := 492) (by decide +kernel) rfl
theorem zm_494 : (.selects "WagerQuiz$Replay" ⟨"WagerQuiz$Replay", "run", "(LWagerQuiz$Log;)V"⟩ ⟨"WagerQuiz$Replay", "run", "(LWagerQuiz$Log;)V"⟩ : Cond) ∈ zeBT := zeBT_of (k := 494) (by decide +kernel) rfl
theorem zm_520 : (.instanceMethod ⟨"WagerQuiz$Replay", "scoreOf", "(I)I"⟩ : Cond) ∈ zeBT := zeBT_of (k := 520) (by decide +kernel) rfl
theorem zm_519 : (.methodLink "WagerQuiz" 353 ⟨"WagerQuiz$Replay", "scoreOf", "(I)I"⟩ : Cond) ∈ zeBT := zeBT_of (k := 519) (by decide +kernel) rfl
theorem zm_521 : (.selects "WagerQuiz$Replay" ⟨"WagerQuiz$Replay", "scoreOf", "(I)I"⟩ ⟨"WagerQuiz$Replay", "scoreOf", "(I)I"⟩ : Cond) ∈ zeBT := zeBT_of (k := 521) (by decide +kernel) rfl
theorem zm_441 : (.instanceMethod ⟨"WagerQuiz", "playerToAnswer", "()I"⟩ : Cond) ∈ zeBT := zeBT_of (k := 441) (by decide +kernel) rfl
theorem zm_439 : (.methodLink "WagerQuiz" 318 ⟨"WagerQuiz", "playerToAnswer", "()I"⟩ : Cond) ∈ zeBT := zeBT_of (k := 439) (by decide +kernel) rfl
theorem zmp_15 : (.selects "WagerQuiz" ⟨"WagerQuiz", "playerToAnswer", "()I"⟩ ⟨"WagerQuiz", "playerToAnswer", "()I"⟩ : Cond) ∈ zeBT := zeBT_p (k := 15) (by decide +kernel) rfl
theorem zm_467 : (.methodLink "WagerQuiz" 321 ⟨"WagerQuiz$Log", "isFull", "()Z"⟩ : Cond) ∈ zeBT := zeBT_of (k := 467) (by decide +kernel) rfl
theorem zm_473 : (.instanceMethod ⟨"WagerQuiz", "answerOpenClue", "(IZ)V"⟩ : Cond) ∈ zeBT := zeBT_of (k := 473) (by decide +kernel) rfl
theorem zm_471 : (.methodLink "WagerQuiz" 324 ⟨"WagerQuiz", "answerOpenClue", "(IZ)V"⟩ : Cond) ∈ zeBT := zeBT_of (k := 471) (by decide +kernel) rfl
theorem zmp_21 : (.selects "WagerQuiz" ⟨"WagerQuiz", "answerOpenClue", "(IZ)V"⟩ ⟨"WagerQuiz", "answerOpenClue", "(IZ)V"⟩ : Cond) ∈ zeBT := zeBT_p (k := 21) (by decide +kernel) rfl
theorem zm_43 : (.fieldLink "WagerQuiz" 328 "WagerQuiz$PickedClue" "wager" "I" : Cond) ∈ zeBT := zeBT_of (k := 43) (by decide +kernel) rfl
theorem zm_482 : (.instanceMethod ⟨"WagerQuiz", "answerFinal", "(IZ)V"⟩ : Cond) ∈ zeBT := zeBT_of (k := 482) (by decide +kernel) rfl
theorem zm_480 : (.methodLink "WagerQuiz" 334 ⟨"WagerQuiz", "answerFinal", "(IZ)V"⟩ : Cond) ∈ zeBT := zeBT_of (k := 480) (by decide +kernel) rfl
theorem zmp_22 : (.selects "WagerQuiz" ⟨"WagerQuiz", "answerFinal", "(IZ)V"⟩ ⟨"WagerQuiz", "answerFinal", "(IZ)V"⟩ : Cond) ∈ zeBT := zeBT_p (k := 22) (by decide +kernel) rfl
theorem zm_490 : (.instanceMethod ⟨"WagerQuiz", "replayedScore", "(I)I"⟩ : Cond) ∈ zeBT := zeBT_of (k := 490) (by decide +kernel) rfl
theorem zm_488 : (.methodLink "WagerQuiz" 337 ⟨"WagerQuiz", "replayedScore", "(I)I"⟩ : Cond) ∈ zeBT := zeBT_of (k := 488) (by decide +kernel) rfl
theorem zmp_23 : (.selects "WagerQuiz" ⟨"WagerQuiz", "replayedScore", "(I)I"⟩ ⟨"WagerQuiz", "replayedScore", "(I)I"⟩ : Cond) ∈ zeBT := zeBT_p (k := 23) (by decide +kernel) rfl
theorem zm_437 : (.instanceMethod ⟨"WagerQuiz", "doAnswer", "(Z)I"⟩ : Cond) ∈ zeBT := zeBT_of (k := 437) (by decide +kernel) rfl
theorem zm_435 : (.methodLink "WagerQuiz" 82 ⟨"WagerQuiz", "doAnswer", "(Z)I"⟩ : Cond) ∈ zeBT := zeBT_of (k := 435) (by decide +kernel) rfl
theorem zmp_14 : (.selects "WagerQuiz" ⟨"WagerQuiz", "doAnswer", "(Z)I"⟩ ⟨"WagerQuiz", "doAnswer", "(Z)I"⟩ : Cond) ∈ zeBT := zeBT_p (k := 14) (by decide +kernel) rfl
theorem zm_1001 : (.instanceMethod ⟨"WagerQuizModel", "nextFinal", "()I"⟩ : Cond) ∈ zeBT := zeBT_of (k := 1001) (by decide +kernel) rfl
theorem zm_999 : (.methodLink "WagerQuizModel" 136 ⟨"WagerQuizModel", "nextFinal", "()I"⟩ : Cond) ∈ zeBT := zeBT_of (k := 999) (by decide +kernel) rfl
theorem zmp_62 : (.selects "WagerQuizModel" ⟨"WagerQuizModel", "nextFinal", "()I"⟩ ⟨"WagerQuizModel", "nextFinal", "()I"⟩ : Cond) ∈ zeBT := zeBT_p (k := 62) (by decide +kernel) rfl
theorem zm_1005 : (.instanceMethod ⟨"WagerQuizModel", "enter", "(IIIII)V"⟩ : Cond) ∈ zeBT := zeBT_of (k := 1005) (by decide +kernel) rfl
theorem zm_1003 : (.methodLink "WagerQuizModel" 139 ⟨"WagerQuizModel", "enter", "(IIIII)V"⟩ : Cond) ∈ zeBT := zeBT_of (k := 1003) (by decide +kernel) rfl
theorem zmp_63 : (.selects "WagerQuizModel" ⟨"WagerQuizModel", "enter", "(IIIII)V"⟩ ⟨"WagerQuizModel", "enter", "(IIIII)V"⟩ : Cond) ∈ zeBT := zeBT_p (k := 63) (by decide +kernel) rfl
theorem zm_993 : (.instanceMethod ⟨"WagerQuizModel", "checkAnswer", "()I"⟩ : Cond) ∈ zeBT := zeBT_of (k := 993) (by decide +kernel) rfl
theorem zm_991 : (.methodLink "WagerQuizModel" 143 ⟨"WagerQuizModel", "checkAnswer", "()I"⟩ : Cond) ∈ zeBT := zeBT_of (k := 991) (by decide +kernel) rfl
theorem zmp_60 : (.selects "WagerQuizModel" ⟨"WagerQuizModel", "checkAnswer", "()I"⟩ ⟨"WagerQuizModel", "checkAnswer", "()I"⟩ : Cond) ∈ zeBT := zeBT_p (k := 60) (by decide +kernel) rfl
theorem zm_997 : (.instanceMethod ⟨"WagerQuizModel", "answers", "(I)I"⟩ : Cond) ∈ zeBT := zeBT_of (k := 997) (by decide +kernel) rfl
theorem zm_995 : (.methodLink "WagerQuizModel" 146 ⟨"WagerQuizModel", "answers", "(I)I"⟩ : Cond) ∈ zeBT := zeBT_of (k := 995) (by decide +kernel) rfl
theorem zmp_61 : (.selects "WagerQuizModel" ⟨"WagerQuizModel", "answers", "(I)I"⟩ ⟨"WagerQuizModel", "answers", "(I)I"⟩ : Cond) ∈ zeBT := zeBT_p (k := 61) (by decide +kernel) rfl
theorem zm_529 : (.instanceMethod ⟨"WagerQuiz", "doClose", "()I"⟩ : Cond) ∈ zeBT := zeBT_of (k := 529) (by decide +kernel) rfl
theorem zm_527 : (.methodLink "WagerQuiz" 86 ⟨"WagerQuiz", "doClose", "()I"⟩ : Cond) ∈ zeBT := zeBT_of (k := 527) (by decide +kernel) rfl
theorem zmp_27 : (.selects "WagerQuiz" ⟨"WagerQuiz", "doClose", "()I"⟩ ⟨"WagerQuiz", "doClose", "()I"⟩ : Cond) ∈ zeBT := zeBT_p (k := 27) (by decide +kernel) rfl
theorem zm_1013 : (.instanceMethod ⟨"WagerQuizModel", "checkClose", "()I"⟩ : Cond) ∈ zeBT := zeBT_of (k := 1013) (by decide +kernel) rfl
theorem zm_1011 : (.methodLink "WagerQuizModel" 149 ⟨"WagerQuizModel", "checkClose", "()I"⟩ : Cond) ∈ zeBT := zeBT_of (k := 1011) (by decide +kernel) rfl
theorem zmp_64 : (.selects "WagerQuizModel" ⟨"WagerQuizModel", "checkClose", "()I"⟩ ⟨"WagerQuizModel", "checkClose", "()I"⟩ : Cond) ∈ zeBT := zeBT_p (k := 64) (by decide +kernel) rfl
theorem zm_1017 : (.instanceMethod ⟨"WagerQuizModel", "closes", "()I"⟩ : Cond) ∈ zeBT := zeBT_of (k := 1017) (by decide +kernel) rfl
theorem zm_1015 : (.methodLink "WagerQuizModel" 152 ⟨"WagerQuizModel", "closes", "()I"⟩ : Cond) ∈ zeBT := zeBT_of (k := 1015) (by decide +kernel) rfl
theorem zmp_65 : (.selects "WagerQuizModel" ⟨"WagerQuizModel", "closes", "()I"⟩ ⟨"WagerQuizModel", "closes", "()I"⟩ : Cond) ∈ zeBT := zeBT_p (k := 65) (by decide +kernel) rfl
theorem zm_539 : (.constant "WagerQuiz" 349 (100000) : Cond) ∈ zeBT := zeBT_of (k := 539) (by decide +kernel) rfl
theorem zm_540 : (.methodLink "WagerQuiz" 114 ⟨"java/lang/Math", "max", "(II)I"⟩ : Cond) ∈ zeBT := zeBT_of (k := 540) (by decide +kernel) rfl
theorem zm_537 : (.instanceMethod ⟨"WagerQuiz", "doWager", "(I)I"⟩ : Cond) ∈ zeBT := zeBT_of (k := 537) (by decide +kernel) rfl
theorem zm_535 : (.methodLink "WagerQuiz" 89 ⟨"WagerQuiz", "doWager", "(I)I"⟩ : Cond) ∈ zeBT := zeBT_of (k := 535) (by decide +kernel) rfl
theorem zmp_28 : (.selects "WagerQuiz" ⟨"WagerQuiz", "doWager", "(I)I"⟩ ⟨"WagerQuiz", "doWager", "(I)I"⟩ : Cond) ∈ zeBT := zeBT_p (k := 28) (by decide +kernel) rfl
theorem zm_1027 : (.constant "WagerQuizModel" 155 (100000) : Cond) ∈ zeBT := zeBT_of (k := 1027) (by decide +kernel) rfl
theorem zm_1030 : (.instanceMethod ⟨"WagerQuizModel", "limit", "()I"⟩ : Cond) ∈ zeBT := zeBT_of (k := 1030) (by decide +kernel) rfl
theorem zm_1028 : (.methodLink "WagerQuizModel" 156 ⟨"WagerQuizModel", "limit", "()I"⟩ : Cond) ∈ zeBT := zeBT_of (k := 1028) (by decide +kernel) rfl
theorem zmp_67 : (.selects "WagerQuizModel" ⟨"WagerQuizModel", "limit", "()I"⟩ ⟨"WagerQuizModel", "limit", "()I"⟩ : Cond) ∈ zeBT := zeBT_p (k := 67) (by decide +kernel) rfl
theorem zm_1025 : (.instanceMethod ⟨"WagerQuizModel", "checkWager", "(I)I"⟩ : Cond) ∈ zeBT := zeBT_of (k := 1025) (by decide +kernel) rfl
theorem zm_1023 : (.methodLink "WagerQuizModel" 159 ⟨"WagerQuizModel", "checkWager", "(I)I"⟩ : Cond) ∈ zeBT := zeBT_of (k := 1023) (by decide +kernel) rfl
theorem zmp_66 : (.selects "WagerQuizModel" ⟨"WagerQuizModel", "checkWager", "(I)I"⟩ ⟨"WagerQuizModel", "checkWager", "(I)I"⟩ : Cond) ∈ zeBT := zeBT_p (k := 66) (by decide +kernel) rfl
theorem zm_1034 : (.instanceMethod ⟨"WagerQuizModel", "tellsWager", "(I)I"⟩ : Cond) ∈ zeBT := zeBT_of (k := 1034) (by decide +kernel) rfl
theorem zm_1032 : (.methodLink "WagerQuizModel" 162 ⟨"WagerQuizModel", "tellsWager", "(I)I"⟩ : Cond) ∈ zeBT := zeBT_of (k := 1032) (by decide +kernel) rfl
theorem zmp_68 : (.selects "WagerQuizModel" ⟨"WagerQuizModel", "tellsWager", "(I)I"⟩ ⟨"WagerQuizModel", "tellsWager", "(I)I"⟩ : Cond) ∈ zeBT := zeBT_p (k := 68) (by decide +kernel) rfl
theorem zm_553 : (.methodLink "WagerQuiz$FinalRound" 19 ⟨"java/lang/Math", "max", "(II)I"⟩ : Cond) ∈ zeBT := zeBT_of (k := 553) (by decide +kernel) rfl
theorem zm_550 : (.instanceMethod ⟨"WagerQuiz$FinalRound", "begin", "([I)V"⟩ : Cond) ∈ zeBT := zeBT_of (k := 550) (by decide +kernel) rfl
theorem zm_549 : (.methodLink "WagerQuiz" 356 ⟨"WagerQuiz$FinalRound", "begin", "([I)V"⟩ : Cond) ∈ zeBT := zeBT_of (k := 549) (by decide +kernel) rfl
theorem zm_551 : (.selects "WagerQuiz$FinalRound" ⟨"WagerQuiz$FinalRound", "begin", "([I)V"⟩ ⟨"WagerQuiz$FinalRound", "begin", "([I)V"⟩ : Cond) ∈ zeBT := zeBT_of (k := 551) (by decide +kernel) rfl
theorem zm_547 : (.instanceMethod ⟨"WagerQuiz", "doBeginFinal", "()I"⟩ : Cond) ∈ zeBT := zeBT_of (k := 547) (by decide +kernel) rfl
theorem zm_545 : (.methodLink "WagerQuiz" 92 ⟨"WagerQuiz", "doBeginFinal", "()I"⟩ : Cond) ∈ zeBT := zeBT_of (k := 545) (by decide +kernel) rfl
theorem zmp_29 : (.selects "WagerQuiz" ⟨"WagerQuiz", "doBeginFinal", "()I"⟩ ⟨"WagerQuiz", "doBeginFinal", "()I"⟩ : Cond) ∈ zeBT := zeBT_p (k := 29) (by decide +kernel) rfl
theorem zm_563 : (.instanceMethod ⟨"WagerQuiz$FinalRound", "isWagerWanting", "(I)Z"⟩ : Cond) ∈ zeBT := zeBT_of (k := 563) (by decide +kernel) rfl
theorem zm_570 : (.methodLink "WagerQuiz$FinalRound" 25 ⟨"WagerQuiz$FinalRound", "isWagerWanting", "(I)Z"⟩ : Cond) ∈ zeBT := zeBT_of (k := 570) (by decide +kernel) rfl
theorem zm_564 : (.selects "WagerQuiz$FinalRound" ⟨"WagerQuiz$FinalRound", "isWagerWanting", "(I)Z"⟩ ⟨"WagerQuiz$FinalRound", "isWagerWanting", "(I)Z"⟩ : Cond) ∈ zeBT := zeBT_of (k := 564) (by decide +kernel) rfl
theorem zm_562 : (.methodLink "WagerQuiz" 359 ⟨"WagerQuiz$FinalRound", "isWagerWanting", "(I)Z"⟩ : Cond) ∈ zeBT := zeBT_of (k := 562) (by decide +kernel) rfl
theorem zm_79 : (.fieldLink "WagerQuiz" 362 "WagerQuiz$FinalRound" "startScores" "[I" : Cond) ∈ zeBT := zeBT_of (k := 79) (by decide +kernel) rfl
theorem zm_567 : (.instanceMethod ⟨"WagerQuiz$FinalRound", "wagersWanting", "()I"⟩ : Cond) ∈ zeBT := zeBT_of (k := 567) (by decide +kernel) rfl
theorem zm_566 : (.methodLink "WagerQuiz" 365 ⟨"WagerQuiz$FinalRound", "wagersWanting", "()I"⟩ : Cond) ∈ zeBT := zeBT_of (k := 566) (by decide +kernel) rfl
theorem zm_568 : (.selects "WagerQuiz$FinalRound" ⟨"WagerQuiz$FinalRound", "wagersWanting", "()I"⟩ ⟨"WagerQuiz$FinalRound", "wagersWanting", "()I"⟩ : Cond) ∈ zeBT := zeBT_of (k := 568) (by decide +kernel) rfl
theorem zm_560 : (.instanceMethod ⟨"WagerQuiz", "doWagerFinal", "(II)I"⟩ : Cond) ∈ zeBT := zeBT_of (k := 560) (by decide +kernel) rfl
theorem zm_558 : (.methodLink "WagerQuiz" 95 ⟨"WagerQuiz", "doWagerFinal", "(II)I"⟩ : Cond) ∈ zeBT := zeBT_of (k := 558) (by decide +kernel) rfl
theorem zmp_30 : (.selects "WagerQuiz" ⟨"WagerQuiz", "doWagerFinal", "(II)I"⟩ ⟨"WagerQuiz", "doWagerFinal", "(II)I"⟩ : Cond) ∈ zeBT := zeBT_p (k := 30) (by decide +kernel) rfl
theorem zm_575 : (.methodLink "WagerQuiz" 111 ⟨"WagerQuiz", "doubled", "(I)I"⟩ : Cond) ∈ zeBT := zeBT_of (k := 575) (by decide +kernel) rfl
theorem zm_576 : (.static ⟨"WagerQuiz", "doubled", "(I)I"⟩ : Cond) ∈ zeBT := zeBT_of (k := 576) (by decide +kernel) rfl
theorem zm_1048 : (.constant "WagerQuizModel" 165 (-1000000000) : Cond) ∈ zeBT := zeBT_of (k := 1048) (by decide +kernel) rfl
theorem zm_584 : (.instanceMethod ⟨"WagerQuiz", "doCorrect", "(II)I"⟩ : Cond) ∈ zeBT := zeBT_of (k := 584) (by decide +kernel) rfl
theorem zm_582 : (.methodLink "WagerQuiz" 119 ⟨"WagerQuiz", "doCorrect", "(II)I"⟩ : Cond) ∈ zeBT := zeBT_of (k := 582) (by decide +kernel) rfl
theorem zmp_31 : (.selects "WagerQuiz" ⟨"WagerQuiz", "doCorrect", "(II)I"⟩ ⟨"WagerQuiz", "doCorrect", "(II)I"⟩ : Cond) ∈ zeBT := zeBT_p (k := 31) (by decide +kernel) rfl
theorem zm_97 : (.fieldLink "WagerQuiz" 168 "WagerQuiz$Log" "size" "I" : Cond) ∈ zeBT := zeBT_of (k := 97) (by decide +kernel) rfl
theorem zm_602 : (.methodLink "WagerQuiz$Replay" 95 ⟨"java/lang/System", "arraycopy", "(Ljava/lang/Object;ILjava/lang/Object;II)V"⟩ : Cond) ∈ zeBT := zeBT_of (k := 602) (by decide +kernel) rfl
theorem zm_596 : (.instanceMethod ⟨"WagerQuiz", "isEntry", "(I)Z"⟩ : Cond) ∈ zeBT := zeBT_of (k := 596) (by decide +kernel) rfl
theorem zm_594 : (.methodLink "WagerQuiz" 235 ⟨"WagerQuiz", "isEntry", "(I)Z"⟩ : Cond) ∈ zeBT := zeBT_of (k := 594) (by decide +kernel) rfl
theorem zmp_33 : (.selects "WagerQuiz" ⟨"WagerQuiz", "isEntry", "(I)Z"⟩ ⟨"WagerQuiz", "isEntry", "(I)Z"⟩ : Cond) ∈ zeBT := zeBT_p (k := 33) (by decide +kernel) rfl
theorem zm_103 : (.fieldLink "WagerQuiz" 240 "WagerQuiz$Log" "sorts" "[I" : Cond) ∈ zeBT := zeBT_of (k := 103) (by decide +kernel) rfl
theorem zm_599 : (.instanceMethod ⟨"WagerQuiz$Replay", "rememberScores", "()V"⟩ : Cond) ∈ zeBT := zeBT_of (k := 599) (by decide +kernel) rfl
theorem zm_598 : (.methodLink "WagerQuiz" 368 ⟨"WagerQuiz$Replay", "rememberScores", "()V"⟩ : Cond) ∈ zeBT := zeBT_of (k := 598) (by decide +kernel) rfl
theorem zm_600 : (.selects "WagerQuiz$Replay" ⟨"WagerQuiz$Replay", "rememberScores", "()V"⟩ ⟨"WagerQuiz$Replay", "rememberScores", "()V"⟩ : Cond) ∈ zeBT := zeBT_of (k := 600) (by decide +kernel) rfl
theorem zm_112 : (.fieldLink "WagerQuiz" 250 "WagerQuiz$Log" "judgements" "[I" : Cond) ∈ zeBT := zeBT_of (k := 112) (by decide +kernel) rfl
theorem zm_604 : (.instanceMethod ⟨"WagerQuiz$Replay", "changedScores", "()I"⟩ : Cond) ∈ zeBT := zeBT_of (k := 604) (by decide +kernel) rfl
theorem zm_603 : (.methodLink "WagerQuiz" 375 ⟨"WagerQuiz$Replay", "changedScores", "()I"⟩ : Cond) ∈ zeBT := zeBT_of (k := 603) (by decide +kernel) rfl
theorem zm_605 : (.selects "WagerQuiz$Replay" ⟨"WagerQuiz$Replay", "changedScores", "()I"⟩ ⟨"WagerQuiz$Replay", "changedScores", "()I"⟩ : Cond) ∈ zeBT := zeBT_of (k := 605) (by decide +kernel) rfl
theorem zm_592 : (.instanceMethod ⟨"WagerQuiz", "doRejudge", "(I)I"⟩ : Cond) ∈ zeBT := zeBT_of (k := 592) (by decide +kernel) rfl
theorem zm_590 : (.methodLink "WagerQuiz" 122 ⟨"WagerQuiz", "doRejudge", "(I)I"⟩ : Cond) ∈ zeBT := zeBT_of (k := 590) (by decide +kernel) rfl
theorem zmp_32 : (.selects "WagerQuiz" ⟨"WagerQuiz", "doRejudge", "(I)I"⟩ ⟨"WagerQuiz", "doRejudge", "(I)I"⟩ : Cond) ∈ zeBT := zeBT_p (k := 32) (by decide +kernel) rfl
theorem zm_1059 : (.instanceMethod ⟨"WagerQuizModel", "noEntry", "(I)Z"⟩ : Cond) ∈ zeBT := zeBT_of (k := 1059) (by decide +kernel) rfl
theorem zm_1057 : (.methodLink "WagerQuizModel" 166 ⟨"WagerQuizModel", "noEntry", "(I)Z"⟩ : Cond) ∈ zeBT := zeBT_of (k := 1057) (by decide +kernel) rfl
theorem zmp_69 : (.selects "WagerQuizModel" ⟨"WagerQuizModel", "noEntry", "(I)Z"⟩ ⟨"WagerQuizModel", "noEntry", "(I)Z"⟩ : Cond) ∈ zeBT := zeBT_p (k := 69) (by decide +kernel) rfl
theorem zm_233 : (.fieldLink "WagerQuiz$Script" 15 "WagerQuiz$Script" "length" "I" : Cond) ∈ zeBT := zeBT_of (k := 233) (by decide +kernel) rfl
theorem zm_612 : (.instanceMethod ⟨"WagerQuiz$Script", "append", "(C)Z"⟩ : Cond) ∈ zeBT := zeBT_of (k := 612) (by decide +kernel) rfl
theorem zm_611 : (.methodLink "WagerQuiz" 125 ⟨"WagerQuiz$Script", "append", "(C)Z"⟩ : Cond) ∈ zeBT := zeBT_of (k := 611) (by decide +kernel) rfl
theorem zm_613 : (.selects "WagerQuiz$Script" ⟨"WagerQuiz$Script", "append", "(C)Z"⟩ ⟨"WagerQuiz$Script", "append", "(C)Z"⟩ : Cond) ∈ zeBT := zeBT_of (k := 613) (by decide +kernel) rfl
theorem zm_234 : (.fieldLink "WagerQuiz" 129 "WagerQuiz$Script" "length" "I" : Cond) ∈ zeBT := zeBT_of (k := 234) (by decide +kernel) rfl
theorem zm_831 : (.fieldLink "WagerQuizModel" 169 "WagerQuizModel" "typed" "I" : Cond) ∈ zeBT := zeBT_of (k := 831) (by decide +kernel) rfl
theorem zm_636 : (.instanceMethod ⟨"WagerQuiz$Script", "signAt", "(I)C"⟩ : Cond) ∈ zeBT := zeBT_of (k := 636) (by decide +kernel) rfl
theorem zm_635 : (.methodLink "WagerQuiz$Script" 19 ⟨"WagerQuiz$Script", "signAt", "(I)C"⟩ : Cond) ∈ zeBT := zeBT_of (k := 635) (by decide +kernel) rfl
theorem zm_637 : (.selects "WagerQuiz$Script" ⟨"WagerQuiz$Script", "signAt", "(I)C"⟩ ⟨"WagerQuiz$Script", "signAt", "(I)C"⟩ : Cond) ∈ zeBT := zeBT_of (k := 637) (by decide +kernel) rfl
theorem zm_632 : (.instanceMethod ⟨"WagerQuiz$Script", "moveLength", "(I)I"⟩ : Cond) ∈ zeBT := zeBT_of (k := 632) (by decide +kernel) rfl
theorem zm_631 : (.methodLink "WagerQuiz$Script" 27 ⟨"WagerQuiz$Script", "moveLength", "(I)I"⟩ : Cond) ∈ zeBT := zeBT_of (k := 631) (by decide +kernel) rfl
theorem zm_633 : (.selects "WagerQuiz$Script" ⟨"WagerQuiz$Script", "moveLength", "(I)I"⟩ ⟨"WagerQuiz$Script", "moveLength", "(I)I"⟩ : Cond) ∈ zeBT := zeBT_of (k := 633) (by decide +kernel) rfl
theorem zm_641 : (.instanceMethod ⟨"WagerQuiz$Script", "greatestDigit", "(II)C"⟩ : Cond) ∈ zeBT := zeBT_of (k := 641) (by decide +kernel) rfl
theorem zm_639 : (.methodLink "WagerQuiz$Script" 31 ⟨"WagerQuiz$Script", "greatestDigit", "(II)C"⟩ : Cond) ∈ zeBT := zeBT_of (k := 639) (by decide +kernel) rfl
theorem zmp_35 : (.selects "WagerQuiz$Script" ⟨"WagerQuiz$Script", "greatestDigit", "(II)C"⟩ ⟨"WagerQuiz$Script", "greatestDigit", "(II)C"⟩ : Cond) ∈ zeBT := zeBT_p (k := 35) (by decide +kernel) rfl
theorem zm_629 : (.instanceMethod ⟨"WagerQuiz$Script", "isAllowed", "(II)Z"⟩ : Cond) ∈ zeBT := zeBT_of (k := 629) (by decide +kernel) rfl
theorem zm_627 : (.methodLink "WagerQuiz$Script" 23 ⟨"WagerQuiz$Script", "isAllowed", "(II)Z"⟩ : Cond) ∈ zeBT := zeBT_of (k := 627) (by decide +kernel) rfl
theorem zmp_34 : (.selects "WagerQuiz$Script" ⟨"WagerQuiz$Script", "isAllowed", "(II)Z"⟩ ⟨"WagerQuiz$Script", "isAllowed", "(II)Z"⟩ : Cond) ∈ zeBT := zeBT_p (k := 34) (by decide +kernel) rfl
theorem zm_647 : (.methodLink "WagerQuiz" 378 ⟨"WagerQuiz$Script", "signAt", "(I)C"⟩ : Cond) ∈ zeBT := zeBT_of (k := 647) (by decide +kernel) rfl
theorem zm_649 : (.instanceMethod ⟨"WagerQuiz$Script", "number", "(II)I"⟩ : Cond) ∈ zeBT := zeBT_of (k := 649) (by decide +kernel) rfl
theorem zm_648 : (.methodLink "WagerQuiz" 382 ⟨"WagerQuiz$Script", "number", "(II)I"⟩ : Cond) ∈ zeBT := zeBT_of (k := 648) (by decide +kernel) rfl
theorem zm_650 : (.selects "WagerQuiz$Script" ⟨"WagerQuiz$Script", "number", "(II)I"⟩ ⟨"WagerQuiz$Script", "number", "(II)I"⟩ : Cond) ∈ zeBT := zeBT_of (k := 650) (by decide +kernel) rfl
theorem zm_624 : (.instanceMethod ⟨"WagerQuiz$Script", "fault", "()I"⟩ : Cond) ∈ zeBT := zeBT_of (k := 624) (by decide +kernel) rfl
theorem zm_623 : (.methodLink "WagerQuiz" 133 ⟨"WagerQuiz$Script", "fault", "()I"⟩ : Cond) ∈ zeBT := zeBT_of (k := 623) (by decide +kernel) rfl
theorem zm_625 : (.selects "WagerQuiz$Script" ⟨"WagerQuiz$Script", "fault", "()I"⟩ ⟨"WagerQuiz$Script", "fault", "()I"⟩ : Cond) ∈ zeBT := zeBT_of (k := 625) (by decide +kernel) rfl
theorem zm_645 : (.instanceMethod ⟨"WagerQuiz", "doMove", "(I)I"⟩ : Cond) ∈ zeBT := zeBT_of (k := 645) (by decide +kernel) rfl
theorem zm_643 : (.methodLink "WagerQuiz" 136 ⟨"WagerQuiz", "doMove", "(I)I"⟩ : Cond) ∈ zeBT := zeBT_of (k := 643) (by decide +kernel) rfl
theorem zmp_36 : (.selects "WagerQuiz" ⟨"WagerQuiz", "doMove", "(I)I"⟩ ⟨"WagerQuiz", "doMove", "(I)I"⟩ : Cond) ∈ zeBT := zeBT_p (k := 36) (by decide +kernel) rfl
theorem zm_652 : (.methodLink "WagerQuiz" 142 ⟨"WagerQuiz$Script", "moveLength", "(I)I"⟩ : Cond) ∈ zeBT := zeBT_of (k := 652) (by decide +kernel) rfl
theorem zm_833 : (.fieldLink "WagerQuizModel" 172 "WagerQuizModel" "moves" "I" : Cond) ∈ zeBT := zeBT_of (k := 833) (by decide +kernel) rfl
theorem zm_1079 : (.instanceMethod ⟨"WagerQuizModel", "digit", "(I)I"⟩ : Cond) ∈ zeBT := zeBT_of (k := 1079) (by decide +kernel) rfl
theorem zm_1077 : (.methodLink "WagerQuizModel" 175 ⟨"WagerQuizModel", "digit", "(I)I"⟩ : Cond) ∈ zeBT := zeBT_of (k := 1077) (by decide +kernel) rfl
theorem zmp_71 : (.selects "WagerQuizModel" ⟨"WagerQuizModel", "digit", "(I)I"⟩ ⟨"WagerQuizModel", "digit", "(I)I"⟩ : Cond) ∈ zeBT := zeBT_p (k := 71) (by decide +kernel) rfl
theorem zm_1075 : (.instanceMethod ⟨"WagerQuizModel", "readAll", "()I"⟩ : Cond) ∈ zeBT := zeBT_of (k := 1075) (by decide +kernel) rfl
theorem zm_1073 : (.methodLink "WagerQuizModel" 178 ⟨"WagerQuizModel", "readAll", "()I"⟩ : Cond) ∈ zeBT := zeBT_of (k := 1073) (by decide +kernel) rfl
theorem zmp_70 : (.selects "WagerQuizModel" ⟨"WagerQuizModel", "readAll", "()I"⟩ ⟨"WagerQuizModel", "readAll", "()I"⟩ : Cond) ∈ zeBT := zeBT_p (k := 70) (by decide +kernel) rfl
theorem zm_1083 : (.instanceMethod ⟨"WagerQuizModel", "check", "(I)I"⟩ : Cond) ∈ zeBT := zeBT_of (k := 1083) (by decide +kernel) rfl
theorem zm_1081 : (.methodLink "WagerQuizModel" 181 ⟨"WagerQuizModel", "check", "(I)I"⟩ : Cond) ∈ zeBT := zeBT_of (k := 1081) (by decide +kernel) rfl
theorem zmp_72 : (.selects "WagerQuizModel" ⟨"WagerQuizModel", "check", "(I)I"⟩ ⟨"WagerQuizModel", "check", "(I)I"⟩ : Cond) ∈ zeBT := zeBT_p (k := 72) (by decide +kernel) rfl
theorem zm_1087 : (.instanceMethod ⟨"WagerQuizModel", "does", "(I)V"⟩ : Cond) ∈ zeBT := zeBT_of (k := 1087) (by decide +kernel) rfl
theorem zm_1085 : (.methodLink "WagerQuizModel" 184 ⟨"WagerQuizModel", "does", "(I)V"⟩ : Cond) ∈ zeBT := zeBT_of (k := 1085) (by decide +kernel) rfl
theorem zmp_73 : (.selects "WagerQuizModel" ⟨"WagerQuizModel", "does", "(I)V"⟩ ⟨"WagerQuizModel", "does", "(I)V"⟩ : Cond) ∈ zeBT := zeBT_p (k := 73) (by decide +kernel) rfl
theorem zm_665 : (.methodLink "WagerQuiz" 161 ⟨"WagerQuiz$State", "copyFrom", "(LWagerQuiz$State;)V"⟩ : Cond) ∈ zeBT := zeBT_of (k := 665) (by decide +kernel) rfl
theorem zm_217 : (.fieldLink "WagerQuiz" 148 "WagerQuiz$History" "size" "I" : Cond) ∈ zeBT := zeBT_of (k := 217) (by decide +kernel) rfl
theorem zm_658 : (.instanceMethod ⟨"WagerQuiz$History", "takeLatest", "()LWagerQuiz$State;"⟩ : Cond) ∈ zeBT := zeBT_of (k := 658) (by decide +kernel) rfl
theorem zm_657 : (.methodLink "WagerQuiz" 151 ⟨"WagerQuiz$History", "takeLatest", "()LWagerQuiz$State;"⟩ : Cond) ∈ zeBT := zeBT_of (k := 657) (by decide +kernel) rfl
theorem zm_659 : (.selects "WagerQuiz$History" ⟨"WagerQuiz$History", "takeLatest", "()LWagerQuiz$State;"⟩ ⟨"WagerQuiz$History", "takeLatest", "()LWagerQuiz$State;"⟩ : Cond) ∈ zeBT := zeBT_of (k := 659) (by decide +kernel) rfl
theorem zm_663 : (.instanceMethod ⟨"WagerQuiz", "load", "(LWagerQuiz$State;)V"⟩ : Cond) ∈ zeBT := zeBT_of (k := 663) (by decide +kernel) rfl
theorem zm_661 : (.methodLink "WagerQuiz" 155 ⟨"WagerQuiz", "load", "(LWagerQuiz$State;)V"⟩ : Cond) ∈ zeBT := zeBT_of (k := 661) (by decide +kernel) rfl
theorem zmp_37 : (.selects "WagerQuiz" ⟨"WagerQuiz", "load", "(LWagerQuiz$State;)V"⟩ ⟨"WagerQuiz", "load", "(LWagerQuiz$State;)V"⟩ : Cond) ∈ zeBT := zeBT_p (k := 37) (by decide +kernel) rfl
theorem zm_670 : (.methodLink "WagerQuiz" 158 ⟨"WagerQuiz", "isSlot", "(I)Z"⟩ : Cond) ∈ zeBT := zeBT_of (k := 670) (by decide +kernel) rfl
theorem zm_671 : (.static ⟨"WagerQuiz", "isSlot", "(I)Z"⟩ : Cond) ∈ zeBT := zeBT_of (k := 671) (by decide +kernel) rfl
theorem zm_690 : (.instanceMethod ⟨"WagerQuiz$Replay", "isAhead", "(II)Z"⟩ : Cond) ∈ zeBT := zeBT_of (k := 690) (by decide +kernel) rfl
theorem zm_689 : (.methodLink "WagerQuiz" 386 ⟨"WagerQuiz$Replay", "isAhead", "(II)Z"⟩ : Cond) ∈ zeBT := zeBT_of (k := 689) (by decide +kernel) rfl
theorem zm_691 : (.selects "WagerQuiz$Replay" ⟨"WagerQuiz$Replay", "isAhead", "(II)Z"⟩ ⟨"WagerQuiz$Replay", "isAhead", "(II)Z"⟩ : Cond) ∈ zeBT := zeBT_of (k := 691) (by decide +kernel) rfl
theorem zm_171 : (.fieldLink "WagerQuiz" 171 "WagerQuiz$Replay" "rights" "[I" : Cond) ∈ zeBT := zeBT_of (k := 171) (by decide +kernel) rfl
theorem zm_173 : (.fieldLink "WagerQuiz" 174 "WagerQuiz$Replay" "wrongs" "[I" : Cond) ∈ zeBT := zeBT_of (k := 173) (by decide +kernel) rfl
theorem zm_683 : (.instanceMethod ⟨"WagerQuiz", "playersAbove", "(I)I"⟩ : Cond) ∈ zeBT := zeBT_of (k := 683) (by decide +kernel) rfl
theorem zm_681 : (.methodLink "WagerQuiz" 177 ⟨"WagerQuiz", "playersAbove", "(I)I"⟩ : Cond) ∈ zeBT := zeBT_of (k := 681) (by decide +kernel) rfl
theorem zmp_38 : (.selects "WagerQuiz" ⟨"WagerQuiz", "playersAbove", "(I)I"⟩ ⟨"WagerQuiz", "playersAbove", "(I)I"⟩ : Cond) ∈ zeBT := zeBT_p (k := 38) (by decide +kernel) rfl
theorem zm_687 : (.instanceMethod ⟨"WagerQuiz", "placeOf", "(I)I"⟩ : Cond) ∈ zeBT := zeBT_of (k := 687) (by decide +kernel) rfl
theorem zm_685 : (.methodLink "WagerQuiz" 180 ⟨"WagerQuiz", "placeOf", "(I)I"⟩ : Cond) ∈ zeBT := zeBT_of (k := 685) (by decide +kernel) rfl
theorem zmp_39 : (.selects "WagerQuiz" ⟨"WagerQuiz", "placeOf", "(I)I"⟩ ⟨"WagerQuiz", "placeOf", "(I)I"⟩ : Cond) ∈ zeBT := zeBT_p (k := 39) (by decide +kernel) rfl
theorem zm_175 : (.fieldLink "WagerQuiz" 204 "WagerQuiz$Replay" "corrections" "[I" : Cond) ∈ zeBT := zeBT_of (k := 175) (by decide +kernel) rfl
theorem zm_1103 : (.instanceMethod ⟨"WagerQuizModel", "isBefore", "(II)Z"⟩ : Cond) ∈ zeBT := zeBT_of (k := 1103) (by decide +kernel) rfl
theorem zm_1101 : (.methodLink "WagerQuizModel" 188 ⟨"WagerQuizModel", "isBefore", "(II)Z"⟩ : Cond) ∈ zeBT := zeBT_of (k := 1101) (by decide +kernel) rfl
theorem zmp_76 : (.selects "WagerQuizModel" ⟨"WagerQuizModel", "isBefore", "(II)Z"⟩ ⟨"WagerQuizModel", "isBefore", "(II)Z"⟩ : Cond) ∈ zeBT := zeBT_p (k := 76) (by decide +kernel) rfl
theorem zm_1095 : (.instanceMethod ⟨"WagerQuizModel", "rank", "(I)I"⟩ : Cond) ∈ zeBT := zeBT_of (k := 1095) (by decide +kernel) rfl
theorem zm_1093 : (.methodLink "WagerQuizModel" 191 ⟨"WagerQuizModel", "rank", "(I)I"⟩ : Cond) ∈ zeBT := zeBT_of (k := 1093) (by decide +kernel) rfl
theorem zmp_74 : (.selects "WagerQuizModel" ⟨"WagerQuizModel", "rank", "(I)I"⟩ ⟨"WagerQuizModel", "rank", "(I)I"⟩ : Cond) ∈ zeBT := zeBT_p (k := 74) (by decide +kernel) rfl
theorem zm_1099 : (.instanceMethod ⟨"WagerQuizModel", "placeOf", "(I)I"⟩ : Cond) ∈ zeBT := zeBT_of (k := 1099) (by decide +kernel) rfl
theorem zm_1097 : (.methodLink "WagerQuizModel" 194 ⟨"WagerQuizModel", "placeOf", "(I)I"⟩ : Cond) ∈ zeBT := zeBT_of (k := 1097) (by decide +kernel) rfl
theorem zmp_75 : (.selects "WagerQuizModel" ⟨"WagerQuizModel", "placeOf", "(I)I"⟩ ⟨"WagerQuizModel", "placeOf", "(I)I"⟩ : Cond) ∈ zeBT := zeBT_p (k := 75) (by decide +kernel) rfl
theorem zm_1105 : (.methodLink "WagerQuizModel" 197 ⟨"WagerQuizModel", "orNone", "(I)I"⟩ : Cond) ∈ zeBT := zeBT_of (k := 1105) (by decide +kernel) rfl
theorem zm_1106 : (.static ⟨"WagerQuizModel", "orNone", "(I)I"⟩ : Cond) ∈ zeBT := zeBT_of (k := 1106) (by decide +kernel) rfl
theorem zm_699 : (.instanceMethod ⟨"WagerQuiz", "playerAtPlace", "(I)I"⟩ : Cond) ∈ zeBT := zeBT_of (k := 699) (by decide +kernel) rfl
theorem zm_697 : (.methodLink "WagerQuiz" 208 ⟨"WagerQuiz", "playerAtPlace", "(I)I"⟩ : Cond) ∈ zeBT := zeBT_of (k := 697) (by decide +kernel) rfl
theorem zmp_40 : (.selects "WagerQuiz" ⟨"WagerQuiz", "playerAtPlace", "(I)I"⟩ ⟨"WagerQuiz", "playerAtPlace", "(I)I"⟩ : Cond) ∈ zeBT := zeBT_p (k := 40) (by decide +kernel) rfl
theorem zm_1114 : (.instanceMethod ⟨"WagerQuizModel", "atPlace", "(I)I"⟩ : Cond) ∈ zeBT := zeBT_of (k := 1114) (by decide +kernel) rfl
theorem zm_1112 : (.methodLink "WagerQuizModel" 200 ⟨"WagerQuizModel", "atPlace", "(I)I"⟩ : Cond) ∈ zeBT := zeBT_of (k := 1112) (by decide +kernel) rfl
theorem zmp_77 : (.selects "WagerQuizModel" ⟨"WagerQuizModel", "atPlace", "(I)I"⟩ ⟨"WagerQuizModel", "atPlace", "(I)I"⟩ : Cond) ∈ zeBT := zeBT_p (k := 77) (by decide +kernel) rfl
theorem zm_710 : (.instanceMethod ⟨"WagerQuiz$Log", "answersTo", "(I)I"⟩ : Cond) ∈ zeBT := zeBT_of (k := 710) (by decide +kernel) rfl
theorem zm_709 : (.methodLink "WagerQuiz" 229 ⟨"WagerQuiz$Log", "answersTo", "(I)I"⟩ : Cond) ∈ zeBT := zeBT_of (k := 709) (by decide +kernel) rfl
theorem zm_711 : (.selects "WagerQuiz$Log" ⟨"WagerQuiz$Log", "answersTo", "(I)I"⟩ ⟨"WagerQuiz$Log", "answersTo", "(I)I"⟩ : Cond) ∈ zeBT := zeBT_of (k := 711) (by decide +kernel) rfl
theorem zm_177 : (.fieldLink "WagerQuiz" 232 "WagerQuiz$Replay" "solvers" "[I" : Cond) ∈ zeBT := zeBT_of (k := 177) (by decide +kernel) rfl
theorem zm_1126 : (.instanceMethod ⟨"WagerQuizModel", "isAnswer", "(II)Z"⟩ : Cond) ∈ zeBT := zeBT_of (k := 1126) (by decide +kernel) rfl
theorem zm_1124 : (.methodLink "WagerQuizModel" 203 ⟨"WagerQuizModel", "isAnswer", "(II)Z"⟩ : Cond) ∈ zeBT := zeBT_of (k := 1124) (by decide +kernel) rfl
theorem zmp_78 : (.selects "WagerQuizModel" ⟨"WagerQuizModel", "isAnswer", "(II)Z"⟩ ⟨"WagerQuizModel", "isAnswer", "(II)Z"⟩ : Cond) ∈ zeBT := zeBT_p (k := 78) (by decide +kernel) rfl
theorem zm_100 : (.fieldLink "WagerQuiz" 238 "WagerQuiz$Log" "players" "[I" : Cond) ∈ zeBT := zeBT_of (k := 100) (by decide +kernel) rfl
theorem zm_106 : (.fieldLink "WagerQuiz" 243 "WagerQuiz$Log" "clues" "[I" : Cond) ∈ zeBT := zeBT_of (k := 106) (by decide +kernel) rfl
theorem zm_109 : (.fieldLink "WagerQuiz" 246 "WagerQuiz$Log" "amounts" "[I" : Cond) ∈ zeBT := zeBT_of (k := 109) (by decide +kernel) rfl
theorem zm_179 : (.fieldLink "WagerQuiz" 249 "WagerQuiz$Replay" "amounts" "[I" : Cond) ∈ zeBT := zeBT_of (k := 179) (by decide +kernel) rfl
theorem zm_181 : (.fieldLink "WagerQuiz" 253 "WagerQuiz$Replay" "scoresBehind" "[I" : Cond) ∈ zeBT := zeBT_of (k := 181) (by decide +kernel) rfl
theorem zm_183 : (.fieldLink "WagerQuiz" 256 "WagerQuiz$Replay" "voids" "[Z" : Cond) ∈ zeBT := zeBT_of (k := 183) (by decide +kernel) rfl
theorem zm_723 : (.instanceMethod ⟨"WagerQuiz", "isClueUnderWay", "()Z"⟩ : Cond) ∈ zeBT := zeBT_of (k := 723) (by decide +kernel) rfl
theorem zm_721 : (.methodLink "WagerQuiz" 264 ⟨"WagerQuiz", "isClueUnderWay", "()Z"⟩ : Cond) ∈ zeBT := zeBT_of (k := 721) (by decide +kernel) rfl
theorem zmp_41 : (.selects "WagerQuiz" ⟨"WagerQuiz", "isClueUnderWay", "()Z"⟩ ⟨"WagerQuiz", "isClueUnderWay", "()Z"⟩ : Cond) ∈ zeBT := zeBT_p (k := 41) (by decide +kernel) rfl
theorem zm_727 : (.instanceMethod ⟨"WagerQuiz", "leaders", "()I"⟩ : Cond) ∈ zeBT := zeBT_of (k := 727) (by decide +kernel) rfl
theorem zm_725 : (.methodLink "WagerQuiz" 274 ⟨"WagerQuiz", "leaders", "()I"⟩ : Cond) ∈ zeBT := zeBT_of (k := 725) (by decide +kernel) rfl
theorem zmp_42 : (.selects "WagerQuiz" ⟨"WagerQuiz", "leaders", "()I"⟩ ⟨"WagerQuiz", "leaders", "()I"⟩ : Cond) ∈ zeBT := zeBT_p (k := 42) (by decide +kernel) rfl
theorem zm_731 : (.instanceMethod ⟨"WagerQuiz", "sumOfScores", "()I"⟩ : Cond) ∈ zeBT := zeBT_of (k := 731) (by decide +kernel) rfl
theorem zm_729 : (.methodLink "WagerQuiz" 277 ⟨"WagerQuiz", "sumOfScores", "()I"⟩ : Cond) ∈ zeBT := zeBT_of (k := 729) (by decide +kernel) rfl
theorem zmp_43 : (.selects "WagerQuiz" ⟨"WagerQuiz", "sumOfScores", "()I"⟩ ⟨"WagerQuiz", "sumOfScores", "()I"⟩ : Cond) ∈ zeBT := zeBT_p (k := 43) (by decide +kernel) rfl
theorem zm_1138 : (.instanceMethod ⟨"WagerQuizModel", "leaders", "()I"⟩ : Cond) ∈ zeBT := zeBT_of (k := 1138) (by decide +kernel) rfl
theorem zm_1136 : (.methodLink "WagerQuizModel" 206 ⟨"WagerQuizModel", "leaders", "()I"⟩ : Cond) ∈ zeBT := zeBT_of (k := 1136) (by decide +kernel) rfl
theorem zmp_79 : (.selects "WagerQuizModel" ⟨"WagerQuizModel", "leaders", "()I"⟩ ⟨"WagerQuizModel", "leaders", "()I"⟩ : Cond) ∈ zeBT := zeBT_p (k := 79) (by decide +kernel) rfl
theorem zm_754 : (.fieldLink "java/lang/String" 38 "java/lang/String" "COMPACT_STRINGS" "Z" : Cond) ∈ zeBT := zeBT_of (k := 754) (by decide +kernel) rfl
theorem zm_1153 : (.fieldLink "java/lang/String" 15 "java/lang/String" "coder" "B" : Cond) ∈ zeBT := zeBT_of (k := 1153) (by decide +kernel) rfl
theorem zm_1152 : (.fieldLink "java/lang/String" 9 "java/lang/String" "value" "[B" : Cond) ∈ zeBT := zeBT_of (k := 1152) (by decide +kernel) rfl
theorem zm_751 : (.instanceMethod ⟨"java/lang/String", "coder", "()B"⟩ : Cond) ∈ zeBT := zeBT_of (k := 751) (by decide +kernel) rfl
theorem zm_750 : (.methodLink "java/lang/String" 335 ⟨"java/lang/String", "coder", "()B"⟩ : Cond) ∈ zeBT := zeBT_of (k := 750) (by decide +kernel) rfl
theorem zm_752 : (.selects "java/lang/String" ⟨"java/lang/String", "coder", "()B"⟩ ⟨"java/lang/String", "coder", "()B"⟩ : Cond) ∈ zeBT := zeBT_of (k := 752) (by decide +kernel) rfl
theorem zm_770 : (.fieldLink "java/lang/String" 1053 "jdk/internal/util/Preconditions" "SIOOBE_FORMATTER" "Ljava/util/function/BiFunction;" : Cond) ∈ zeBT := zeBT_of (k := 770) (by decide +kernel) rfl
theorem zm_772 : (.methodLink "java/lang/String" 1059 ⟨"jdk/internal/util/Preconditions", "checkIndex", "(IILjava/util/function/BiFunction;)I"⟩ : Cond) ∈ zeBT := zeBT_of (k := 772) (by decide +kernel) rfl
theorem zm_773 : (.static ⟨"jdk/internal/util/Preconditions", "checkIndex", "(IILjava/util/function/BiFunction;)I"⟩ : Cond) ∈ zeBT := zeBT_of (k := 773) (by decide +kernel) rfl
theorem zm_767 : (.methodLink "java/lang/StringLatin1" 9 ⟨"java/lang/String", "checkIndex", "(II)V"⟩ : Cond) ∈ zeBT := zeBT_of (k := 767) (by decide +kernel) rfl
theorem zm_768 : (.static ⟨"java/lang/String", "checkIndex", "(II)V"⟩ : Cond) ∈ zeBT := zeBT_of (k := 768) (by decide +kernel) rfl
theorem zm_761 : (.instanceMethod ⟨"java/lang/String", "isLatin1", "()Z"⟩ : Cond) ∈ zeBT := zeBT_of (k := 761) (by decide +kernel) rfl
theorem zm_760 : (.methodLink "java/lang/String" 492 ⟨"java/lang/String", "isLatin1", "()Z"⟩ : Cond) ∈ zeBT := zeBT_of (k := 760) (by decide +kernel) rfl
theorem zm_762 : (.selects "java/lang/String" ⟨"java/lang/String", "isLatin1", "()Z"⟩ ⟨"java/lang/String", "isLatin1", "()Z"⟩ : Cond) ∈ zeBT := zeBT_of (k := 762) (by decide +kernel) rfl
theorem zm_764 : (.methodLink "java/lang/String" 495 ⟨"java/lang/StringLatin1", "charAt", "([BI)C"⟩ : Cond) ∈ zeBT := zeBT_of (k := 764) (by decide +kernel) rfl
theorem zm_765 : (.static ⟨"java/lang/StringLatin1", "charAt", "([BI)C"⟩ : Cond) ∈ zeBT := zeBT_of (k := 765) (by decide +kernel) rfl
theorem zm_248 : (.fieldLink "WagerQuiz$Message" 36 "WagerQuiz$Message" "length" "I" : Cond) ∈ zeBT := zeBT_of (k := 248) (by decide +kernel) rfl
theorem zm_747 : (.instanceMethod ⟨"java/lang/String", "length", "()I"⟩ : Cond) ∈ zeBT := zeBT_of (k := 747) (by decide +kernel) rfl
theorem zm_746 : (.methodLink "WagerQuiz$Message" 15 ⟨"java/lang/String", "length", "()I"⟩ : Cond) ∈ zeBT := zeBT_of (k := 746) (by decide +kernel) rfl
theorem zm_748 : (.selects "java/lang/String" ⟨"java/lang/String", "length", "()I"⟩ ⟨"java/lang/String", "length", "()I"⟩ : Cond) ∈ zeBT := zeBT_of (k := 748) (by decide +kernel) rfl
theorem zm_757 : (.instanceMethod ⟨"java/lang/String", "charAt", "(I)C"⟩ : Cond) ∈ zeBT := zeBT_of (k := 757) (by decide +kernel) rfl
theorem zm_756 : (.methodLink "WagerQuiz$Message" 21 ⟨"java/lang/String", "charAt", "(I)C"⟩ : Cond) ∈ zeBT := zeBT_of (k := 756) (by decide +kernel) rfl
theorem zm_758 : (.selects "java/lang/String" ⟨"java/lang/String", "charAt", "(I)C"⟩ ⟨"java/lang/String", "charAt", "(I)C"⟩ : Cond) ∈ zeBT := zeBT_of (k := 758) (by decide +kernel) rfl
theorem zm_796 : (.instanceMethod ⟨"WagerQuiz$Message", "write", "(C)V"⟩ : Cond) ∈ zeBT := zeBT_of (k := 796) (by decide +kernel) rfl
theorem zm_794 : (.methodLink "WagerQuiz$Message" 25 ⟨"WagerQuiz$Message", "write", "(C)V"⟩ : Cond) ∈ zeBT := zeBT_of (k := 794) (by decide +kernel) rfl
theorem zmp_45 : (.selects "WagerQuiz$Message" ⟨"WagerQuiz$Message", "write", "(C)V"⟩ ⟨"WagerQuiz$Message", "write", "(C)V"⟩ : Cond) ∈ zeBT := zeBT_p (k := 45) (by decide +kernel) rfl
theorem zm_802 : (.methodLink "WagerQuiz$Message" 29 ⟨"java/lang/Math", "abs", "(I)I"⟩ : Cond) ∈ zeBT := zeBT_of (k := 802) (by decide +kernel) rfl
theorem zm_803 : (.static ⟨"java/lang/Math", "abs", "(I)I"⟩ : Cond) ∈ zeBT := zeBT_of (k := 803) (by decide +kernel) rfl
theorem zm_805 : (.constant "WagerQuiz$Message" 35 (10000000) : Cond) ∈ zeBT := zeBT_of (k := 805) (by decide +kernel) rfl
theorem zm_249 : (.fieldLink "WagerQuiz" 289 "WagerQuiz$Message" "length" "I" : Cond) ∈ zeBT := zeBT_of (k := 249) (by decide +kernel) rfl
theorem zm_743 : (.instanceMethod ⟨"WagerQuiz$Message", "writeWords", "(Ljava/lang/String;)V"⟩ : Cond) ∈ zeBT := zeBT_of (k := 743) (by decide +kernel) rfl
theorem zm_742 : (.methodLink "WagerQuiz" 391 ⟨"WagerQuiz$Message", "writeWords", "(Ljava/lang/String;)V"⟩ : Cond) ∈ zeBT := zeBT_of (k := 742) (by decide +kernel) rfl
theorem zm_744 : (.selects "WagerQuiz$Message" ⟨"WagerQuiz$Message", "writeWords", "(Ljava/lang/String;)V"⟩ ⟨"WagerQuiz$Message", "writeWords", "(Ljava/lang/String;)V"⟩ : Cond) ∈ zeBT := zeBT_of (k := 744) (by decide +kernel) rfl
theorem zm_799 : (.instanceMethod ⟨"WagerQuiz$Message", "writeNumber", "(I)V"⟩ : Cond) ∈ zeBT := zeBT_of (k := 799) (by decide +kernel) rfl
theorem zm_798 : (.methodLink "WagerQuiz" 395 ⟨"WagerQuiz$Message", "writeNumber", "(I)V"⟩ : Cond) ∈ zeBT := zeBT_of (k := 798) (by decide +kernel) rfl
theorem zm_800 : (.selects "WagerQuiz$Message" ⟨"WagerQuiz$Message", "writeNumber", "(I)V"⟩ ⟨"WagerQuiz$Message", "writeNumber", "(I)V"⟩ : Cond) ∈ zeBT := zeBT_of (k := 800) (by decide +kernel) rfl
theorem zm_739 : (.instanceMethod ⟨"WagerQuiz", "writeMessage", "()V"⟩ : Cond) ∈ zeBT := zeBT_of (k := 739) (by decide +kernel) rfl
theorem zm_737 : (.methodLink "WagerQuiz" 286 ⟨"WagerQuiz", "writeMessage", "()V"⟩ : Cond) ∈ zeBT := zeBT_of (k := 737) (by decide +kernel) rfl
theorem zmp_44 : (.selects "WagerQuiz" ⟨"WagerQuiz", "writeMessage", "()V"⟩ ⟨"WagerQuiz", "writeMessage", "()V"⟩ : Cond) ∈ zeBT := zeBT_p (k := 44) (by decide +kernel) rfl
theorem zm_251 : (.fieldLink "WagerQuiz" 290 "WagerQuiz$Message" "signs" "[C" : Cond) ∈ zeBT := zeBT_of (k := 251) (by decide +kernel) rfl
theorem zm_835 : (.fieldLink "WagerQuizModel" 209 "WagerQuizModel" "written" "I" : Cond) ∈ zeBT := zeBT_of (k := 835) (by decide +kernel) rfl
theorem zm_1146 : (.instanceMethod ⟨"WagerQuizModel", "write", "(I)V"⟩ : Cond) ∈ zeBT := zeBT_of (k := 1146) (by decide +kernel) rfl
theorem zm_1144 : (.methodLink "WagerQuizModel" 212 ⟨"WagerQuizModel", "write", "(I)V"⟩ : Cond) ∈ zeBT := zeBT_of (k := 1144) (by decide +kernel) rfl
theorem zmp_80 : (.selects "WagerQuizModel" ⟨"WagerQuizModel", "write", "(I)V"⟩ ⟨"WagerQuizModel", "write", "(I)V"⟩ : Cond) ∈ zeBT := zeBT_p (k := 80) (by decide +kernel) rfl
theorem zm_1150 : (.instanceMethod ⟨"WagerQuizModel", "writeNumber", "(I)V"⟩ : Cond) ∈ zeBT := zeBT_of (k := 1150) (by decide +kernel) rfl
theorem zm_1148 : (.methodLink "WagerQuizModel" 215 ⟨"WagerQuizModel", "writeNumber", "(I)V"⟩ : Cond) ∈ zeBT := zeBT_of (k := 1148) (by decide +kernel) rfl
theorem zmp_81 : (.selects "WagerQuizModel" ⟨"WagerQuizModel", "writeNumber", "(I)V"⟩ ⟨"WagerQuizModel", "writeNumber", "(I)V"⟩ : Cond) ∈ zeBT := zeBT_p (k := 81) (by decide +kernel) rfl
theorem zm_18 : (.classLink "WagerQuizLaw" 7 "WagerQuiz" : Cond) ∈ zeBT := zeBT_of (k := 18) (by decide +kernel) rfl
theorem zm_19 : (.instantiable "WagerQuiz" 8 : Cond) ∈ zeBT := zeBT_of (k := 19) (by decide +kernel) rfl
theorem zm_1 : (.initialized "WagerQuiz" : Cond) ∈ zeBT := zeBT_of (k := 1) (by decide +kernel) rfl
theorem zm_21 : (.instanceMethod ⟨"WagerQuiz", "<init>", "()V"⟩ : Cond) ∈ zeBT := zeBT_of (k := 21) (by decide +kernel) rfl
theorem zm_20 : (.methodLink "WagerQuizLaw" 9 ⟨"WagerQuiz", "<init>", "()V"⟩ : Cond) ∈ zeBT := zeBT_of (k := 20) (by decide +kernel) rfl
theorem zm_809 : (.classLink "WagerQuizLaw" 10 "WagerQuizModel" : Cond) ∈ zeBT := zeBT_of (k := 809) (by decide +kernel) rfl
theorem zm_810 : (.instantiable "WagerQuizModel" 22 : Cond) ∈ zeBT := zeBT_of (k := 810) (by decide +kernel) rfl
theorem zm_10 : (.initialized "WagerQuizModel" : Cond) ∈ zeBT := zeBT_of (k := 10) (by decide +kernel) rfl
theorem zm_812 : (.instanceMethod ⟨"WagerQuizModel", "<init>", "()V"⟩ : Cond) ∈ zeBT := zeBT_of (k := 812) (by decide +kernel) rfl
theorem zm_811 : (.methodLink "WagerQuizLaw" 12 ⟨"WagerQuizModel", "<init>", "()V"⟩ : Cond) ∈ zeBT := zeBT_of (k := 811) (by decide +kernel) rfl
theorem zm_283 : (.instanceMethod ⟨"WagerQuiz", "addPlayer", "()I"⟩ : Cond) ∈ zeBT := zeBT_of (k := 283) (by decide +kernel) rfl
theorem zm_282 : (.methodLink "WagerQuizLaw" 13 ⟨"WagerQuiz", "addPlayer", "()I"⟩ : Cond) ∈ zeBT := zeBT_of (k := 282) (by decide +kernel) rfl
theorem zm_284 : (.selects "WagerQuiz" ⟨"WagerQuiz", "addPlayer", "()I"⟩ ⟨"WagerQuiz", "addPlayer", "()I"⟩ : Cond) ∈ zeBT := zeBT_of (k := 284) (by decide +kernel) rfl
theorem zm_904 : (.instanceMethod ⟨"WagerQuizModel", "addPlayer", "()I"⟩ : Cond) ∈ zeBT := zeBT_of (k := 904) (by decide +kernel) rfl
theorem zm_903 : (.methodLink "WagerQuizLaw" 17 ⟨"WagerQuizModel", "addPlayer", "()I"⟩ : Cond) ∈ zeBT := zeBT_of (k := 903) (by decide +kernel) rfl
theorem zm_905 : (.selects "WagerQuizModel" ⟨"WagerQuizModel", "addPlayer", "()I"⟩ ⟨"WagerQuizModel", "addPlayer", "()I"⟩ : Cond) ∈ zeBT := zeBT_of (k := 905) (by decide +kernel) rfl
theorem zm_343 : (.instanceMethod ⟨"WagerQuiz", "setWagerClue", "(IZ)I"⟩ : Cond) ∈ zeBT := zeBT_of (k := 343) (by decide +kernel) rfl
theorem zm_342 : (.methodLink "WagerQuizLaw" 18 ⟨"WagerQuiz", "setWagerClue", "(IZ)I"⟩ : Cond) ∈ zeBT := zeBT_of (k := 342) (by decide +kernel) rfl
theorem zm_344 : (.selects "WagerQuiz" ⟨"WagerQuiz", "setWagerClue", "(IZ)I"⟩ ⟨"WagerQuiz", "setWagerClue", "(IZ)I"⟩ : Cond) ∈ zeBT := zeBT_of (k := 344) (by decide +kernel) rfl
theorem zm_918 : (.instanceMethod ⟨"WagerQuizModel", "setWagerClue", "(IZ)I"⟩ : Cond) ∈ zeBT := zeBT_of (k := 918) (by decide +kernel) rfl
theorem zm_917 : (.methodLink "WagerQuizLaw" 22 ⟨"WagerQuizModel", "setWagerClue", "(IZ)I"⟩ : Cond) ∈ zeBT := zeBT_of (k := 917) (by decide +kernel) rfl
theorem zm_919 : (.selects "WagerQuizModel" ⟨"WagerQuizModel", "setWagerClue", "(IZ)I"⟩ ⟨"WagerQuizModel", "setWagerClue", "(IZ)I"⟩ : Cond) ∈ zeBT := zeBT_of (k := 919) (by decide +kernel) rfl
theorem zm_363 : (.instanceMethod ⟨"WagerQuiz", "set", "(II)I"⟩ : Cond) ∈ zeBT := zeBT_of (k := 363) (by decide +kernel) rfl
theorem zm_362 : (.methodLink "WagerQuizLaw" 23 ⟨"WagerQuiz", "set", "(II)I"⟩ : Cond) ∈ zeBT := zeBT_of (k := 362) (by decide +kernel) rfl
theorem zm_364 : (.selects "WagerQuiz" ⟨"WagerQuiz", "set", "(II)I"⟩ ⟨"WagerQuiz", "set", "(II)I"⟩ : Cond) ∈ zeBT := zeBT_of (k := 364) (by decide +kernel) rfl
theorem zm_925 : (.instanceMethod ⟨"WagerQuizModel", "set", "(II)I"⟩ : Cond) ∈ zeBT := zeBT_of (k := 925) (by decide +kernel) rfl
theorem zm_924 : (.methodLink "WagerQuizLaw" 27 ⟨"WagerQuizModel", "set", "(II)I"⟩ : Cond) ∈ zeBT := zeBT_of (k := 924) (by decide +kernel) rfl
theorem zm_926 : (.selects "WagerQuizModel" ⟨"WagerQuizModel", "set", "(II)I"⟩ ⟨"WagerQuizModel", "set", "(II)I"⟩ : Cond) ∈ zeBT := zeBT_of (k := 926) (by decide +kernel) rfl
theorem zm_372 : (.instanceMethod ⟨"WagerQuiz", "pick", "(II)I"⟩ : Cond) ∈ zeBT := zeBT_of (k := 372) (by decide +kernel) rfl
theorem zm_371 : (.methodLink "WagerQuizLaw" 28 ⟨"WagerQuiz", "pick", "(II)I"⟩ : Cond) ∈ zeBT := zeBT_of (k := 371) (by decide +kernel) rfl
theorem zm_373 : (.selects "WagerQuiz" ⟨"WagerQuiz", "pick", "(II)I"⟩ ⟨"WagerQuiz", "pick", "(II)I"⟩ : Cond) ∈ zeBT := zeBT_of (k := 373) (by decide +kernel) rfl
theorem zm_930 : (.instanceMethod ⟨"WagerQuizModel", "pick", "(II)I"⟩ : Cond) ∈ zeBT := zeBT_of (k := 930) (by decide +kernel) rfl
theorem zm_929 : (.methodLink "WagerQuizLaw" 31 ⟨"WagerQuizModel", "pick", "(II)I"⟩ : Cond) ∈ zeBT := zeBT_of (k := 929) (by decide +kernel) rfl
theorem zm_931 : (.selects "WagerQuizModel" ⟨"WagerQuizModel", "pick", "(II)I"⟩ ⟨"WagerQuizModel", "pick", "(II)I"⟩ : Cond) ∈ zeBT := zeBT_of (k := 931) (by decide +kernel) rfl
theorem zm_396 : (.instanceMethod ⟨"WagerQuiz", "buzz", "(II)I"⟩ : Cond) ∈ zeBT := zeBT_of (k := 396) (by decide +kernel) rfl
theorem zm_395 : (.methodLink "WagerQuizLaw" 32 ⟨"WagerQuiz", "buzz", "(II)I"⟩ : Cond) ∈ zeBT := zeBT_of (k := 395) (by decide +kernel) rfl
theorem zm_397 : (.selects "WagerQuiz" ⟨"WagerQuiz", "buzz", "(II)I"⟩ ⟨"WagerQuiz", "buzz", "(II)I"⟩ : Cond) ∈ zeBT := zeBT_of (k := 397) (by decide +kernel) rfl
theorem zm_960 : (.instanceMethod ⟨"WagerQuizModel", "buzz", "(II)I"⟩ : Cond) ∈ zeBT := zeBT_of (k := 960) (by decide +kernel) rfl
theorem zm_959 : (.methodLink "WagerQuizLaw" 35 ⟨"WagerQuizModel", "buzz", "(II)I"⟩ : Cond) ∈ zeBT := zeBT_of (k := 959) (by decide +kernel) rfl
theorem zm_961 : (.selects "WagerQuizModel" ⟨"WagerQuizModel", "buzz", "(II)I"⟩ ⟨"WagerQuizModel", "buzz", "(II)I"⟩ : Cond) ∈ zeBT := zeBT_of (k := 961) (by decide +kernel) rfl
theorem zm_432 : (.instanceMethod ⟨"WagerQuiz", "answer", "(Z)I"⟩ : Cond) ∈ zeBT := zeBT_of (k := 432) (by decide +kernel) rfl
theorem zm_431 : (.methodLink "WagerQuizLaw" 36 ⟨"WagerQuiz", "answer", "(Z)I"⟩ : Cond) ∈ zeBT := zeBT_of (k := 431) (by decide +kernel) rfl
theorem zm_433 : (.selects "WagerQuiz" ⟨"WagerQuiz", "answer", "(Z)I"⟩ ⟨"WagerQuiz", "answer", "(Z)I"⟩ : Cond) ∈ zeBT := zeBT_of (k := 433) (by decide +kernel) rfl
theorem zm_988 : (.instanceMethod ⟨"WagerQuizModel", "answer", "(Z)I"⟩ : Cond) ∈ zeBT := zeBT_of (k := 988) (by decide +kernel) rfl
theorem zm_987 : (.methodLink "WagerQuizLaw" 40 ⟨"WagerQuizModel", "answer", "(Z)I"⟩ : Cond) ∈ zeBT := zeBT_of (k := 987) (by decide +kernel) rfl
theorem zm_989 : (.selects "WagerQuizModel" ⟨"WagerQuizModel", "answer", "(Z)I"⟩ ⟨"WagerQuizModel", "answer", "(Z)I"⟩ : Cond) ∈ zeBT := zeBT_of (k := 989) (by decide +kernel) rfl
theorem zm_524 : (.instanceMethod ⟨"WagerQuiz", "close", "()I"⟩ : Cond) ∈ zeBT := zeBT_of (k := 524) (by decide +kernel) rfl
theorem zm_523 : (.methodLink "WagerQuizLaw" 41 ⟨"WagerQuiz", "close", "()I"⟩ : Cond) ∈ zeBT := zeBT_of (k := 523) (by decide +kernel) rfl
theorem zm_525 : (.selects "WagerQuiz" ⟨"WagerQuiz", "close", "()I"⟩ ⟨"WagerQuiz", "close", "()I"⟩ : Cond) ∈ zeBT := zeBT_of (k := 525) (by decide +kernel) rfl
theorem zm_1008 : (.instanceMethod ⟨"WagerQuizModel", "close", "()I"⟩ : Cond) ∈ zeBT := zeBT_of (k := 1008) (by decide +kernel) rfl
theorem zm_1007 : (.methodLink "WagerQuizLaw" 44 ⟨"WagerQuizModel", "close", "()I"⟩ : Cond) ∈ zeBT := zeBT_of (k := 1007) (by decide +kernel) rfl
theorem zm_1009 : (.selects "WagerQuizModel" ⟨"WagerQuizModel", "close", "()I"⟩ ⟨"WagerQuizModel", "close", "()I"⟩ : Cond) ∈ zeBT := zeBT_of (k := 1009) (by decide +kernel) rfl
theorem zm_532 : (.instanceMethod ⟨"WagerQuiz", "wager", "(I)I"⟩ : Cond) ∈ zeBT := zeBT_of (k := 532) (by decide +kernel) rfl
theorem zm_531 : (.methodLink "WagerQuizLaw" 45 ⟨"WagerQuiz", "wager", "(I)I"⟩ : Cond) ∈ zeBT := zeBT_of (k := 531) (by decide +kernel) rfl
theorem zm_533 : (.selects "WagerQuiz" ⟨"WagerQuiz", "wager", "(I)I"⟩ ⟨"WagerQuiz", "wager", "(I)I"⟩ : Cond) ∈ zeBT := zeBT_of (k := 533) (by decide +kernel) rfl
theorem zm_1020 : (.instanceMethod ⟨"WagerQuizModel", "wager", "(I)I"⟩ : Cond) ∈ zeBT := zeBT_of (k := 1020) (by decide +kernel) rfl
theorem zm_1019 : (.methodLink "WagerQuizLaw" 49 ⟨"WagerQuizModel", "wager", "(I)I"⟩ : Cond) ∈ zeBT := zeBT_of (k := 1019) (by decide +kernel) rfl
theorem zm_1021 : (.selects "WagerQuizModel" ⟨"WagerQuizModel", "wager", "(I)I"⟩ ⟨"WagerQuizModel", "wager", "(I)I"⟩ : Cond) ∈ zeBT := zeBT_of (k := 1021) (by decide +kernel) rfl
theorem zm_542 : (.instanceMethod ⟨"WagerQuiz", "beginFinal", "()I"⟩ : Cond) ∈ zeBT := zeBT_of (k := 542) (by decide +kernel) rfl
theorem zm_541 : (.methodLink "WagerQuizLaw" 50 ⟨"WagerQuiz", "beginFinal", "()I"⟩ : Cond) ∈ zeBT := zeBT_of (k := 541) (by decide +kernel) rfl
theorem zm_543 : (.selects "WagerQuiz" ⟨"WagerQuiz", "beginFinal", "()I"⟩ ⟨"WagerQuiz", "beginFinal", "()I"⟩ : Cond) ∈ zeBT := zeBT_of (k := 543) (by decide +kernel) rfl
theorem zm_1037 : (.instanceMethod ⟨"WagerQuizModel", "beginFinal", "()I"⟩ : Cond) ∈ zeBT := zeBT_of (k := 1037) (by decide +kernel) rfl
theorem zm_1036 : (.methodLink "WagerQuizLaw" 53 ⟨"WagerQuizModel", "beginFinal", "()I"⟩ : Cond) ∈ zeBT := zeBT_of (k := 1036) (by decide +kernel) rfl
theorem zm_1038 : (.selects "WagerQuizModel" ⟨"WagerQuizModel", "beginFinal", "()I"⟩ ⟨"WagerQuizModel", "beginFinal", "()I"⟩ : Cond) ∈ zeBT := zeBT_of (k := 1038) (by decide +kernel) rfl
theorem zm_555 : (.instanceMethod ⟨"WagerQuiz", "wagerFinal", "(II)I"⟩ : Cond) ∈ zeBT := zeBT_of (k := 555) (by decide +kernel) rfl
theorem zm_554 : (.methodLink "WagerQuizLaw" 54 ⟨"WagerQuiz", "wagerFinal", "(II)I"⟩ : Cond) ∈ zeBT := zeBT_of (k := 554) (by decide +kernel) rfl
theorem zm_556 : (.selects "WagerQuiz" ⟨"WagerQuiz", "wagerFinal", "(II)I"⟩ ⟨"WagerQuiz", "wagerFinal", "(II)I"⟩ : Cond) ∈ zeBT := zeBT_of (k := 556) (by decide +kernel) rfl
theorem zm_1041 : (.instanceMethod ⟨"WagerQuizModel", "wagerFinal", "(II)I"⟩ : Cond) ∈ zeBT := zeBT_of (k := 1041) (by decide +kernel) rfl
theorem zm_1040 : (.methodLink "WagerQuizLaw" 57 ⟨"WagerQuizModel", "wagerFinal", "(II)I"⟩ : Cond) ∈ zeBT := zeBT_of (k := 1040) (by decide +kernel) rfl
theorem zm_1042 : (.selects "WagerQuizModel" ⟨"WagerQuizModel", "wagerFinal", "(II)I"⟩ ⟨"WagerQuizModel", "wagerFinal", "(II)I"⟩ : Cond) ∈ zeBT := zeBT_of (k := 1042) (by decide +kernel) rfl
theorem zm_572 : (.instanceMethod ⟨"WagerQuiz", "safeWager", "(I)I"⟩ : Cond) ∈ zeBT := zeBT_of (k := 572) (by decide +kernel) rfl
theorem zm_571 : (.methodLink "WagerQuizLaw" 58 ⟨"WagerQuiz", "safeWager", "(I)I"⟩ : Cond) ∈ zeBT := zeBT_of (k := 571) (by decide +kernel) rfl
theorem zm_573 : (.selects "WagerQuiz" ⟨"WagerQuiz", "safeWager", "(I)I"⟩ ⟨"WagerQuiz", "safeWager", "(I)I"⟩ : Cond) ∈ zeBT := zeBT_of (k := 573) (by decide +kernel) rfl
theorem zm_1045 : (.instanceMethod ⟨"WagerQuizModel", "safeWager", "(I)I"⟩ : Cond) ∈ zeBT := zeBT_of (k := 1045) (by decide +kernel) rfl
theorem zm_1044 : (.methodLink "WagerQuizLaw" 61 ⟨"WagerQuizModel", "safeWager", "(I)I"⟩ : Cond) ∈ zeBT := zeBT_of (k := 1044) (by decide +kernel) rfl
theorem zm_1046 : (.selects "WagerQuizModel" ⟨"WagerQuizModel", "safeWager", "(I)I"⟩ ⟨"WagerQuizModel", "safeWager", "(I)I"⟩ : Cond) ∈ zeBT := zeBT_of (k := 1046) (by decide +kernel) rfl
theorem zm_579 : (.instanceMethod ⟨"WagerQuiz", "correct", "(II)I"⟩ : Cond) ∈ zeBT := zeBT_of (k := 579) (by decide +kernel) rfl
theorem zm_578 : (.methodLink "WagerQuizLaw" 62 ⟨"WagerQuiz", "correct", "(II)I"⟩ : Cond) ∈ zeBT := zeBT_of (k := 578) (by decide +kernel) rfl
theorem zm_580 : (.selects "WagerQuiz" ⟨"WagerQuiz", "correct", "(II)I"⟩ ⟨"WagerQuiz", "correct", "(II)I"⟩ : Cond) ∈ zeBT := zeBT_of (k := 580) (by decide +kernel) rfl
theorem zm_1050 : (.instanceMethod ⟨"WagerQuizModel", "correct", "(II)I"⟩ : Cond) ∈ zeBT := zeBT_of (k := 1050) (by decide +kernel) rfl
theorem zm_1049 : (.methodLink "WagerQuizLaw" 65 ⟨"WagerQuizModel", "correct", "(II)I"⟩ : Cond) ∈ zeBT := zeBT_of (k := 1049) (by decide +kernel) rfl
theorem zm_1051 : (.selects "WagerQuizModel" ⟨"WagerQuizModel", "correct", "(II)I"⟩ ⟨"WagerQuizModel", "correct", "(II)I"⟩ : Cond) ∈ zeBT := zeBT_of (k := 1051) (by decide +kernel) rfl
theorem zm_587 : (.instanceMethod ⟨"WagerQuiz", "rejudge", "(I)I"⟩ : Cond) ∈ zeBT := zeBT_of (k := 587) (by decide +kernel) rfl
theorem zm_586 : (.methodLink "WagerQuizLaw" 66 ⟨"WagerQuiz", "rejudge", "(I)I"⟩ : Cond) ∈ zeBT := zeBT_of (k := 586) (by decide +kernel) rfl
theorem zm_588 : (.selects "WagerQuiz" ⟨"WagerQuiz", "rejudge", "(I)I"⟩ ⟨"WagerQuiz", "rejudge", "(I)I"⟩ : Cond) ∈ zeBT := zeBT_of (k := 588) (by decide +kernel) rfl
theorem zm_1054 : (.instanceMethod ⟨"WagerQuizModel", "rejudge", "(I)I"⟩ : Cond) ∈ zeBT := zeBT_of (k := 1054) (by decide +kernel) rfl
theorem zm_1053 : (.methodLink "WagerQuizLaw" 69 ⟨"WagerQuizModel", "rejudge", "(I)I"⟩ : Cond) ∈ zeBT := zeBT_of (k := 1053) (by decide +kernel) rfl
theorem zm_1055 : (.selects "WagerQuizModel" ⟨"WagerQuizModel", "rejudge", "(I)I"⟩ ⟨"WagerQuizModel", "rejudge", "(I)I"⟩ : Cond) ∈ zeBT := zeBT_of (k := 1055) (by decide +kernel) rfl
theorem zm_608 : (.instanceMethod ⟨"WagerQuiz", "type", "(C)I"⟩ : Cond) ∈ zeBT := zeBT_of (k := 608) (by decide +kernel) rfl
theorem zm_607 : (.methodLink "WagerQuizLaw" 70 ⟨"WagerQuiz", "type", "(C)I"⟩ : Cond) ∈ zeBT := zeBT_of (k := 607) (by decide +kernel) rfl
theorem zm_609 : (.selects "WagerQuiz" ⟨"WagerQuiz", "type", "(C)I"⟩ ⟨"WagerQuiz", "type", "(C)I"⟩ : Cond) ∈ zeBT := zeBT_of (k := 609) (by decide +kernel) rfl
theorem zm_1062 : (.instanceMethod ⟨"WagerQuizModel", "type", "(C)I"⟩ : Cond) ∈ zeBT := zeBT_of (k := 1062) (by decide +kernel) rfl
theorem zm_1061 : (.methodLink "WagerQuizLaw" 74 ⟨"WagerQuizModel", "type", "(C)I"⟩ : Cond) ∈ zeBT := zeBT_of (k := 1061) (by decide +kernel) rfl
theorem zm_1063 : (.selects "WagerQuizModel" ⟨"WagerQuizModel", "type", "(C)I"⟩ ⟨"WagerQuizModel", "type", "(C)I"⟩ : Cond) ∈ zeBT := zeBT_of (k := 1063) (by decide +kernel) rfl
theorem zm_616 : (.instanceMethod ⟨"WagerQuiz", "clearText", "()I"⟩ : Cond) ∈ zeBT := zeBT_of (k := 616) (by decide +kernel) rfl
theorem zm_615 : (.methodLink "WagerQuizLaw" 75 ⟨"WagerQuiz", "clearText", "()I"⟩ : Cond) ∈ zeBT := zeBT_of (k := 615) (by decide +kernel) rfl
theorem zm_617 : (.selects "WagerQuiz" ⟨"WagerQuiz", "clearText", "()I"⟩ ⟨"WagerQuiz", "clearText", "()I"⟩ : Cond) ∈ zeBT := zeBT_of (k := 617) (by decide +kernel) rfl
theorem zm_1066 : (.instanceMethod ⟨"WagerQuizModel", "clearText", "()I"⟩ : Cond) ∈ zeBT := zeBT_of (k := 1066) (by decide +kernel) rfl
theorem zm_1065 : (.methodLink "WagerQuizLaw" 78 ⟨"WagerQuizModel", "clearText", "()I"⟩ : Cond) ∈ zeBT := zeBT_of (k := 1065) (by decide +kernel) rfl
theorem zm_1067 : (.selects "WagerQuizModel" ⟨"WagerQuizModel", "clearText", "()I"⟩ ⟨"WagerQuizModel", "clearText", "()I"⟩ : Cond) ∈ zeBT := zeBT_of (k := 1067) (by decide +kernel) rfl
theorem zm_620 : (.instanceMethod ⟨"WagerQuiz", "runScript", "()I"⟩ : Cond) ∈ zeBT := zeBT_of (k := 620) (by decide +kernel) rfl
theorem zm_619 : (.methodLink "WagerQuizLaw" 79 ⟨"WagerQuiz", "runScript", "()I"⟩ : Cond) ∈ zeBT := zeBT_of (k := 619) (by decide +kernel) rfl
theorem zm_621 : (.selects "WagerQuiz" ⟨"WagerQuiz", "runScript", "()I"⟩ ⟨"WagerQuiz", "runScript", "()I"⟩ : Cond) ∈ zeBT := zeBT_of (k := 621) (by decide +kernel) rfl
theorem zm_1070 : (.instanceMethod ⟨"WagerQuizModel", "runScript", "()I"⟩ : Cond) ∈ zeBT := zeBT_of (k := 1070) (by decide +kernel) rfl
theorem zm_1069 : (.methodLink "WagerQuizLaw" 82 ⟨"WagerQuizModel", "runScript", "()I"⟩ : Cond) ∈ zeBT := zeBT_of (k := 1069) (by decide +kernel) rfl
theorem zm_1071 : (.selects "WagerQuizModel" ⟨"WagerQuizModel", "runScript", "()I"⟩ ⟨"WagerQuizModel", "runScript", "()I"⟩ : Cond) ∈ zeBT := zeBT_of (k := 1071) (by decide +kernel) rfl
theorem zm_654 : (.instanceMethod ⟨"WagerQuiz", "undo", "()I"⟩ : Cond) ∈ zeBT := zeBT_of (k := 654) (by decide +kernel) rfl
theorem zm_653 : (.methodLink "WagerQuizLaw" 83 ⟨"WagerQuiz", "undo", "()I"⟩ : Cond) ∈ zeBT := zeBT_of (k := 653) (by decide +kernel) rfl
theorem zm_655 : (.selects "WagerQuiz" ⟨"WagerQuiz", "undo", "()I"⟩ ⟨"WagerQuiz", "undo", "()I"⟩ : Cond) ∈ zeBT := zeBT_of (k := 655) (by decide +kernel) rfl
theorem zm_883 : (.instanceMethod ⟨"WagerQuizModel", "undo", "()I"⟩ : Cond) ∈ zeBT := zeBT_of (k := 883) (by decide +kernel) rfl
theorem zm_882 : (.methodLink "WagerQuizLaw" 86 ⟨"WagerQuizModel", "undo", "()I"⟩ : Cond) ∈ zeBT := zeBT_of (k := 882) (by decide +kernel) rfl
theorem zm_884 : (.selects "WagerQuizModel" ⟨"WagerQuizModel", "undo", "()I"⟩ ⟨"WagerQuizModel", "undo", "()I"⟩ : Cond) ∈ zeBT := zeBT_of (k := 884) (by decide +kernel) rfl
theorem zm_667 : (.instanceMethod ⟨"WagerQuiz", "keep", "(I)I"⟩ : Cond) ∈ zeBT := zeBT_of (k := 667) (by decide +kernel) rfl
theorem zm_666 : (.methodLink "WagerQuizLaw" 87 ⟨"WagerQuiz", "keep", "(I)I"⟩ : Cond) ∈ zeBT := zeBT_of (k := 666) (by decide +kernel) rfl
theorem zm_668 : (.selects "WagerQuiz" ⟨"WagerQuiz", "keep", "(I)I"⟩ ⟨"WagerQuiz", "keep", "(I)I"⟩ : Cond) ∈ zeBT := zeBT_of (k := 668) (by decide +kernel) rfl
theorem zm_888 : (.instanceMethod ⟨"WagerQuizModel", "keep", "(I)I"⟩ : Cond) ∈ zeBT := zeBT_of (k := 888) (by decide +kernel) rfl
theorem zm_887 : (.methodLink "WagerQuizLaw" 90 ⟨"WagerQuizModel", "keep", "(I)I"⟩ : Cond) ∈ zeBT := zeBT_of (k := 887) (by decide +kernel) rfl
theorem zm_889 : (.selects "WagerQuizModel" ⟨"WagerQuizModel", "keep", "(I)I"⟩ ⟨"WagerQuizModel", "keep", "(I)I"⟩ : Cond) ∈ zeBT := zeBT_of (k := 889) (by decide +kernel) rfl
theorem zm_674 : (.instanceMethod ⟨"WagerQuiz", "restore", "(I)I"⟩ : Cond) ∈ zeBT := zeBT_of (k := 674) (by decide +kernel) rfl
theorem zm_673 : (.methodLink "WagerQuizLaw" 91 ⟨"WagerQuiz", "restore", "(I)I"⟩ : Cond) ∈ zeBT := zeBT_of (k := 673) (by decide +kernel) rfl
theorem zm_675 : (.selects "WagerQuiz" ⟨"WagerQuiz", "restore", "(I)I"⟩ ⟨"WagerQuiz", "restore", "(I)I"⟩ : Cond) ∈ zeBT := zeBT_of (k := 675) (by decide +kernel) rfl
theorem zm_896 : (.instanceMethod ⟨"WagerQuizModel", "restore", "(I)I"⟩ : Cond) ∈ zeBT := zeBT_of (k := 896) (by decide +kernel) rfl
theorem zm_895 : (.methodLink "WagerQuizLaw" 94 ⟨"WagerQuizModel", "restore", "(I)I"⟩ : Cond) ∈ zeBT := zeBT_of (k := 895) (by decide +kernel) rfl
theorem zm_897 : (.selects "WagerQuizModel" ⟨"WagerQuizModel", "restore", "(I)I"⟩ ⟨"WagerQuizModel", "restore", "(I)I"⟩ : Cond) ∈ zeBT := zeBT_of (k := 897) (by decide +kernel) rfl
theorem zm_678 : (.instanceMethod ⟨"WagerQuiz", "player", "(II)I"⟩ : Cond) ∈ zeBT := zeBT_of (k := 678) (by decide +kernel) rfl
theorem zm_677 : (.methodLink "WagerQuizLaw" 95 ⟨"WagerQuiz", "player", "(II)I"⟩ : Cond) ∈ zeBT := zeBT_of (k := 677) (by decide +kernel) rfl
theorem zm_679 : (.selects "WagerQuiz" ⟨"WagerQuiz", "player", "(II)I"⟩ ⟨"WagerQuiz", "player", "(II)I"⟩ : Cond) ∈ zeBT := zeBT_of (k := 679) (by decide +kernel) rfl
theorem zm_1090 : (.instanceMethod ⟨"WagerQuizModel", "player", "(II)I"⟩ : Cond) ∈ zeBT := zeBT_of (k := 1090) (by decide +kernel) rfl
theorem zm_1089 : (.methodLink "WagerQuizLaw" 98 ⟨"WagerQuizModel", "player", "(II)I"⟩ : Cond) ∈ zeBT := zeBT_of (k := 1089) (by decide +kernel) rfl
theorem zm_1091 : (.selects "WagerQuizModel" ⟨"WagerQuizModel", "player", "(II)I"⟩ ⟨"WagerQuizModel", "player", "(II)I"⟩ : Cond) ∈ zeBT := zeBT_of (k := 1091) (by decide +kernel) rfl
theorem zm_694 : (.instanceMethod ⟨"WagerQuiz", "ordered", "(I)I"⟩ : Cond) ∈ zeBT := zeBT_of (k := 694) (by decide +kernel) rfl
theorem zm_693 : (.methodLink "WagerQuizLaw" 99 ⟨"WagerQuiz", "ordered", "(I)I"⟩ : Cond) ∈ zeBT := zeBT_of (k := 693) (by decide +kernel) rfl
theorem zm_695 : (.selects "WagerQuiz" ⟨"WagerQuiz", "ordered", "(I)I"⟩ ⟨"WagerQuiz", "ordered", "(I)I"⟩ : Cond) ∈ zeBT := zeBT_of (k := 695) (by decide +kernel) rfl
theorem zm_1109 : (.instanceMethod ⟨"WagerQuizModel", "ordered", "(I)I"⟩ : Cond) ∈ zeBT := zeBT_of (k := 1109) (by decide +kernel) rfl
theorem zm_1108 : (.methodLink "WagerQuizLaw" 102 ⟨"WagerQuizModel", "ordered", "(I)I"⟩ : Cond) ∈ zeBT := zeBT_of (k := 1108) (by decide +kernel) rfl
theorem zm_1110 : (.selects "WagerQuizModel" ⟨"WagerQuizModel", "ordered", "(I)I"⟩ ⟨"WagerQuizModel", "ordered", "(I)I"⟩ : Cond) ∈ zeBT := zeBT_of (k := 1110) (by decide +kernel) rfl
theorem zm_702 : (.instanceMethod ⟨"WagerQuiz", "queued", "(I)I"⟩ : Cond) ∈ zeBT := zeBT_of (k := 702) (by decide +kernel) rfl
theorem zm_701 : (.methodLink "WagerQuizLaw" 103 ⟨"WagerQuiz", "queued", "(I)I"⟩ : Cond) ∈ zeBT := zeBT_of (k := 701) (by decide +kernel) rfl
theorem zm_703 : (.selects "WagerQuiz" ⟨"WagerQuiz", "queued", "(I)I"⟩ ⟨"WagerQuiz", "queued", "(I)I"⟩ : Cond) ∈ zeBT := zeBT_of (k := 703) (by decide +kernel) rfl
theorem zm_1117 : (.instanceMethod ⟨"WagerQuizModel", "queued", "(I)I"⟩ : Cond) ∈ zeBT := zeBT_of (k := 1117) (by decide +kernel) rfl
theorem zm_1116 : (.methodLink "WagerQuizLaw" 106 ⟨"WagerQuizModel", "queued", "(I)I"⟩ : Cond) ∈ zeBT := zeBT_of (k := 1116) (by decide +kernel) rfl
theorem zm_1118 : (.selects "WagerQuizModel" ⟨"WagerQuizModel", "queued", "(I)I"⟩ ⟨"WagerQuizModel", "queued", "(I)I"⟩ : Cond) ∈ zeBT := zeBT_of (k := 1118) (by decide +kernel) rfl
theorem zm_706 : (.instanceMethod ⟨"WagerQuiz", "clue", "(II)I"⟩ : Cond) ∈ zeBT := zeBT_of (k := 706) (by decide +kernel) rfl
theorem zm_705 : (.methodLink "WagerQuizLaw" 107 ⟨"WagerQuiz", "clue", "(II)I"⟩ : Cond) ∈ zeBT := zeBT_of (k := 705) (by decide +kernel) rfl
theorem zm_707 : (.selects "WagerQuiz" ⟨"WagerQuiz", "clue", "(II)I"⟩ ⟨"WagerQuiz", "clue", "(II)I"⟩ : Cond) ∈ zeBT := zeBT_of (k := 707) (by decide +kernel) rfl
theorem zm_1121 : (.instanceMethod ⟨"WagerQuizModel", "clue", "(II)I"⟩ : Cond) ∈ zeBT := zeBT_of (k := 1121) (by decide +kernel) rfl
theorem zm_1120 : (.methodLink "WagerQuizLaw" 110 ⟨"WagerQuizModel", "clue", "(II)I"⟩ : Cond) ∈ zeBT := zeBT_of (k := 1120) (by decide +kernel) rfl
theorem zm_1122 : (.selects "WagerQuizModel" ⟨"WagerQuizModel", "clue", "(II)I"⟩ ⟨"WagerQuizModel", "clue", "(II)I"⟩ : Cond) ∈ zeBT := zeBT_of (k := 1122) (by decide +kernel) rfl
theorem zm_714 : (.instanceMethod ⟨"WagerQuiz", "entry", "(II)I"⟩ : Cond) ∈ zeBT := zeBT_of (k := 714) (by decide +kernel) rfl
theorem zm_713 : (.methodLink "WagerQuizLaw" 111 ⟨"WagerQuiz", "entry", "(II)I"⟩ : Cond) ∈ zeBT := zeBT_of (k := 713) (by decide +kernel) rfl
theorem zm_715 : (.selects "WagerQuiz" ⟨"WagerQuiz", "entry", "(II)I"⟩ ⟨"WagerQuiz", "entry", "(II)I"⟩ : Cond) ∈ zeBT := zeBT_of (k := 715) (by decide +kernel) rfl
theorem zm_1129 : (.instanceMethod ⟨"WagerQuizModel", "entry", "(II)I"⟩ : Cond) ∈ zeBT := zeBT_of (k := 1129) (by decide +kernel) rfl
theorem zm_1128 : (.methodLink "WagerQuizLaw" 114 ⟨"WagerQuizModel", "entry", "(II)I"⟩ : Cond) ∈ zeBT := zeBT_of (k := 1128) (by decide +kernel) rfl
theorem zm_1130 : (.selects "WagerQuizModel" ⟨"WagerQuizModel", "entry", "(II)I"⟩ ⟨"WagerQuizModel", "entry", "(II)I"⟩ : Cond) ∈ zeBT := zeBT_of (k := 1130) (by decide +kernel) rfl
theorem zm_718 : (.instanceMethod ⟨"WagerQuiz", "count", "(I)I"⟩ : Cond) ∈ zeBT := zeBT_of (k := 718) (by decide +kernel) rfl
theorem zm_717 : (.methodLink "WagerQuizLaw" 115 ⟨"WagerQuiz", "count", "(I)I"⟩ : Cond) ∈ zeBT := zeBT_of (k := 717) (by decide +kernel) rfl
theorem zm_719 : (.selects "WagerQuiz" ⟨"WagerQuiz", "count", "(I)I"⟩ ⟨"WagerQuiz", "count", "(I)I"⟩ : Cond) ∈ zeBT := zeBT_of (k := 719) (by decide +kernel) rfl
theorem zm_1133 : (.instanceMethod ⟨"WagerQuizModel", "count", "(I)I"⟩ : Cond) ∈ zeBT := zeBT_of (k := 1133) (by decide +kernel) rfl
theorem zm_1132 : (.methodLink "WagerQuizLaw" 118 ⟨"WagerQuizModel", "count", "(I)I"⟩ : Cond) ∈ zeBT := zeBT_of (k := 1132) (by decide +kernel) rfl
theorem zm_1134 : (.selects "WagerQuizModel" ⟨"WagerQuizModel", "count", "(I)I"⟩ ⟨"WagerQuizModel", "count", "(I)I"⟩ : Cond) ∈ zeBT := zeBT_of (k := 1134) (by decide +kernel) rfl
theorem zm_734 : (.instanceMethod ⟨"WagerQuiz", "messageAt", "(I)I"⟩ : Cond) ∈ zeBT := zeBT_of (k := 734) (by decide +kernel) rfl
theorem zm_733 : (.methodLink "WagerQuizLaw" 119 ⟨"WagerQuiz", "messageAt", "(I)I"⟩ : Cond) ∈ zeBT := zeBT_of (k := 733) (by decide +kernel) rfl
theorem zm_735 : (.selects "WagerQuiz" ⟨"WagerQuiz", "messageAt", "(I)I"⟩ ⟨"WagerQuiz", "messageAt", "(I)I"⟩ : Cond) ∈ zeBT := zeBT_of (k := 735) (by decide +kernel) rfl
theorem zm_1141 : (.instanceMethod ⟨"WagerQuizModel", "messageAt", "(I)I"⟩ : Cond) ∈ zeBT := zeBT_of (k := 1141) (by decide +kernel) rfl
theorem zm_1140 : (.methodLink "WagerQuizLaw" 122 ⟨"WagerQuizModel", "messageAt", "(I)I"⟩ : Cond) ∈ zeBT := zeBT_of (k := 1140) (by decide +kernel) rfl
theorem zm_1142 : (.selects "WagerQuizModel" ⟨"WagerQuizModel", "messageAt", "(I)I"⟩ ⟨"WagerQuizModel", "messageAt", "(I)I"⟩ : Cond) ∈ zeBT := zeBT_of (k := 1142) (by decide +kernel) rfl
theorem zm_82 : (.lays "WagerQuiz$FinalRound" "WagerQuiz$FinalRound" "answers" "I" : Cond) ∈ zeBT := zeBT_of (k := 82) (by decide +kernel) rfl
theorem zm_84 : (.laysFinal "WagerQuiz$FinalRound" "WagerQuiz$FinalRound" "startScores" "[I" : Cond) ∈ zeBT := zeBT_of (k := 84) (by decide +kernel) rfl
theorem zm_86 : (.laysFinal "WagerQuiz$FinalRound" "WagerQuiz$FinalRound" "wagers" "[I" : Cond) ∈ zeBT := zeBT_of (k := 86) (by decide +kernel) rfl
theorem zm_220 : (.lays "WagerQuiz$History" "WagerQuiz$History" "size" "I" : Cond) ∈ zeBT := zeBT_of (k := 220) (by decide +kernel) rfl
theorem zm_222 : (.lays "WagerQuiz$History" "WagerQuiz$History" "trial" "I" : Cond) ∈ zeBT := zeBT_of (k := 222) (by decide +kernel) rfl
theorem zm_224 : (.laysFinal "WagerQuiz$History" "WagerQuiz$History" "ring" "[LWagerQuiz$State;" : Cond) ∈ zeBT := zeBT_of (k := 224) (by decide +kernel) rfl
theorem zm_113 : (.lays "WagerQuiz$Log" "WagerQuiz$Log" "size" "I" : Cond) ∈ zeBT := zeBT_of (k := 113) (by decide +kernel) rfl
theorem zm_115 : (.laysFinal "WagerQuiz$Log" "WagerQuiz$Log" "players" "[I" : Cond) ∈ zeBT := zeBT_of (k := 115) (by decide +kernel) rfl
theorem zm_117 : (.laysFinal "WagerQuiz$Log" "WagerQuiz$Log" "sorts" "[I" : Cond) ∈ zeBT := zeBT_of (k := 117) (by decide +kernel) rfl
theorem zm_119 : (.laysFinal "WagerQuiz$Log" "WagerQuiz$Log" "clues" "[I" : Cond) ∈ zeBT := zeBT_of (k := 119) (by decide +kernel) rfl
theorem zm_121 : (.laysFinal "WagerQuiz$Log" "WagerQuiz$Log" "amounts" "[I" : Cond) ∈ zeBT := zeBT_of (k := 121) (by decide +kernel) rfl
theorem zm_123 : (.laysFinal "WagerQuiz$Log" "WagerQuiz$Log" "judgements" "[I" : Cond) ∈ zeBT := zeBT_of (k := 123) (by decide +kernel) rfl
theorem zm_50 : (.lays "WagerQuiz$PickedClue" "WagerQuiz$PickedClue" "clue" "I" : Cond) ∈ zeBT := zeBT_of (k := 50) (by decide +kernel) rfl
theorem zm_52 : (.lays "WagerQuiz$PickedClue" "WagerQuiz$PickedClue" "reading" "I" : Cond) ∈ zeBT := zeBT_of (k := 52) (by decide +kernel) rfl
theorem zm_54 : (.lays "WagerQuiz$PickedClue" "WagerQuiz$PickedClue" "lock" "I" : Cond) ∈ zeBT := zeBT_of (k := 54) (by decide +kernel) rfl
theorem zm_56 : (.lays "WagerQuiz$PickedClue" "WagerQuiz$PickedClue" "wager" "I" : Cond) ∈ zeBT := zeBT_of (k := 56) (by decide +kernel) rfl
theorem zm_58 : (.lays "WagerQuiz$PickedClue" "WagerQuiz$PickedClue" "answered" "I" : Cond) ∈ zeBT := zeBT_of (k := 58) (by decide +kernel) rfl
theorem zm_60 : (.laysFinal "WagerQuiz$PickedClue" "WagerQuiz$PickedClue" "countingTicks" "[I" : Cond) ∈ zeBT := zeBT_of (k := 60) (by decide +kernel) rfl
theorem zm_62 : (.laysFinal "WagerQuiz$PickedClue" "WagerQuiz$PickedClue" "ticksBelow64" "[J" : Cond) ∈ zeBT := zeBT_of (k := 62) (by decide +kernel) rfl
theorem zm_64 : (.laysFinal "WagerQuiz$PickedClue" "WagerQuiz$PickedClue" "ticksFrom64" "[J" : Cond) ∈ zeBT := zeBT_of (k := 64) (by decide +kernel) rfl
theorem zm_185 : (.lays "WagerQuiz$Replay" "WagerQuiz$Replay" "control" "I" : Cond) ∈ zeBT := zeBT_of (k := 185) (by decide +kernel) rfl
theorem zm_187 : (.laysFinal "WagerQuiz$Replay" "WagerQuiz$Replay" "scores" "[I" : Cond) ∈ zeBT := zeBT_of (k := 187) (by decide +kernel) rfl
theorem zm_189 : (.laysFinal "WagerQuiz$Replay" "WagerQuiz$Replay" "rights" "[I" : Cond) ∈ zeBT := zeBT_of (k := 189) (by decide +kernel) rfl
theorem zm_191 : (.laysFinal "WagerQuiz$Replay" "WagerQuiz$Replay" "wrongs" "[I" : Cond) ∈ zeBT := zeBT_of (k := 191) (by decide +kernel) rfl
theorem zm_193 : (.laysFinal "WagerQuiz$Replay" "WagerQuiz$Replay" "corrections" "[I" : Cond) ∈ zeBT := zeBT_of (k := 193) (by decide +kernel) rfl
theorem zm_195 : (.laysFinal "WagerQuiz$Replay" "WagerQuiz$Replay" "solvers" "[I" : Cond) ∈ zeBT := zeBT_of (k := 195) (by decide +kernel) rfl
theorem zm_197 : (.laysFinal "WagerQuiz$Replay" "WagerQuiz$Replay" "amounts" "[I" : Cond) ∈ zeBT := zeBT_of (k := 197) (by decide +kernel) rfl
theorem zm_199 : (.laysFinal "WagerQuiz$Replay" "WagerQuiz$Replay" "scoresBehind" "[I" : Cond) ∈ zeBT := zeBT_of (k := 199) (by decide +kernel) rfl
theorem zm_201 : (.laysFinal "WagerQuiz$Replay" "WagerQuiz$Replay" "voids" "[Z" : Cond) ∈ zeBT := zeBT_of (k := 201) (by decide +kernel) rfl
theorem zm_203 : (.laysFinal "WagerQuiz$Replay" "WagerQuiz$Replay" "formerScores" "[I" : Cond) ∈ zeBT := zeBT_of (k := 203) (by decide +kernel) rfl
theorem zm_236 : (.lays "WagerQuiz$Script" "WagerQuiz$Script" "length" "I" : Cond) ∈ zeBT := zeBT_of (k := 236) (by decide +kernel) rfl
theorem zm_238 : (.laysFinal "WagerQuiz$Script" "WagerQuiz$Script" "signs" "[C" : Cond) ∈ zeBT := zeBT_of (k := 238) (by decide +kernel) rfl
theorem zm_142 : (.lays "WagerQuiz$State" "WagerQuiz$State" "phase" "I" : Cond) ∈ zeBT := zeBT_of (k := 142) (by decide +kernel) rfl
theorem zm_144 : (.lays "WagerQuiz$State" "WagerQuiz$State" "players" "I" : Cond) ∈ zeBT := zeBT_of (k := 144) (by decide +kernel) rfl
theorem zm_146 : (.lays "WagerQuiz$State" "WagerQuiz$State" "wagerClues" "I" : Cond) ∈ zeBT := zeBT_of (k := 146) (by decide +kernel) rfl
theorem zm_148 : (.lays "WagerQuiz$State" "WagerQuiz$State" "goneClues" "I" : Cond) ∈ zeBT := zeBT_of (k := 148) (by decide +kernel) rfl
theorem zm_150 : (.laysFinal "WagerQuiz$State" "WagerQuiz$State" "settings" "[I" : Cond) ∈ zeBT := zeBT_of (k := 150) (by decide +kernel) rfl
theorem zm_152 : (.laysFinal "WagerQuiz$State" "WagerQuiz$State" "open" "LWagerQuiz$PickedClue;" : Cond) ∈ zeBT := zeBT_of (k := 152) (by decide +kernel) rfl
theorem zm_154 : (.laysFinal "WagerQuiz$State" "WagerQuiz$State" "finale" "LWagerQuiz$FinalRound;" : Cond) ∈ zeBT := zeBT_of (k := 154) (by decide +kernel) rfl
theorem zm_156 : (.laysFinal "WagerQuiz$State" "WagerQuiz$State" "log" "LWagerQuiz$Log;" : Cond) ∈ zeBT := zeBT_of (k := 156) (by decide +kernel) rfl
theorem zm_265 : (.laysFinal "WagerQuiz" "WagerQuiz" "now" "LWagerQuiz$State;" : Cond) ∈ zeBT := zeBT_of (k := 265) (by decide +kernel) rfl
theorem zm_267 : (.laysFinal "WagerQuiz" "WagerQuiz" "replay" "LWagerQuiz$Replay;" : Cond) ∈ zeBT := zeBT_of (k := 267) (by decide +kernel) rfl
theorem zm_269 : (.laysFinal "WagerQuiz" "WagerQuiz" "history" "LWagerQuiz$History;" : Cond) ∈ zeBT := zeBT_of (k := 269) (by decide +kernel) rfl
theorem zm_271 : (.laysFinal "WagerQuiz" "WagerQuiz" "slots" "[LWagerQuiz$State;" : Cond) ∈ zeBT := zeBT_of (k := 271) (by decide +kernel) rfl
theorem zm_273 : (.laysFinal "WagerQuiz" "WagerQuiz" "slotTaken" "[Z" : Cond) ∈ zeBT := zeBT_of (k := 273) (by decide +kernel) rfl
theorem zm_275 : (.laysFinal "WagerQuiz" "WagerQuiz" "script" "LWagerQuiz$Script;" : Cond) ∈ zeBT := zeBT_of (k := 275) (by decide +kernel) rfl
theorem zm_277 : (.laysFinal "WagerQuiz" "WagerQuiz" "message" "LWagerQuiz$Message;" : Cond) ∈ zeBT := zeBT_of (k := 277) (by decide +kernel) rfl
theorem zm_279 : (.lays "WagerQuiz" "WagerQuiz" "reason" "I" : Cond) ∈ zeBT := zeBT_of (k := 279) (by decide +kernel) rfl
theorem zm_837 : (.laysFinal "WagerQuizModel" "WagerQuizModel" "now" "[I" : Cond) ∈ zeBT := zeBT_of (k := 837) (by decide +kernel) rfl
theorem zm_839 : (.laysFinal "WagerQuizModel" "WagerQuizModel" "history" "[I" : Cond) ∈ zeBT := zeBT_of (k := 839) (by decide +kernel) rfl
theorem zm_841 : (.lays "WagerQuizModel" "WagerQuizModel" "kept" "I" : Cond) ∈ zeBT := zeBT_of (k := 841) (by decide +kernel) rfl
theorem zm_843 : (.laysFinal "WagerQuizModel" "WagerQuizModel" "slots" "[I" : Cond) ∈ zeBT := zeBT_of (k := 843) (by decide +kernel) rfl
theorem zm_845 : (.laysFinal "WagerQuizModel" "WagerQuizModel" "isFilled" "[Z" : Cond) ∈ zeBT := zeBT_of (k := 845) (by decide +kernel) rfl
theorem zm_847 : (.lays "WagerQuizModel" "WagerQuizModel" "reason" "I" : Cond) ∈ zeBT := zeBT_of (k := 847) (by decide +kernel) rfl
theorem zm_849 : (.laysFinal "WagerQuizModel" "WagerQuizModel" "score" "[I" : Cond) ∈ zeBT := zeBT_of (k := 849) (by decide +kernel) rfl
theorem zm_851 : (.laysFinal "WagerQuizModel" "WagerQuizModel" "amount" "[I" : Cond) ∈ zeBT := zeBT_of (k := 851) (by decide +kernel) rfl
theorem zm_853 : (.laysFinal "WagerQuizModel" "WagerQuizModel" "isVoid" "[Z" : Cond) ∈ zeBT := zeBT_of (k := 853) (by decide +kernel) rfl
theorem zm_855 : (.laysFinal "WagerQuizModel" "WagerQuizModel" "after" "[I" : Cond) ∈ zeBT := zeBT_of (k := 855) (by decide +kernel) rfl
theorem zm_857 : (.laysFinal "WagerQuizModel" "WagerQuizModel" "rights" "[I" : Cond) ∈ zeBT := zeBT_of (k := 857) (by decide +kernel) rfl
theorem zm_859 : (.laysFinal "WagerQuizModel" "WagerQuizModel" "wrongs" "[I" : Cond) ∈ zeBT := zeBT_of (k := 859) (by decide +kernel) rfl
theorem zm_861 : (.laysFinal "WagerQuizModel" "WagerQuizModel" "corrections" "[I" : Cond) ∈ zeBT := zeBT_of (k := 861) (by decide +kernel) rfl
theorem zm_863 : (.lays "WagerQuizModel" "WagerQuizModel" "control" "I" : Cond) ∈ zeBT := zeBT_of (k := 863) (by decide +kernel) rfl
theorem zm_865 : (.laysFinal "WagerQuizModel" "WagerQuizModel" "waits" "[I" : Cond) ∈ zeBT := zeBT_of (k := 865) (by decide +kernel) rfl
theorem zm_867 : (.laysFinal "WagerQuizModel" "WagerQuizModel" "before" "[I" : Cond) ∈ zeBT := zeBT_of (k := 867) (by decide +kernel) rfl
theorem zm_869 : (.lays "WagerQuizModel" "WagerQuizModel" "typed" "I" : Cond) ∈ zeBT := zeBT_of (k := 869) (by decide +kernel) rfl
theorem zm_871 : (.laysFinal "WagerQuizModel" "WagerQuizModel" "text" "[C" : Cond) ∈ zeBT := zeBT_of (k := 871) (by decide +kernel) rfl
theorem zm_873 : (.lays "WagerQuizModel" "WagerQuizModel" "moves" "I" : Cond) ∈ zeBT := zeBT_of (k := 873) (by decide +kernel) rfl
theorem zm_875 : (.laysFinal "WagerQuizModel" "WagerQuizModel" "moveOf" "[I" : Cond) ∈ zeBT := zeBT_of (k := 875) (by decide +kernel) rfl
theorem zm_877 : (.lays "WagerQuizModel" "WagerQuizModel" "written" "I" : Cond) ∈ zeBT := zeBT_of (k := 877) (by decide +kernel) rfl
theorem zm_879 : (.laysFinal "WagerQuizModel" "WagerQuizModel" "message" "[I" : Cond) ∈ zeBT := zeBT_of (k := 879) (by decide +kernel) rfl
theorem zm_252 : (.lays "WagerQuiz$Message" "WagerQuiz$Message" "length" "I" : Cond) ∈ zeBT := zeBT_of (k := 252) (by decide +kernel) rfl
theorem zm_254 : (.laysFinal "WagerQuiz$Message" "WagerQuiz$Message" "signs" "[C" : Cond) ∈ zeBT := zeBT_of (k := 254) (by decide +kernel) rfl
theorem zm_422 : (.code ⟨"java/lang/Math", "max", "(II)I"⟩ prog_13_method_65_code 2 (some .int) : Cond) ∈ zeBT := zeBT_of (k := 422) (by decide +kernel) rfl
theorem zm_514 : (.code ⟨"java/lang/Math", "min", "(II)I"⟩ prog_13_method_69_code 2 (some .int) : Cond) ∈ zeBT := zeBT_of (k := 514) (by decide +kernel) rfl
theorem zm_25 : (.code ⟨"java/lang/Object", "<init>", "()V"⟩ object_method_1_code 1 none : Cond) ∈ zeBT := zeBT_of (k := 25) (by decide +kernel) rfl
theorem zc_0 : zeCl[0]? = some ("WagerQuiz$FinalRound", zeT0, 3) := rfl
theorem zin_0 : ∀ w ∈ u_ws "WagerQuiz$FinalRound" zeT0 3, w ∈ zeBT := by
  have h : u_ws "WagerQuiz$FinalRound" zeT0 3 = [.lays "WagerQuiz$FinalRound" "WagerQuiz$FinalRound" "answers" "I", .laysFinal "WagerQuiz$FinalRound" "WagerQuiz$FinalRound" "startScores" "[I", .laysFinal "WagerQuiz$FinalRound" "WagerQuiz$FinalRound" "wagers" "[I"] := by decide +kernel
  rw [h]
  exact (List.forall_mem_cons.mpr ⟨zm_82, (List.forall_mem_cons.mpr ⟨zm_84, (List.forall_mem_cons.mpr ⟨zm_86, (fun w h => absurd h List.not_mem_nil)⟩)⟩)⟩)
theorem zdf_0 {G : zeG} : ∀ j, j < 3 → vp_V (zeFs G (fun _ => none) (fun _ => 0) 0 (zeFL 0)) j = defaultValue (zeY0 j) := by
  intro j hj
  match j, hj with
  | 0, _ => rfl
  | 1, _ => rfl
  | 2, _ => rfl
  | j + 3, h => exact absurd h (by omega)
theorem zk_0 : zeCl[0]? = some ("WagerQuiz$FinalRound", zeT0, 3) ∧ (∀ w ∈ u_ws "WagerQuiz$FinalRound" zeT0 3, w ∈ zeBT) ∧ (∀ k, k < 3 → parseFieldDescriptor (zeT0 k).2.2.1 = some (zeY0 k)) ∧ (∀ a, a < 3 → ∀ b, b < 3 → a ≠ b → (zeT0 a).2.1 ≠ (zeT0 b).2.1) ∧ (zeFL 0).length = 3 := ⟨zc_0, zin_0, zeYok0, zeNm0, rfl⟩
theorem zc_1 : zeCl[1]? = some ("WagerQuiz$History", zeT1, 3) := rfl
theorem zin_1 : ∀ w ∈ u_ws "WagerQuiz$History" zeT1 3, w ∈ zeBT := by
  have h : u_ws "WagerQuiz$History" zeT1 3 = [.lays "WagerQuiz$History" "WagerQuiz$History" "size" "I", .lays "WagerQuiz$History" "WagerQuiz$History" "trial" "I", .laysFinal "WagerQuiz$History" "WagerQuiz$History" "ring" "[LWagerQuiz$State;"] := by decide +kernel
  rw [h]
  exact (List.forall_mem_cons.mpr ⟨zm_220, (List.forall_mem_cons.mpr ⟨zm_222, (List.forall_mem_cons.mpr ⟨zm_224, (fun w h => absurd h List.not_mem_nil)⟩)⟩)⟩)
theorem zdf_1 {G : zeG} : ∀ j, j < 3 → vp_V (zeFs G (fun _ => none) (fun _ => 0) 0 (zeFL 1)) j = defaultValue (zeY1 j) := by
  intro j hj
  match j, hj with
  | 0, _ => rfl
  | 1, _ => rfl
  | 2, _ => rfl
  | j + 3, h => exact absurd h (by omega)
theorem zk_1 : zeCl[1]? = some ("WagerQuiz$History", zeT1, 3) ∧ (∀ w ∈ u_ws "WagerQuiz$History" zeT1 3, w ∈ zeBT) ∧ (∀ k, k < 3 → parseFieldDescriptor (zeT1 k).2.2.1 = some (zeY1 k)) ∧ (∀ a, a < 3 → ∀ b, b < 3 → a ≠ b → (zeT1 a).2.1 ≠ (zeT1 b).2.1) ∧ (zeFL 1).length = 3 := ⟨zc_1, zin_1, zeYok1, zeNm1, rfl⟩
theorem zc_2 : zeCl[2]? = some ("WagerQuiz$Log", zeT2, 6) := rfl
theorem zin_2 : ∀ w ∈ u_ws "WagerQuiz$Log" zeT2 6, w ∈ zeBT := by
  have h : u_ws "WagerQuiz$Log" zeT2 6 = [.lays "WagerQuiz$Log" "WagerQuiz$Log" "size" "I", .laysFinal "WagerQuiz$Log" "WagerQuiz$Log" "players" "[I", .laysFinal "WagerQuiz$Log" "WagerQuiz$Log" "sorts" "[I", .laysFinal "WagerQuiz$Log" "WagerQuiz$Log" "clues" "[I", .laysFinal "WagerQuiz$Log" "WagerQuiz$Log" "amounts" "[I", .laysFinal "WagerQuiz$Log" "WagerQuiz$Log" "judgements" "[I"] := by decide +kernel
  rw [h]
  exact (List.forall_mem_cons.mpr ⟨zm_113, (List.forall_mem_cons.mpr ⟨zm_115, (List.forall_mem_cons.mpr ⟨zm_117, (List.forall_mem_cons.mpr ⟨zm_119, (List.forall_mem_cons.mpr ⟨zm_121, (List.forall_mem_cons.mpr ⟨zm_123, (fun w h => absurd h List.not_mem_nil)⟩)⟩)⟩)⟩)⟩)⟩)
theorem zdf_2 {G : zeG} : ∀ j, j < 6 → vp_V (zeFs G (fun _ => none) (fun _ => 0) 0 (zeFL 2)) j = defaultValue (zeY2 j) := by
  intro j hj
  match j, hj with
  | 0, _ => rfl
  | 1, _ => rfl
  | 2, _ => rfl
  | 3, _ => rfl
  | 4, _ => rfl
  | 5, _ => rfl
  | j + 6, h => exact absurd h (by omega)
theorem zk_2 : zeCl[2]? = some ("WagerQuiz$Log", zeT2, 6) ∧ (∀ w ∈ u_ws "WagerQuiz$Log" zeT2 6, w ∈ zeBT) ∧ (∀ k, k < 6 → parseFieldDescriptor (zeT2 k).2.2.1 = some (zeY2 k)) ∧ (∀ a, a < 6 → ∀ b, b < 6 → a ≠ b → (zeT2 a).2.1 ≠ (zeT2 b).2.1) ∧ (zeFL 2).length = 6 := ⟨zc_2, zin_2, zeYok2, zeNm2, rfl⟩
theorem zc_3 : zeCl[3]? = some ("WagerQuiz$PickedClue", zeT3, 8) := rfl
theorem zin_3 : ∀ w ∈ u_ws "WagerQuiz$PickedClue" zeT3 8, w ∈ zeBT := by
  have h : u_ws "WagerQuiz$PickedClue" zeT3 8 = [.lays "WagerQuiz$PickedClue" "WagerQuiz$PickedClue" "clue" "I", .lays "WagerQuiz$PickedClue" "WagerQuiz$PickedClue" "reading" "I", .lays "WagerQuiz$PickedClue" "WagerQuiz$PickedClue" "lock" "I", .lays "WagerQuiz$PickedClue" "WagerQuiz$PickedClue" "wager" "I", .lays "WagerQuiz$PickedClue" "WagerQuiz$PickedClue" "answered" "I", .laysFinal "WagerQuiz$PickedClue" "WagerQuiz$PickedClue" "countingTicks" "[I", .laysFinal "WagerQuiz$PickedClue" "WagerQuiz$PickedClue" "ticksBelow64" "[J", .laysFinal "WagerQuiz$PickedClue" "WagerQuiz$PickedClue" "ticksFrom64" "[J"] := by decide +kernel
  rw [h]
  exact (List.forall_mem_cons.mpr ⟨zm_50, (List.forall_mem_cons.mpr ⟨zm_52, (List.forall_mem_cons.mpr ⟨zm_54, (List.forall_mem_cons.mpr ⟨zm_56, (List.forall_mem_cons.mpr ⟨zm_58, (List.forall_mem_cons.mpr ⟨zm_60, (List.forall_mem_cons.mpr ⟨zm_62, (List.forall_mem_cons.mpr ⟨zm_64, (fun w h => absurd h List.not_mem_nil)⟩)⟩)⟩)⟩)⟩)⟩)⟩)⟩)
theorem zdf_3 {G : zeG} : ∀ j, j < 8 → vp_V (zeFs G (fun _ => none) (fun _ => 0) 0 (zeFL 3)) j = defaultValue (zeY3 j) := by
  intro j hj
  match j, hj with
  | 0, _ => rfl
  | 1, _ => rfl
  | 2, _ => rfl
  | 3, _ => rfl
  | 4, _ => rfl
  | 5, _ => rfl
  | 6, _ => rfl
  | 7, _ => rfl
  | j + 8, h => exact absurd h (by omega)
theorem zk_3 : zeCl[3]? = some ("WagerQuiz$PickedClue", zeT3, 8) ∧ (∀ w ∈ u_ws "WagerQuiz$PickedClue" zeT3 8, w ∈ zeBT) ∧ (∀ k, k < 8 → parseFieldDescriptor (zeT3 k).2.2.1 = some (zeY3 k)) ∧ (∀ a, a < 8 → ∀ b, b < 8 → a ≠ b → (zeT3 a).2.1 ≠ (zeT3 b).2.1) ∧ (zeFL 3).length = 8 := ⟨zc_3, zin_3, zeYok3, zeNm3, rfl⟩
theorem zc_4 : zeCl[4]? = some ("WagerQuiz$Replay", zeT4, 10) := rfl
theorem zin_4 : ∀ w ∈ u_ws "WagerQuiz$Replay" zeT4 10, w ∈ zeBT := by
  have h : u_ws "WagerQuiz$Replay" zeT4 10 = [.lays "WagerQuiz$Replay" "WagerQuiz$Replay" "control" "I", .laysFinal "WagerQuiz$Replay" "WagerQuiz$Replay" "scores" "[I", .laysFinal "WagerQuiz$Replay" "WagerQuiz$Replay" "rights" "[I", .laysFinal "WagerQuiz$Replay" "WagerQuiz$Replay" "wrongs" "[I", .laysFinal "WagerQuiz$Replay" "WagerQuiz$Replay" "corrections" "[I", .laysFinal "WagerQuiz$Replay" "WagerQuiz$Replay" "solvers" "[I", .laysFinal "WagerQuiz$Replay" "WagerQuiz$Replay" "amounts" "[I", .laysFinal "WagerQuiz$Replay" "WagerQuiz$Replay" "scoresBehind" "[I", .laysFinal "WagerQuiz$Replay" "WagerQuiz$Replay" "voids" "[Z", .laysFinal "WagerQuiz$Replay" "WagerQuiz$Replay" "formerScores" "[I"] := by decide +kernel
  rw [h]
  exact (List.forall_mem_cons.mpr ⟨zm_185, (List.forall_mem_cons.mpr ⟨zm_187, (List.forall_mem_cons.mpr ⟨zm_189, (List.forall_mem_cons.mpr ⟨zm_191, (List.forall_mem_cons.mpr ⟨zm_193, (List.forall_mem_cons.mpr ⟨zm_195, (List.forall_mem_cons.mpr ⟨zm_197, (List.forall_mem_cons.mpr ⟨zm_199, (List.forall_mem_cons.mpr ⟨zm_201, (List.forall_mem_cons.mpr ⟨zm_203, (fun w h => absurd h List.not_mem_nil)⟩)⟩)⟩)⟩)⟩)⟩)⟩)⟩)⟩)⟩)
theorem zdf_4 {G : zeG} : ∀ j, j < 10 → vp_V (zeFs G (fun _ => none) (fun _ => 0) 0 (zeFL 4)) j = defaultValue (zeY4 j) := by
  intro j hj
  match j, hj with
  | 0, _ => rfl
  | 1, _ => rfl
  | 2, _ => rfl
  | 3, _ => rfl
  | 4, _ => rfl
  | 5, _ => rfl
  | 6, _ => rfl
  | 7, _ => rfl
  | 8, _ => rfl
  | 9, _ => rfl
  | j + 10, h => exact absurd h (by omega)
theorem zk_4 : zeCl[4]? = some ("WagerQuiz$Replay", zeT4, 10) ∧ (∀ w ∈ u_ws "WagerQuiz$Replay" zeT4 10, w ∈ zeBT) ∧ (∀ k, k < 10 → parseFieldDescriptor (zeT4 k).2.2.1 = some (zeY4 k)) ∧ (∀ a, a < 10 → ∀ b, b < 10 → a ≠ b → (zeT4 a).2.1 ≠ (zeT4 b).2.1) ∧ (zeFL 4).length = 10 := ⟨zc_4, zin_4, zeYok4, zeNm4, rfl⟩
theorem zc_5 : zeCl[5]? = some ("WagerQuiz$Script", zeT5, 2) := rfl
theorem zin_5 : ∀ w ∈ u_ws "WagerQuiz$Script" zeT5 2, w ∈ zeBT := by
  have h : u_ws "WagerQuiz$Script" zeT5 2 = [.lays "WagerQuiz$Script" "WagerQuiz$Script" "length" "I", .laysFinal "WagerQuiz$Script" "WagerQuiz$Script" "signs" "[C"] := by decide +kernel
  rw [h]
  exact (List.forall_mem_cons.mpr ⟨zm_236, (List.forall_mem_cons.mpr ⟨zm_238, (fun w h => absurd h List.not_mem_nil)⟩)⟩)
theorem zdf_5 {G : zeG} : ∀ j, j < 2 → vp_V (zeFs G (fun _ => none) (fun _ => 0) 0 (zeFL 5)) j = defaultValue (zeY5 j) := by
  intro j hj
  match j, hj with
  | 0, _ => rfl
  | 1, _ => rfl
  | j + 2, h => exact absurd h (by omega)
theorem zk_5 : zeCl[5]? = some ("WagerQuiz$Script", zeT5, 2) ∧ (∀ w ∈ u_ws "WagerQuiz$Script" zeT5 2, w ∈ zeBT) ∧ (∀ k, k < 2 → parseFieldDescriptor (zeT5 k).2.2.1 = some (zeY5 k)) ∧ (∀ a, a < 2 → ∀ b, b < 2 → a ≠ b → (zeT5 a).2.1 ≠ (zeT5 b).2.1) ∧ (zeFL 5).length = 2 := ⟨zc_5, zin_5, zeYok5, zeNm5, rfl⟩
theorem zc_6 : zeCl[6]? = some ("WagerQuiz$State", zeT6, 8) := rfl
theorem zin_6 : ∀ w ∈ u_ws "WagerQuiz$State" zeT6 8, w ∈ zeBT := by
  have h : u_ws "WagerQuiz$State" zeT6 8 = [.lays "WagerQuiz$State" "WagerQuiz$State" "phase" "I", .lays "WagerQuiz$State" "WagerQuiz$State" "players" "I", .lays "WagerQuiz$State" "WagerQuiz$State" "wagerClues" "I", .lays "WagerQuiz$State" "WagerQuiz$State" "goneClues" "I", .laysFinal "WagerQuiz$State" "WagerQuiz$State" "settings" "[I", .laysFinal "WagerQuiz$State" "WagerQuiz$State" "open" "LWagerQuiz$PickedClue;", .laysFinal "WagerQuiz$State" "WagerQuiz$State" "finale" "LWagerQuiz$FinalRound;", .laysFinal "WagerQuiz$State" "WagerQuiz$State" "log" "LWagerQuiz$Log;"] := by decide +kernel
  rw [h]
  exact (List.forall_mem_cons.mpr ⟨zm_142, (List.forall_mem_cons.mpr ⟨zm_144, (List.forall_mem_cons.mpr ⟨zm_146, (List.forall_mem_cons.mpr ⟨zm_148, (List.forall_mem_cons.mpr ⟨zm_150, (List.forall_mem_cons.mpr ⟨zm_152, (List.forall_mem_cons.mpr ⟨zm_154, (List.forall_mem_cons.mpr ⟨zm_156, (fun w h => absurd h List.not_mem_nil)⟩)⟩)⟩)⟩)⟩)⟩)⟩)⟩)
theorem zdf_6 {G : zeG} : ∀ j, j < 8 → vp_V (zeFs G (fun _ => none) (fun _ => 0) 0 (zeFL 6)) j = defaultValue (zeY6 j) := by
  intro j hj
  match j, hj with
  | 0, _ => rfl
  | 1, _ => rfl
  | 2, _ => rfl
  | 3, _ => rfl
  | 4, _ => rfl
  | 5, _ => rfl
  | 6, _ => rfl
  | 7, _ => rfl
  | j + 8, h => exact absurd h (by omega)
theorem zk_6 : zeCl[6]? = some ("WagerQuiz$State", zeT6, 8) ∧ (∀ w ∈ u_ws "WagerQuiz$State" zeT6 8, w ∈ zeBT) ∧ (∀ k, k < 8 → parseFieldDescriptor (zeT6 k).2.2.1 = some (zeY6 k)) ∧ (∀ a, a < 8 → ∀ b, b < 8 → a ≠ b → (zeT6 a).2.1 ≠ (zeT6 b).2.1) ∧ (zeFL 6).length = 8 := ⟨zc_6, zin_6, zeYok6, zeNm6, rfl⟩
theorem zc_7 : zeCl[7]? = some ("WagerQuiz", zeT7, 8) := rfl
theorem zin_7 : ∀ w ∈ u_ws "WagerQuiz" zeT7 8, w ∈ zeBT := by
  have h : u_ws "WagerQuiz" zeT7 8 = [.laysFinal "WagerQuiz" "WagerQuiz" "now" "LWagerQuiz$State;", .laysFinal "WagerQuiz" "WagerQuiz" "replay" "LWagerQuiz$Replay;", .laysFinal "WagerQuiz" "WagerQuiz" "history" "LWagerQuiz$History;", .laysFinal "WagerQuiz" "WagerQuiz" "slots" "[LWagerQuiz$State;", .laysFinal "WagerQuiz" "WagerQuiz" "slotTaken" "[Z", .laysFinal "WagerQuiz" "WagerQuiz" "script" "LWagerQuiz$Script;", .laysFinal "WagerQuiz" "WagerQuiz" "message" "LWagerQuiz$Message;", .lays "WagerQuiz" "WagerQuiz" "reason" "I"] := by decide +kernel
  rw [h]
  exact (List.forall_mem_cons.mpr ⟨zm_265, (List.forall_mem_cons.mpr ⟨zm_267, (List.forall_mem_cons.mpr ⟨zm_269, (List.forall_mem_cons.mpr ⟨zm_271, (List.forall_mem_cons.mpr ⟨zm_273, (List.forall_mem_cons.mpr ⟨zm_275, (List.forall_mem_cons.mpr ⟨zm_277, (List.forall_mem_cons.mpr ⟨zm_279, (fun w h => absurd h List.not_mem_nil)⟩)⟩)⟩)⟩)⟩)⟩)⟩)⟩)
theorem zdf_7 {G : zeG} : ∀ j, j < 8 → vp_V (zeFs G (fun _ => none) (fun _ => 0) 0 (zeFL 7)) j = defaultValue (zeY7 j) := by
  intro j hj
  match j, hj with
  | 0, _ => rfl
  | 1, _ => rfl
  | 2, _ => rfl
  | 3, _ => rfl
  | 4, _ => rfl
  | 5, _ => rfl
  | 6, _ => rfl
  | 7, _ => rfl
  | j + 8, h => exact absurd h (by omega)
theorem zk_7 : zeCl[7]? = some ("WagerQuiz", zeT7, 8) ∧ (∀ w ∈ u_ws "WagerQuiz" zeT7 8, w ∈ zeBT) ∧ (∀ k, k < 8 → parseFieldDescriptor (zeT7 k).2.2.1 = some (zeY7 k)) ∧ (∀ a, a < 8 → ∀ b, b < 8 → a ≠ b → (zeT7 a).2.1 ≠ (zeT7 b).2.1) ∧ (zeFL 7).length = 8 := ⟨zc_7, zin_7, zeYok7, zeNm7, rfl⟩
theorem zc_8 : zeCl[8]? = some ("WagerQuizModel", zeT8, 22) := rfl
theorem zin_8 : ∀ w ∈ u_ws "WagerQuizModel" zeT8 22, w ∈ zeBT := by
  have h : u_ws "WagerQuizModel" zeT8 22 = [.laysFinal "WagerQuizModel" "WagerQuizModel" "now" "[I", .laysFinal "WagerQuizModel" "WagerQuizModel" "history" "[I", .lays "WagerQuizModel" "WagerQuizModel" "kept" "I", .laysFinal "WagerQuizModel" "WagerQuizModel" "slots" "[I", .laysFinal "WagerQuizModel" "WagerQuizModel" "isFilled" "[Z", .lays "WagerQuizModel" "WagerQuizModel" "reason" "I", .laysFinal "WagerQuizModel" "WagerQuizModel" "score" "[I", .laysFinal "WagerQuizModel" "WagerQuizModel" "amount" "[I", .laysFinal "WagerQuizModel" "WagerQuizModel" "isVoid" "[Z", .laysFinal "WagerQuizModel" "WagerQuizModel" "after" "[I", .laysFinal "WagerQuizModel" "WagerQuizModel" "rights" "[I", .laysFinal "WagerQuizModel" "WagerQuizModel" "wrongs" "[I", .laysFinal "WagerQuizModel" "WagerQuizModel" "corrections" "[I", .lays "WagerQuizModel" "WagerQuizModel" "control" "I", .laysFinal "WagerQuizModel" "WagerQuizModel" "waits" "[I", .laysFinal "WagerQuizModel" "WagerQuizModel" "before" "[I", .lays "WagerQuizModel" "WagerQuizModel" "typed" "I", .laysFinal "WagerQuizModel" "WagerQuizModel" "text" "[C", .lays "WagerQuizModel" "WagerQuizModel" "moves" "I", .laysFinal "WagerQuizModel" "WagerQuizModel" "moveOf" "[I", .lays "WagerQuizModel" "WagerQuizModel" "written" "I", .laysFinal "WagerQuizModel" "WagerQuizModel" "message" "[I"] := by decide +kernel
  rw [h]
  exact (List.forall_mem_cons.mpr ⟨zm_837, (List.forall_mem_cons.mpr ⟨zm_839, (List.forall_mem_cons.mpr ⟨zm_841, (List.forall_mem_cons.mpr ⟨zm_843, (List.forall_mem_cons.mpr ⟨zm_845, (List.forall_mem_cons.mpr ⟨zm_847, (List.forall_mem_cons.mpr ⟨zm_849, (List.forall_mem_cons.mpr ⟨zm_851, (List.forall_mem_cons.mpr ⟨zm_853, (List.forall_mem_cons.mpr ⟨zm_855, (List.forall_mem_cons.mpr ⟨zm_857, (List.forall_mem_cons.mpr ⟨zm_859, (List.forall_mem_cons.mpr ⟨zm_861, (List.forall_mem_cons.mpr ⟨zm_863, (List.forall_mem_cons.mpr ⟨zm_865, (List.forall_mem_cons.mpr ⟨zm_867, (List.forall_mem_cons.mpr ⟨zm_869, (List.forall_mem_cons.mpr ⟨zm_871, (List.forall_mem_cons.mpr ⟨zm_873, (List.forall_mem_cons.mpr ⟨zm_875, (List.forall_mem_cons.mpr ⟨zm_877, (List.forall_mem_cons.mpr ⟨zm_879, (fun w h => absurd h List.not_mem_nil)⟩)⟩)⟩)⟩)⟩)⟩)⟩)⟩)⟩)⟩)⟩)⟩)⟩)⟩)⟩)⟩)⟩)⟩)⟩)⟩)⟩)⟩)
theorem zdf_8 {G : zeG} : ∀ j, j < 22 → vp_V (zeFs G (fun _ => none) (fun _ => 0) 0 (zeFL 8)) j = defaultValue (zeY8 j) := by
  intro j hj
  match j, hj with
  | 0, _ => rfl
  | 1, _ => rfl
  | 2, _ => rfl
  | 3, _ => rfl
  | 4, _ => rfl
  | 5, _ => rfl
  | 6, _ => rfl
  | 7, _ => rfl
  | 8, _ => rfl
  | 9, _ => rfl
  | 10, _ => rfl
  | 11, _ => rfl
  | 12, _ => rfl
  | 13, _ => rfl
  | 14, _ => rfl
  | 15, _ => rfl
  | 16, _ => rfl
  | 17, _ => rfl
  | 18, _ => rfl
  | 19, _ => rfl
  | 20, _ => rfl
  | 21, _ => rfl
  | j + 22, h => exact absurd h (by omega)
theorem zk_8 : zeCl[8]? = some ("WagerQuizModel", zeT8, 22) ∧ (∀ w ∈ u_ws "WagerQuizModel" zeT8 22, w ∈ zeBT) ∧ (∀ k, k < 22 → parseFieldDescriptor (zeT8 k).2.2.1 = some (zeY8 k)) ∧ (∀ a, a < 22 → ∀ b, b < 22 → a ≠ b → (zeT8 a).2.1 ≠ (zeT8 b).2.1) ∧ (zeFL 8).length = 22 := ⟨zc_8, zin_8, zeYok8, zeNm8, rfl⟩
theorem zc_9 : zeCl[9]? = some ("WagerQuiz$Message", zeT9, 2) := rfl
theorem zin_9 : ∀ w ∈ u_ws "WagerQuiz$Message" zeT9 2, w ∈ zeBT := by
  have h : u_ws "WagerQuiz$Message" zeT9 2 = [.lays "WagerQuiz$Message" "WagerQuiz$Message" "length" "I", .laysFinal "WagerQuiz$Message" "WagerQuiz$Message" "signs" "[C"] := by decide +kernel
  rw [h]
  exact (List.forall_mem_cons.mpr ⟨zm_252, (List.forall_mem_cons.mpr ⟨zm_254, (fun w h => absurd h List.not_mem_nil)⟩)⟩)
theorem zdf_9 {G : zeG} : ∀ j, j < 2 → vp_V (zeFs G (fun _ => none) (fun _ => 0) 0 (zeFL 9)) j = defaultValue (zeY9 j) := by
  intro j hj
  match j, hj with
  | 0, _ => rfl
  | 1, _ => rfl
  | j + 2, h => exact absurd h (by omega)
theorem zk_9 : zeCl[9]? = some ("WagerQuiz$Message", zeT9, 2) ∧ (∀ w ∈ u_ws "WagerQuiz$Message" zeT9 2, w ∈ zeBT) ∧ (∀ k, k < 2 → parseFieldDescriptor (zeT9 k).2.2.1 = some (zeY9 k)) ∧ (∀ a, a < 2 → ∀ b, b < 2 → a ≠ b → (zeT9 a).2.1 ≠ (zeT9 b).2.1) ∧ (zeFL 9).length = 2 := ⟨zc_9, zin_9, zeYok9, zeNm9, rfl⟩
theorem zm_objcode : Cond.code Lib.objectInit ⟨#[0xb1]⟩ 1 none ∈ zeBT := zeBT_of (k := 25) (by decide +kernel) rfl
theorem zm_mmaxcode : Cond.code Lib.Math.max.name Lib.Math.max.code 2 (some .int) ∈ zeBT := zeBT_of (k := 422) (by decide +kernel) rfl
theorem zm_mmincode : Cond.code Lib.Math.min.name Lib.Math.min.code 2 (some .int) ∈ zeBT := zeBT_of (k := 514) (by decide +kernel) rfl
theorem zm_mabscode : Cond.code Lib.Math.abs.name Lib.Math.abs.code 1 (some .int) ∈ zeBT := zeBT_of (k := 804) (by decide +kernel) rfl
