set_option maxRecDepth 20000 in
theorem m_623 : Cond.fieldLink R_M 29 R_M "sums" "[I" ∈ wA := in_wA (List.mem_of_getElem? (i := 623) rfl) rfl
set_option maxRecDepth 20000 in
theorem m_608 : Cond.fieldLink R_M 7 R_M "widths" "[I" ∈ wA := in_wA (List.mem_of_getElem? (i := 608) rfl) rfl
set_option maxRecDepth 20000 in
theorem m_602 : Cond.code y_M_most b_M_most 5 (some .int) ∈ wA := in_wA (List.mem_of_getElem? (i := 602) rfl) rfl
set_option maxRecDepth 20000 in
theorem m_599 : Cond.methodLink R_M 58 y_M_most ∈ wA := in_wA (List.mem_of_getElem? (i := 599) rfl) rfl
set_option maxRecDepth 20000 in
theorem m_601 : Cond.instanceMethod y_M_most ∈ wA := in_wA (List.mem_of_getElem? (i := 601) rfl) rfl
set_option maxRecDepth 20000 in
theorem m_14 : Cond.selects R_M y_M_most y_M_most ∈ wA := in_wA (List.mem_of_getElem? (i := 14) rfl) rfl
set_option maxRecDepth 20000 in
theorem m_622 : Cond.fieldLink R_M 25 R_M "used" "[Z" ∈ wA := in_wA (List.mem_of_getElem? (i := 622) rfl) rfl
set_option maxRecDepth 20000 in
theorem m_611 : Cond.fieldLink R_M 19 R_M "columns" "[I" ∈ wA := in_wA (List.mem_of_getElem? (i := 611) rfl) rfl
set_option maxRecDepth 20000 in
theorem m_598 : Cond.code y_M_weight b_M_weight 4 (some .int) ∈ wA := in_wA (List.mem_of_getElem? (i := 598) rfl) rfl
set_option maxRecDepth 20000 in
theorem m_596 : Cond.methodLink R_M 54 y_M_weight ∈ wA := in_wA (List.mem_of_getElem? (i := 596) rfl) rfl
set_option maxRecDepth 20000 in
theorem m_597 : Cond.static y_M_weight ∈ wA := in_wA (List.mem_of_getElem? (i := 597) rfl) rfl
set_option maxRecDepth 20000 in
theorem m_609 : Cond.fieldLink R_M 13 R_M "checks" "[I" ∈ wA := in_wA (List.mem_of_getElem? (i := 609) rfl) rfl
abbrev w_M_choose : List Cond := .code y_M_choose b_M_choose 9 none :: wA
abbrev rm_M_choose : Room := { frames := 1, cells := 0, slots := 0, locals := 24 }
theorem d_M_choose_0 : decode b_M_choose 0 = .ok (.iconst 4, 1) := by decide +kernel
theorem d_M_choose_1 : decode b_M_choose 1 = .ok (.istore_n 2, 1) := by decide +kernel
theorem d_M_choose_2 : decode b_M_choose 2 = .ok (.iconst 1, 1) := by decide +kernel
theorem d_M_choose_3 : decode b_M_choose 3 = .ok (.iload_n 2, 1) := by decide +kernel
theorem d_M_choose_4 : decode b_M_choose 4 = .ok (.iconst 1, 1) := by decide +kernel
theorem d_M_choose_5 : decode b_M_choose 5 = .ok (.isub, 1) := by decide +kernel
theorem d_M_choose_6 : decode b_M_choose 6 = .ok (.ishl, 1) := by decide +kernel
theorem d_M_choose_7 : decode b_M_choose 7 = .ok (.iload_n 2, 1) := by decide +kernel
theorem d_M_choose_8 : decode b_M_choose 8 = .ok (.isub, 1) := by decide +kernel
theorem d_M_choose_9 : decode b_M_choose 9 = .ok (.aload_n 0, 1) := by decide +kernel
theorem d_M_choose_10 : decode b_M_choose 10 = .ok (.getfield 7, 3) := by decide +kernel
theorem d_M_choose_13 : decode b_M_choose 13 = .ok (.iload_n 1, 1) := by decide +kernel
theorem d_M_choose_14 : decode b_M_choose 14 = .ok (.iaload, 1) := by decide +kernel
theorem d_M_choose_15 : decode b_M_choose 15 = .ok (.if_icmp .ge 9, 3) := by decide +kernel
theorem d_M_choose_18 : decode b_M_choose 18 = .ok (.iinc 2 1, 3) := by decide +kernel
theorem d_M_choose_21 : decode b_M_choose 21 = .ok (.goto (-19), 3) := by decide +kernel
theorem d_M_choose_24 : decode b_M_choose 24 = .ok (.aload_n 0, 1) := by decide +kernel
theorem d_M_choose_25 : decode b_M_choose 25 = .ok (.getfield 13, 3) := by decide +kernel
theorem d_M_choose_28 : decode b_M_choose 28 = .ok (.iload_n 1, 1) := by decide +kernel
theorem d_M_choose_29 : decode b_M_choose 29 = .ok (.iload_n 2, 1) := by decide +kernel
theorem d_M_choose_30 : decode b_M_choose 30 = .ok (.iastore, 1) := by decide +kernel
theorem d_M_choose_31 : decode b_M_choose 31 = .ok (.iconst 0, 1) := by decide +kernel
theorem d_M_choose_32 : decode b_M_choose 32 = .ok (.istore_n 3, 1) := by decide +kernel
theorem d_M_choose_33 : decode b_M_choose 33 = .ok (.iload_n 3, 1) := by decide +kernel
theorem d_M_choose_34 : decode b_M_choose 34 = .ok (.sipush 128, 3) := by decide +kernel
theorem d_M_choose_37 : decode b_M_choose 37 = .ok (.if_icmp .ge 16, 3) := by decide +kernel
theorem d_M_choose_40 : decode b_M_choose 40 = .ok (.aload_n 0, 1) := by decide +kernel
theorem d_M_choose_41 : decode b_M_choose 41 = .ok (.getfield 25, 3) := by decide +kernel
theorem d_M_choose_44 : decode b_M_choose 44 = .ok (.iload_n 3, 1) := by decide +kernel
theorem d_M_choose_45 : decode b_M_choose 45 = .ok (.iconst 0, 1) := by decide +kernel
theorem d_M_choose_46 : decode b_M_choose 46 = .ok (.bastore, 1) := by decide +kernel
theorem d_M_choose_47 : decode b_M_choose 47 = .ok (.iinc 3 1, 3) := by decide +kernel
theorem d_M_choose_50 : decode b_M_choose 50 = .ok (.goto (-17), 3) := by decide +kernel
theorem d_M_choose_53 : decode b_M_choose 53 = .ok (.iconst 0, 1) := by decide +kernel
theorem d_M_choose_54 : decode b_M_choose 54 = .ok (.istore_n 3, 1) := by decide +kernel
theorem d_M_choose_55 : decode b_M_choose 55 = .ok (.iload_n 3, 1) := by decide +kernel
theorem d_M_choose_56 : decode b_M_choose 56 = .ok (.bipush 7, 2) := by decide +kernel
theorem d_M_choose_58 : decode b_M_choose 58 = .ok (.if_icmp .ge 16, 3) := by decide +kernel
theorem d_M_choose_61 : decode b_M_choose 61 = .ok (.aload_n 0, 1) := by decide +kernel
theorem d_M_choose_62 : decode b_M_choose 62 = .ok (.getfield 29, 3) := by decide +kernel
theorem d_M_choose_65 : decode b_M_choose 65 = .ok (.iload_n 3, 1) := by decide +kernel
theorem d_M_choose_66 : decode b_M_choose 66 = .ok (.iconst 0, 1) := by decide +kernel
theorem d_M_choose_67 : decode b_M_choose 67 = .ok (.iastore, 1) := by decide +kernel
theorem d_M_choose_68 : decode b_M_choose 68 = .ok (.iinc 3 1, 3) := by decide +kernel
theorem d_M_choose_71 : decode b_M_choose 71 = .ok (.goto (-16), 3) := by decide +kernel
theorem d_M_choose_74 : decode b_M_choose 74 = .ok (.iconst 0, 1) := by decide +kernel
theorem d_M_choose_75 : decode b_M_choose 75 = .ok (.istore_n 3, 1) := by decide +kernel
theorem d_M_choose_76 : decode b_M_choose 76 = .ok (.iload_n 3, 1) := by decide +kernel
theorem d_M_choose_77 : decode b_M_choose 77 = .ok (.aload_n 0, 1) := by decide +kernel
theorem d_M_choose_78 : decode b_M_choose 78 = .ok (.getfield 7, 3) := by decide +kernel
theorem d_M_choose_81 : decode b_M_choose 81 = .ok (.iload_n 1, 1) := by decide +kernel
theorem d_M_choose_82 : decode b_M_choose 82 = .ok (.iaload, 1) := by decide +kernel
theorem d_M_choose_83 : decode b_M_choose 83 = .ok (.if_icmp .ge 190, 3) := by decide +kernel
theorem d_M_choose_86 : decode b_M_choose 86 = .ok (.iconst 0, 1) := by decide +kernel
theorem d_M_choose_87 : decode b_M_choose 87 = .ok (.istore 4, 2) := by decide +kernel
theorem d_M_choose_89 : decode b_M_choose 89 = .ok (.iconst 1, 1) := by decide +kernel
theorem d_M_choose_90 : decode b_M_choose 90 = .ok (.istore 5, 2) := by decide +kernel
theorem d_M_choose_92 : decode b_M_choose 92 = .ok (.iload 5, 2) := by decide +kernel
theorem d_M_choose_94 : decode b_M_choose 94 = .ok (.iconst 1, 1) := by decide +kernel
theorem d_M_choose_95 : decode b_M_choose 95 = .ok (.iload_n 2, 1) := by decide +kernel
theorem d_M_choose_96 : decode b_M_choose 96 = .ok (.ishl, 1) := by decide +kernel
theorem d_M_choose_97 : decode b_M_choose 97 = .ok (.if_icmp .ge 116, 3) := by decide +kernel
theorem d_M_choose_100 : decode b_M_choose 100 = .ok (.iload 5, 2) := by decide +kernel
theorem d_M_choose_102 : decode b_M_choose 102 = .ok (.i2l, 1) := by decide +kernel
theorem d_M_choose_103 : decode b_M_choose 103 = .ok (.invokestatic 54, 3) := by decide +kernel
theorem d_M_choose_106 : decode b_M_choose 106 = .ok (.istore 6, 2) := by decide +kernel
theorem d_M_choose_108 : decode b_M_choose 108 = .ok (.aload_n 0, 1) := by decide +kernel
theorem d_M_choose_109 : decode b_M_choose 109 = .ok (.getfield 25, 3) := by decide +kernel
theorem d_M_choose_112 : decode b_M_choose 112 = .ok (.iload 5, 2) := by decide +kernel
theorem d_M_choose_114 : decode b_M_choose 114 = .ok (.baload, 1) := by decide +kernel
theorem d_M_choose_115 : decode b_M_choose 115 = .ok (.ifCond .ne 21, 3) := by decide +kernel
theorem d_M_choose_118 : decode b_M_choose 118 = .ok (.iload 6, 2) := by decide +kernel
theorem d_M_choose_120 : decode b_M_choose 120 = .ok (.iconst 2, 1) := by decide +kernel
theorem d_M_choose_121 : decode b_M_choose 121 = .ok (.if_icmp .le 15, 3) := by decide +kernel
theorem d_M_choose_124 : decode b_M_choose 124 = .ok (.iload 6, 2) := by decide +kernel
theorem d_M_choose_126 : decode b_M_choose 126 = .ok (.iconst 2, 1) := by decide +kernel
theorem d_M_choose_127 : decode b_M_choose 127 = .ok (.irem, 1) := by decide +kernel
theorem d_M_choose_128 : decode b_M_choose 128 = .ok (.iconst 1, 1) := by decide +kernel
theorem d_M_choose_129 : decode b_M_choose 129 = .ok (.if_icmp .ne 7, 3) := by decide +kernel
theorem d_M_choose_132 : decode b_M_choose 132 = .ok (.iconst 1, 1) := by decide +kernel
theorem d_M_choose_133 : decode b_M_choose 133 = .ok (.goto 4, 3) := by decide +kernel
theorem d_M_choose_136 : decode b_M_choose 136 = .ok (.iconst 0, 1) := by decide +kernel
theorem d_M_choose_137 : decode b_M_choose 137 = .ok (.istore 7, 2) := by decide +kernel
theorem d_M_choose_139 : decode b_M_choose 139 = .ok (.iload 7, 2) := by decide +kernel
theorem d_M_choose_141 : decode b_M_choose 141 = .ok (.ifCond .eq 49, 3) := by decide +kernel
theorem d_M_choose_144 : decode b_M_choose 144 = .ok (.iload 4, 2) := by decide +kernel
theorem d_M_choose_146 : decode b_M_choose 146 = .ok (.ifCond .eq 40, 3) := by decide +kernel
theorem d_M_choose_149 : decode b_M_choose 149 = .ok (.iload 6, 2) := by decide +kernel
theorem d_M_choose_151 : decode b_M_choose 151 = .ok (.iload 4, 2) := by decide +kernel
theorem d_M_choose_153 : decode b_M_choose 153 = .ok (.i2l, 1) := by decide +kernel
theorem d_M_choose_154 : decode b_M_choose 154 = .ok (.invokestatic 54, 3) := by decide +kernel
theorem d_M_choose_157 : decode b_M_choose 157 = .ok (.if_icmp .lt 29, 3) := by decide +kernel
theorem d_M_choose_160 : decode b_M_choose 160 = .ok (.iload 6, 2) := by decide +kernel
theorem d_M_choose_162 : decode b_M_choose 162 = .ok (.iload 4, 2) := by decide +kernel
theorem d_M_choose_164 : decode b_M_choose 164 = .ok (.i2l, 1) := by decide +kernel
theorem d_M_choose_165 : decode b_M_choose 165 = .ok (.invokestatic 54, 3) := by decide +kernel
theorem d_M_choose_168 : decode b_M_choose 168 = .ok (.if_icmp .ne 22, 3) := by decide +kernel
theorem d_M_choose_171 : decode b_M_choose 171 = .ok (.aload_n 0, 1) := by decide +kernel
theorem d_M_choose_172 : decode b_M_choose 172 = .ok (.iload 5, 2) := by decide +kernel
theorem d_M_choose_174 : decode b_M_choose 174 = .ok (.invokevirtual 58, 3) := by decide +kernel
theorem d_M_choose_177 : decode b_M_choose 177 = .ok (.aload_n 0, 1) := by decide +kernel
theorem d_M_choose_178 : decode b_M_choose 178 = .ok (.iload 4, 2) := by decide +kernel
theorem d_M_choose_180 : decode b_M_choose 180 = .ok (.invokevirtual 58, 3) := by decide +kernel
theorem d_M_choose_183 : decode b_M_choose 183 = .ok (.if_icmp .ge 7, 3) := by decide +kernel
theorem d_M_choose_186 : decode b_M_choose 186 = .ok (.iconst 1, 1) := by decide +kernel
theorem d_M_choose_187 : decode b_M_choose 187 = .ok (.goto 4, 3) := by decide +kernel
theorem d_M_choose_190 : decode b_M_choose 190 = .ok (.iconst 0, 1) := by decide +kernel
theorem d_M_choose_191 : decode b_M_choose 191 = .ok (.istore 8, 2) := by decide +kernel
theorem d_M_choose_193 : decode b_M_choose 193 = .ok (.iload 8, 2) := by decide +kernel
theorem d_M_choose_195 : decode b_M_choose 195 = .ok (.ifCond .eq 8, 3) := by decide +kernel
theorem d_M_choose_198 : decode b_M_choose 198 = .ok (.iload 5, 2) := by decide +kernel
theorem d_M_choose_200 : decode b_M_choose 200 = .ok (.goto 5, 3) := by decide +kernel
theorem d_M_choose_203 : decode b_M_choose 203 = .ok (.iload 4, 2) := by decide +kernel
theorem d_M_choose_205 : decode b_M_choose 205 = .ok (.istore 4, 2) := by decide +kernel
theorem d_M_choose_207 : decode b_M_choose 207 = .ok (.iinc 5 1, 3) := by decide +kernel
theorem d_M_choose_210 : decode b_M_choose 210 = .ok (.goto (-118), 3) := by decide +kernel
theorem d_M_choose_213 : decode b_M_choose 213 = .ok (.aload_n 0, 1) := by decide +kernel
theorem d_M_choose_214 : decode b_M_choose 214 = .ok (.getfield 25, 3) := by decide +kernel
theorem d_M_choose_217 : decode b_M_choose 217 = .ok (.iload 4, 2) := by decide +kernel
theorem d_M_choose_219 : decode b_M_choose 219 = .ok (.iconst 1, 1) := by decide +kernel
theorem d_M_choose_220 : decode b_M_choose 220 = .ok (.bastore, 1) := by decide +kernel
theorem d_M_choose_221 : decode b_M_choose 221 = .ok (.aload_n 0, 1) := by decide +kernel
theorem d_M_choose_222 : decode b_M_choose 222 = .ok (.getfield 19, 3) := by decide +kernel
theorem d_M_choose_225 : decode b_M_choose 225 = .ok (.bipush 57, 2) := by decide +kernel
theorem d_M_choose_227 : decode b_M_choose 227 = .ok (.iload_n 1, 1) := by decide +kernel
theorem d_M_choose_228 : decode b_M_choose 228 = .ok (.imul, 1) := by decide +kernel
theorem d_M_choose_229 : decode b_M_choose 229 = .ok (.iload_n 3, 1) := by decide +kernel
theorem d_M_choose_230 : decode b_M_choose 230 = .ok (.iadd, 1) := by decide +kernel
theorem d_M_choose_231 : decode b_M_choose 231 = .ok (.iload 4, 2) := by decide +kernel
theorem d_M_choose_233 : decode b_M_choose 233 = .ok (.iastore, 1) := by decide +kernel
theorem d_M_choose_234 : decode b_M_choose 234 = .ok (.iconst 0, 1) := by decide +kernel
theorem d_M_choose_235 : decode b_M_choose 235 = .ok (.istore 5, 2) := by decide +kernel
theorem d_M_choose_237 : decode b_M_choose 237 = .ok (.iload 5, 2) := by decide +kernel
theorem d_M_choose_239 : decode b_M_choose 239 = .ok (.bipush 7, 2) := by decide +kernel
theorem d_M_choose_241 : decode b_M_choose 241 = .ok (.if_icmp .ge 26, 3) := by decide +kernel
theorem d_M_choose_244 : decode b_M_choose 244 = .ok (.aload_n 0, 1) := by decide +kernel
theorem d_M_choose_245 : decode b_M_choose 245 = .ok (.getfield 29, 3) := by decide +kernel
theorem d_M_choose_248 : decode b_M_choose 248 = .ok (.iload 5, 2) := by decide +kernel
theorem d_M_choose_250 : decode b_M_choose 250 = .ok (.dup2, 1) := by decide +kernel
theorem d_M_choose_251 : decode b_M_choose 251 = .ok (.iaload, 1) := by decide +kernel
theorem d_M_choose_252 : decode b_M_choose 252 = .ok (.iload 4, 2) := by decide +kernel
theorem d_M_choose_254 : decode b_M_choose 254 = .ok (.iload 5, 2) := by decide +kernel
theorem d_M_choose_256 : decode b_M_choose 256 = .ok (.ishr, 1) := by decide +kernel
theorem d_M_choose_257 : decode b_M_choose 257 = .ok (.iconst 1, 1) := by decide +kernel
theorem d_M_choose_258 : decode b_M_choose 258 = .ok (.iand, 1) := by decide +kernel
theorem d_M_choose_259 : decode b_M_choose 259 = .ok (.iadd, 1) := by decide +kernel
theorem d_M_choose_260 : decode b_M_choose 260 = .ok (.iastore, 1) := by decide +kernel
theorem d_M_choose_261 : decode b_M_choose 261 = .ok (.iinc 5 1, 3) := by decide +kernel
theorem d_M_choose_264 : decode b_M_choose 264 = .ok (.goto (-27), 3) := by decide +kernel
theorem d_M_choose_267 : decode b_M_choose 267 = .ok (.iinc 3 1, 3) := by decide +kernel
theorem d_M_choose_270 : decode b_M_choose 270 = .ok (.goto (-194), 3) := by decide +kernel
theorem d_M_choose_273 : decode b_M_choose 273 = .ok (.aload_n 0, 1) := by decide +kernel
theorem d_M_choose_274 : decode b_M_choose 274 = .ok (.aload_n 0, 1) := by decide +kernel
theorem d_M_choose_275 : decode b_M_choose 275 = .ok (.iconst 0, 1) := by decide +kernel
theorem d_M_choose_276 : decode b_M_choose 276 = .ok (.invokevirtual 58, 3) := by decide +kernel
theorem d_M_choose_279 : decode b_M_choose 279 = .ok (.aload_n 0, 1) := by decide +kernel
theorem d_M_choose_280 : decode b_M_choose 280 = .ok (.getfield 62, 3) := by decide +kernel
theorem d_M_choose_283 : decode b_M_choose 283 = .ok (.if_icmp .le 11, 3) := by decide +kernel
theorem d_M_choose_286 : decode b_M_choose 286 = .ok (.aload_n 0, 1) := by decide +kernel
theorem d_M_choose_287 : decode b_M_choose 287 = .ok (.iconst 0, 1) := by decide +kernel
theorem d_M_choose_288 : decode b_M_choose 288 = .ok (.invokevirtual 58, 3) := by decide +kernel
theorem d_M_choose_291 : decode b_M_choose 291 = .ok (.goto 7, 3) := by decide +kernel
theorem d_M_choose_294 : decode b_M_choose 294 = .ok (.aload_n 0, 1) := by decide +kernel
theorem d_M_choose_295 : decode b_M_choose 295 = .ok (.getfield 62, 3) := by decide +kernel
theorem d_M_choose_298 : decode b_M_choose 298 = .ok (.putfield 62, 3) := by decide +kernel
theorem d_M_choose_301 : decode b_M_choose 301 = .ok (.return_, 1) := by decide +kernel
set_option maxHeartbeats 4000000 in
set_option maxRecDepth 100000 in
theorem c_M_most (l : Launch) (D : va_G) (g : Nat → ClassId) (sz : Nat) (wm : va_W) (mo wi ck fq co sq uq gq kd M n0 rr gt : Nat) (fw fc ff fco fsq fu fg : Nat → Int32) (c0 : Nat) (hc0 : c0 < 128) (sf : Nat → Nat) (hsf : ∀ k, k < 7 → fg k = nI (sf k) ∧ sf k < 2 ^ 20) : Met l y_M_most w_M_most rm_M_most (va_Pc [.ref mo, .int (nI c0)] (pP D (tyl g) ((mo, .inr (6, [.int (nI 0), .int (nI M), .int (nI kd), .int (nI rr), .int (nI n0), .ref wi, .ref ck, .ref fq, .ref co, .int (nI gt), .int (nI 0), .int (nI 0), .long (lN 0), .int (nI 0), .int (nI 0), .long (lN 0), .int (nI 0), .int (nI 0), .ref sq, .ref uq, .ref gq])) :: (wi, .inl (g 0, 4, .inl (fw))) :: (ck, .inl (g 0, 4, .inl (fc))) :: (fq, .inl (g 0, 4, .inl (ff))) :: (co, .inl (g 0, 228, .inl (fco))) :: (sq, .inl (g 0, 8, .inl (fsq))) :: (uq, .inl (g 2, 128, .inl (fu))) :: (gq, .inl (g 0, 7, .inl (fg))) :: wm) sz)) (va_Qi (fun (r : Int32) (u : Unit) => r = nI (gs sf c0 7)) (fun u => qB D (va_A ((mo, .inr (6, [.int (nI 0), .int (nI M), .int (nI kd), .int (nI rr), .int (nI n0), .ref wi, .ref ck, .ref fq, .ref co, .int (nI gt), .int (nI 0), .int (nI 0), .long (lN 0), .int (nI 0), .int (nI 0), .long (lN 0), .int (nI 0), .int (nI 0), .ref sq, .ref uq, .ref gq])) :: (wi, .inl (g 0, 4, .inl (fw))) :: (ck, .inl (g 0, 4, .inl (fc))) :: (fq, .inl (g 0, 4, .inl (ff))) :: (co, .inl (g 0, 228, .inl (fco))) :: (sq, .inl (g 0, 8, .inl (fsq))) :: (uq, .inl (g 2, 128, .inl (fu))) :: (gq, .inl (g 0, 7, .inl (fg))) :: wm) sz) ((mo, .inr (6, [.int (nI 0), .int (nI M), .int (nI kd), .int (nI rr), .int (nI n0), .ref wi, .ref ck, .ref fq, .ref co, .int (nI gt), .int (nI 0), .int (nI 0), .long (lN 0), .int (nI 0), .int (nI 0), .long (lN 0), .int (nI 0), .int (nI 0), .ref sq, .ref uq, .ref gq])) :: (wi, .inl (g 0, 4, .inl (fw))) :: (ck, .inl (g 0, 4, .inl (fc))) :: (fq, .inl (g 0, 4, .inl (ff))) :: (co, .inl (g 0, 228, .inl (fco))) :: (sq, .inl (g 0, 8, .inl (fsq))) :: (uq, .inl (g 2, 128, .inl (fu))) :: (gq, .inl (g 0, 7, .inl (fg))) :: wm)) (va_A ((mo, .inr (6, [.int (nI 0), .int (nI M), .int (nI kd), .int (nI rr), .int (nI n0), .ref wi, .ref ck, .ref fq, .ref co, .int (nI gt), .int (nI 0), .int (nI 0), .long (lN 0), .int (nI 0), .int (nI 0), .long (lN 0), .int (nI 0), .int (nI 0), .ref sq, .ref uq, .ref gq])) :: (wi, .inl (g 0, 4, .inl (fw))) :: (ck, .inl (g 0, 4, .inl (fc))) :: (fq, .inl (g 0, 4, .inl (ff))) :: (co, .inl (g 0, 228, .inl (fco))) :: (sq, .inl (g 0, 8, .inl (fsq))) :: (uq, .inl (g 2, 128, .inl (fu))) :: (gq, .inl (g 0, 7, .inl (fg))) :: wm) sz)) 0 0 (va_A ((mo, .inr (6, [.int (nI 0), .int (nI M), .int (nI kd), .int (nI rr), .int (nI n0), .ref wi, .ref ck, .ref fq, .ref co, .int (nI gt), .int (nI 0), .int (nI 0), .long (lN 0), .int (nI 0), .int (nI 0), .long (lN 0), .int (nI 0), .int (nI 0), .ref sq, .ref uq, .ref gq])) :: (wi, .inl (g 0, 4, .inl (fw))) :: (ck, .inl (g 0, 4, .inl (fc))) :: (fq, .inl (g 0, 4, .inl (ff))) :: (co, .inl (g 0, 228, .inl (fco))) :: (sq, .inl (g 0, 8, .inl (fsq))) :: (uq, .inl (g 2, 128, .inl (fu))) :: (gq, .inl (g 0, 7, .inl (fg))) :: wm) sz) := by
  refine Met.ofW (cc := b_M_most) (maxL := 5) (ret := (some .int)) (by decide +kernel) rfl ?_
  intro p e s m args below meth c s₁ Bq hml hv
  have hx := Bq.exec
  have hb := Bq.bytes
  have hr := Bq.returns
  have hts : ∀ w ∈ wA, w.before args s = true := fun w h => atoms_spec (ws := w_M_most) Bq.pre w (List.mem_cons_of_mem _ h)
  have hown : s.vm.findClass R_M = some m.cls := findClass_of_methodNamed Bq.named
  have hlocks := Bq.notSynchronized
  obtain ⟨rfl, hsz, hP, hKK, hD0⟩ := hv
  have hK := hKK.1
  subst hsz
  have hD := hD0.self (sz := s.heap.size)
  generalize hAe : va_A ((mo, .inr (6, [.int (nI 0), .int (nI M), .int (nI kd), .int (nI rr), .int (nI n0), .ref wi, .ref ck, .ref fq, .ref co, .int (nI gt), .int (nI 0), .int (nI 0), .long (lN 0), .int (nI 0), .int (nI 0), .long (lN 0), .int (nI 0), .int (nI 0), .ref sq, .ref uq, .ref gq])) :: (wi, .inl (g 0, 4, .inl (fw))) :: (ck, .inl (g 0, 4, .inl (fc))) :: (fq, .inl (g 0, 4, .inl (ff))) :: (co, .inl (g 0, 228, .inl (fco))) :: (sq, .inl (g 0, 8, .inl (fsq))) :: (uq, .inl (g 2, 128, .inl (fu))) :: (gq, .inl (g 0, 7, .inl (fg))) :: wm) s.heap.size = A at hD ⊢
  have hA : ∀ q : Nat, s.heap.size ≤ q → A q := fun q h => by rw [← hAe]; exact Or.inr h
  have hS : va_S A s.heap s.heap [] := va_S.rf
  have hl := lv_entry ([.ref mo, .int (nI c0)]) (n := 5) (Nat.le_of_ble_eq_true rfl)
  rw [lg_entry_eq]
  generalize (lg_sl ([.ref mo, .int (nI c0)]) ++ List.replicate (5 - (lg_sl ([.ref mo, .int (nI c0)])).length) Slot.unset).toArray = ls at hl ⊢
  have hl : lv_has ls 5 [(0, .ref mo), (1, .int (nI c0))] := hl
  generalize hQ : MQ below (va_Qi (fun (r : Int32) (u : Unit) => r = nI (gs sf c0 7)) (fun u => qB D (A) ((mo, .inr (6, [.int (nI 0), .int (nI M), .int (nI kd), .int (nI rr), .int (nI n0), .ref wi, .ref ck, .ref fq, .ref co, .int (nI gt), .int (nI 0), .int (nI 0), .long (lN 0), .int (nI 0), .int (nI 0), .long (lN 0), .int (nI 0), .int (nI 0), .ref sq, .ref uq, .ref gq])) :: (wi, .inl (g 0, 4, .inl (fw))) :: (ck, .inl (g 0, 4, .inl (fc))) :: (fq, .inl (g 0, 4, .inl (ff))) :: (co, .inl (g 0, 228, .inl (fco))) :: (sq, .inl (g 0, 8, .inl (fsq))) :: (uq, .inl (g 2, 128, .inl (fu))) :: (gq, .inl (g 0, 7, .inl (fg))) :: wm)) (A)) [.ref mo, .int (nI c0)].toArray s 0 0 A = Q
  have lp4 : ∀ (n : Nat) (k : Nat) (ls : Array Slot) (H : Heap) (locs : List Loc), (8 ≤ k + n) → (k ≤ 7) → lv_has ls 5 [(0, .ref mo), (1, .int (nI c0)), (2, .int (nI (gs sf c0 k))), (3, .int (nI k))] → va_P D vwCl ((mo, .inr (6, [.int (nI 0), .int (nI M), .int (nI kd), .int (nI rr), .int (nI n0), .ref wi, .ref ck, .ref fq, .ref co, .int (nI gt), .int (nI 0), .int (nI 0), .long (lN 0), .int (nI 0), .int (nI 0), .long (lN 0), .int (nI 0), .int (nI 0), .ref sq, .ref uq, .ref gq])) :: (wi, .inl (g 0, 4, .inl (fw))) :: (ck, .inl (g 0, 4, .inl (fc))) :: (fq, .inl (g 0, 4, .inl (ff))) :: (co, .inl (g 0, 228, .inl (fco))) :: (sq, .inl (g 0, 8, .inl (fsq))) :: (uq, .inl (g 2, 128, .inl (fu))) :: (gq, .inl (g 0, 7, .inl (fg))) :: wm) H → va_D A ((mo, .inr (6, [.int (nI 0), .int (nI M), .int (nI kd), .int (nI rr), .int (nI n0), .ref wi, .ref ck, .ref fq, .ref co, .int (nI gt), .int (nI 0), .int (nI 0), .long (lN 0), .int (nI 0), .int (nI 0), .long (lN 0), .int (nI 0), .int (nI 0), .ref sq, .ref uq, .ref gq])) :: (wi, .inl (g 0, 4, .inl (fw))) :: (ck, .inl (g 0, 4, .inl (fc))) :: (fq, .inl (g 0, 4, .inl (ff))) :: (co, .inl (g 0, 228, .inl (fco))) :: (sq, .inl (g 0, 8, .inl (fsq))) :: (uq, .inl (g 2, 128, .inl (fu))) :: (gq, .inl (g 0, 7, .inl (fg))) :: wm) → va_S A s.heap H locs → W p l e (headSpec w_M_most rm_M_most).room s m [.ref mo, .int (nI c0)].toArray below meth c H locs 0 0 Q (F0 m 4 ls []) := by
    intro n
    induction n with
    | zero => intro k ls H locs hfu hk _ _ _ _; exact absurd hfu (by omega)
    | succ n ih =>
      intro k ls H locs hfu hk hl hP hD hS
      refine lv_iload_n hx hb d_M_most_4 rfl (lv_at hl 3 rfl) ?_
      refine lv_bipush (v := nI 7) hx hb d_M_most_5 (by decide) ?_
      refine lx_icmp_ge (tgt := 43) hx hb d_M_most_7 (by decide) (by omega) (by omega) (fun c7 => ?_) (fun c7 => ?_)
      · skip
        refine lv_iload_n hx hb d_M_most_43 rfl (lv_at hl 2 rfl) ?_
        rw [← hQ]
        refine W.iret (v := nI (gs sf c0 k)) hx hb hr ?_ hS.2.2 d_M_most_44
        exact fun t ht hW => ⟨⟨nI (gs sf c0 k), (), rfl, (by rw [show k = 7 by omega]), by rw [ht]; exact hP, hD⟩, hS.F ht⟩
      · skip
        obtain ⟨hs1, hs2⟩ := hsf k c7
        have hg9 : gs sf c0 k < 2 ^ 21 := gs_lt (fun j hj => (hsf j (by omega)).2)
        refine lv_aload_n hx hb d_M_most_10 rfl (lv_at hl 0 rfl) ?_
        refine va_get (D := D) (ci := 6) (v := .ref gq) (C := R_M) (T := F_M) (N := 21) hx hb hts i_M hown hK hP 0 rfl rfl 20 (by decide) (hts _ m_623) (fun _ h9 => h9) rfl d_M_most_11 ?_
        refine lv_iload_n hx hb d_M_most_14 rfl (lv_at hl 3 rfl) ?_
        refine lx_iald (v := nI (sf k)) hx hb hK hP 7 0 rfl rfl (j := k) (by omega) (by omega) (hs1) d_M_most_15 ?_
        refine lv_iload_n hx hb d_M_most_16 rfl (lv_at hl 1 rfl) ?_
        refine lv_iload_n hx hb d_M_most_17 rfl (lv_at hl 3 rfl) ?_
        refine lx_ishr (z := nI (c0 >>> k)) hx hb d_M_most_18 (xn_sshr (by omega) (by omega)) ?_
        refine lv_iconst (v := nI 1) hx hb d_M_most_19 (by decide) ?_
        refine lx_iand (z := nI (c0 >>> k % 2)) hx hb d_M_most_20 ((xn_and _ _).trans (by rw [Nat.and_one_is_mod])) ?_
        refine lx_iadd (z := nI (sf k + c0 >>> k % 2)) hx hb d_M_most_21 (nI_add _ _) ?_
        refine lv_istore (lv' := [(4, .int (nI (sf k + c0 >>> k % 2))), (0, .ref mo), (1, .int (nI c0)), (2, .int (nI (gs sf c0 k))), (3, .int (nI k))]) hx hb d_M_most_22 hl (by decide) rfl (fun ls hl => ?_)
        refine lv_iload hx hb d_M_most_24 (lv_at hl 0 rfl) ?_
        refine lv_iload_n hx hb d_M_most_26 rfl (lv_at hl 3 rfl) ?_
        refine lx_icmp_le (tgt := 35) hx hb d_M_most_27 (by decide) (by omega) (by omega) (fun c27 => ?_) (fun c27 => ?_)
        · skip
          refine lv_iload_n hx hb d_M_most_35 rfl (lv_at hl 3 rfl) ?_
          have eg : gs sf c0 (k + 1) = (gs sf c0 k) := by show max _ _ = _; omega
          rw [← eg]
          refine lv_istore_n (lv' := [(2, .int (nI (gs sf c0 (k + 1)))), (4, .int (nI (sf k + c0 >>> k % 2))), (0, .ref mo), (1, .int (nI c0)), (3, .int (nI k))]) hx hb d_M_most_36 rfl hl (by decide) rfl (fun ls hl => ?_)
          refine lv_iinc (v := nI (k + 1)) (lv' := [(3, .int (nI (k + 1))), (2, .int (nI (gs sf c0 (k + 1)))), (4, .int (nI (sf k + c0 >>> k % 2))), (0, .ref mo), (1, .int (nI c0))]) hx hb d_M_most_37 hl (k := 4) rfl (nI_1 k) (by decide) rfl (fun ls hl => ?_)
          refine lv_goto (tgt := 4) hx hb d_M_most_40 (by decide) ?_
          exact ih (k + 1) _ _ _ (by omega) (by omega) (lv_sub hl [3, 4, 1, 0] rfl) hP hD hS
        · skip
          refine lv_iload hx hb d_M_most_30 (lv_at hl 0 rfl) ?_
          refine lv_goto (tgt := 36) hx hb d_M_most_32 (by decide) ?_
          have eg : gs sf c0 (k + 1) = (sf k + c0 >>> k % 2) := by show max _ _ = _; omega
          rw [← eg]
          refine lv_istore_n (lv' := [(2, .int (nI (gs sf c0 (k + 1)))), (4, .int (nI (sf k + c0 >>> k % 2))), (0, .ref mo), (1, .int (nI c0)), (3, .int (nI k))]) hx hb d_M_most_36 rfl hl (by decide) rfl (fun ls hl => ?_)
          refine lv_iinc (v := nI (k + 1)) (lv' := [(3, .int (nI (k + 1))), (2, .int (nI (gs sf c0 (k + 1)))), (4, .int (nI (sf k + c0 >>> k % 2))), (0, .ref mo), (1, .int (nI c0))]) hx hb d_M_most_37 hl (k := 4) rfl (nI_1 k) (by decide) rfl (fun ls hl => ?_)
          refine lv_goto (tgt := 4) hx hb d_M_most_40 (by decide) ?_
          exact ih (k + 1) _ _ _ (by omega) (by omega) (lv_sub hl [3, 4, 1, 0] rfl) hP hD hS
  refine lv_iconst (v := nI 0) hx hb d_M_most_0 (by decide) ?_
  refine lv_istore_n (lv' := [(2, .int (nI 0)), (0, .ref mo), (1, .int (nI c0))]) hx hb d_M_most_1 rfl hl (by decide) rfl (fun ls hl => ?_)
  refine lv_iconst (v := nI 0) hx hb d_M_most_2 (by decide) ?_
  refine lv_istore_n (lv' := [(3, .int (nI 0)), (2, .int (nI 0)), (0, .ref mo), (1, .int (nI c0))]) hx hb d_M_most_3 rfl hl (by decide) rfl (fun ls hl => ?_)
  exact lp4 8 0 _ _ _ (by omega) (by omega) (lv_sub hl [2, 3, 1, 0] rfl) hP hD hS
set_option maxHeartbeats 4000000 in
set_option maxRecDepth 100000 in
theorem c_M_choose (l : Launch) (D : va_G) (g : Nat → ClassId) (sz : Nat) (wm : va_W) (mo wi ck fq co sq uq gq kd M n0 rr gt : Nat) (fw fc ff fco fsq fu fg : Nat → Int32) (i0 w0 : Nat) (hi0 : i0 < 4) (hw0 : 0 < w0) (hw9 : w0 ≤ 57) (hfw : fw i0 = nI w0) (hgt : gt < 2 ^ 22) : Met l y_M_choose w_M_choose rm_M_choose (va_Pc [.ref mo, .int (nI i0)] (pP D (tyl g) ((mo, .inr (6, [.int (nI 0), .int (nI M), .int (nI kd), .int (nI rr), .int (nI n0), .ref wi, .ref ck, .ref fq, .ref co, .int (nI gt), .int (nI 0), .int (nI 0), .long (lN 0), .int (nI 0), .int (nI 0), .long (lN 0), .int (nI 0), .int (nI 0), .ref sq, .ref uq, .ref gq])) :: (wi, .inl (g 0, 4, .inl (fw))) :: (ck, .inl (g 0, 4, .inl (fc))) :: (fq, .inl (g 0, 4, .inl (ff))) :: (co, .inl (g 0, 228, .inl (fco))) :: (sq, .inl (g 0, 8, .inl (fsq))) :: (uq, .inl (g 2, 128, .inl (fu))) :: (gq, .inl (g 0, 7, .inl (fg))) :: wm) sz)) (va_Qv (fun (u : Unit) => True) (fun u => qB D (va_A ((mo, .inr (6, [.int (nI 0), .int (nI M), .int (nI kd), .int (nI rr), .int (nI n0), .ref wi, .ref ck, .ref fq, .ref co, .int (nI gt), .int (nI 0), .int (nI 0), .long (lN 0), .int (nI 0), .int (nI 0), .long (lN 0), .int (nI 0), .int (nI 0), .ref sq, .ref uq, .ref gq])) :: (wi, .inl (g 0, 4, .inl (fw))) :: (ck, .inl (g 0, 4, .inl (fc))) :: (fq, .inl (g 0, 4, .inl (ff))) :: (co, .inl (g 0, 228, .inl (fco))) :: (sq, .inl (g 0, 8, .inl (fsq))) :: (uq, .inl (g 2, 128, .inl (fu))) :: (gq, .inl (g 0, 7, .inl (fg))) :: wm) sz) ((mo, .inr (6, [.int (nI 0), .int (nI M), .int (nI kd), .int (nI rr), .int (nI n0), .ref wi, .ref ck, .ref fq, .ref co, .int (nI (max gt (gs (rsf (lr w0) w0) 0 7))), .int (nI 0), .int (nI 0), .long (lN 0), .int (nI 0), .int (nI 0), .long (lN 0), .int (nI 0), .int (nI 0), .ref sq, .ref uq, .ref gq])) :: (wi, .inl (g 0, 4, .inl (fw))) :: (ck, .inl (g 0, 4, .inl (upd fc i0 (nI (lr w0))))) :: (fq, .inl (g 0, 4, .inl (ff))) :: (co, .inl (g 0, 228, .inl (cof fco (lr w0) i0 w0))) :: (sq, .inl (g 0, 8, .inl (fsq))) :: (uq, .inl (g 2, 128, .inl (fun z => nI (if us (lr w0) w0 z then 1 else 0)))) :: (gq, .inl (g 0, 7, .inl (fun z => nI (rsf (lr w0) w0 z)))) :: wm)) (va_A ((mo, .inr (6, [.int (nI 0), .int (nI M), .int (nI kd), .int (nI rr), .int (nI n0), .ref wi, .ref ck, .ref fq, .ref co, .int (nI gt), .int (nI 0), .int (nI 0), .long (lN 0), .int (nI 0), .int (nI 0), .long (lN 0), .int (nI 0), .int (nI 0), .ref sq, .ref uq, .ref gq])) :: (wi, .inl (g 0, 4, .inl (fw))) :: (ck, .inl (g 0, 4, .inl (fc))) :: (fq, .inl (g 0, 4, .inl (ff))) :: (co, .inl (g 0, 228, .inl (fco))) :: (sq, .inl (g 0, 8, .inl (fsq))) :: (uq, .inl (g 2, 128, .inl (fu))) :: (gq, .inl (g 0, 7, .inl (fg))) :: wm) sz)) 0 0 (va_A ((mo, .inr (6, [.int (nI 0), .int (nI M), .int (nI kd), .int (nI rr), .int (nI n0), .ref wi, .ref ck, .ref fq, .ref co, .int (nI gt), .int (nI 0), .int (nI 0), .long (lN 0), .int (nI 0), .int (nI 0), .long (lN 0), .int (nI 0), .int (nI 0), .ref sq, .ref uq, .ref gq])) :: (wi, .inl (g 0, 4, .inl (fw))) :: (ck, .inl (g 0, 4, .inl (fc))) :: (fq, .inl (g 0, 4, .inl (ff))) :: (co, .inl (g 0, 228, .inl (fco))) :: (sq, .inl (g 0, 8, .inl (fsq))) :: (uq, .inl (g 2, 128, .inl (fu))) :: (gq, .inl (g 0, 7, .inl (fg))) :: wm) sz) := by
  refine Met.ofW (cc := b_M_choose) (maxL := 9) (ret := none) (by decide +kernel) rfl ?_
  intro p e s m args below meth c s₁ Bq hml hv
  have hx := Bq.exec
  have hb := Bq.bytes
  have hr := Bq.returns
  have hts : ∀ w ∈ wA, w.before args s = true := fun w h => atoms_spec (ws := w_M_choose) Bq.pre w (List.mem_cons_of_mem _ h)
  have hown : s.vm.findClass R_M = some m.cls := findClass_of_methodNamed Bq.named
  have hlocks := Bq.notSynchronized
  obtain ⟨rfl, hsz, hP, hKK, hD0⟩ := hv
  have hK := hKK.1
  subst hsz
  have hD := hD0.self (sz := s.heap.size)
  generalize hAe : va_A ((mo, .inr (6, [.int (nI 0), .int (nI M), .int (nI kd), .int (nI rr), .int (nI n0), .ref wi, .ref ck, .ref fq, .ref co, .int (nI gt), .int (nI 0), .int (nI 0), .long (lN 0), .int (nI 0), .int (nI 0), .long (lN 0), .int (nI 0), .int (nI 0), .ref sq, .ref uq, .ref gq])) :: (wi, .inl (g 0, 4, .inl (fw))) :: (ck, .inl (g 0, 4, .inl (fc))) :: (fq, .inl (g 0, 4, .inl (ff))) :: (co, .inl (g 0, 228, .inl (fco))) :: (sq, .inl (g 0, 8, .inl (fsq))) :: (uq, .inl (g 2, 128, .inl (fu))) :: (gq, .inl (g 0, 7, .inl (fg))) :: wm) s.heap.size = A at hD ⊢
  have hA : ∀ q : Nat, s.heap.size ≤ q → A q := fun q h => by rw [← hAe]; exact Or.inr h
  have hS : va_S A s.heap s.heap [] := va_S.rf
  have hl := lv_entry ([.ref mo, .int (nI i0)]) (n := 9) (Nat.le_of_ble_eq_true rfl)
  rw [lg_entry_eq]
  generalize (lg_sl ([.ref mo, .int (nI i0)]) ++ List.replicate (9 - (lg_sl ([.ref mo, .int (nI i0)])).length) Slot.unset).toArray = ls at hl ⊢
  have hl : lv_has ls 9 [(0, .ref mo), (1, .int (nI i0))] := hl
  generalize hQ : MQ below (va_Qv (fun (u : Unit) => True) (fun u => qB D (A) ((mo, .inr (6, [.int (nI 0), .int (nI M), .int (nI kd), .int (nI rr), .int (nI n0), .ref wi, .ref ck, .ref fq, .ref co, .int (nI (max gt (gs (rsf (lr w0) w0) 0 7))), .int (nI 0), .int (nI 0), .long (lN 0), .int (nI 0), .int (nI 0), .long (lN 0), .int (nI 0), .int (nI 0), .ref sq, .ref uq, .ref gq])) :: (wi, .inl (g 0, 4, .inl (fw))) :: (ck, .inl (g 0, 4, .inl (upd fc i0 (nI (lr w0))))) :: (fq, .inl (g 0, 4, .inl (ff))) :: (co, .inl (g 0, 228, .inl (cof fco (lr w0) i0 w0))) :: (sq, .inl (g 0, 8, .inl (fsq))) :: (uq, .inl (g 2, 128, .inl (fun z => nI (if us (lr w0) w0 z then 1 else 0)))) :: (gq, .inl (g 0, 7, .inl (fun z => nI (rsf (lr w0) w0 z)))) :: wm)) (A)) [.ref mo, .int (nI i0)].toArray s 0 0 A = Q
  have hRl := lr_le w0
  have hRi := lr_in hw0
  have hlen := lr_len hw9
  have hpw := pow_le hRl
  have hcl : ∀ b9, b9 < w0 → cc_ (lr w0) b9 < 2 ^ (lr w0) := fun b9 h9 => cc_lt hw9 h9
  have hrs : ∀ b9 z, b9 ≤ w0 → rsf (lr w0) b9 z < 2 ^ 20 := fun b9 z h9 => by have := rsf_le (R := (lr w0)) b9 z; omega
  have lp76 : ∀ (n : Nat) (b9 : Nat) (ls : Array Slot) (H : Heap) (locs : List Loc), (w0 + 1 ≤ b9 + n) → (b9 ≤ w0) → lv_has ls 9 [(0, .ref mo), (1, .int (nI i0)), (2, .int (nI (lr w0))), (3, .int (nI b9))] → va_P D vwCl ((mo, .inr (6, [.int (nI 0), .int (nI M), .int (nI kd), .int (nI rr), .int (nI n0), .ref wi, .ref ck, .ref fq, .ref co, .int (nI gt), .int (nI 0), .int (nI 0), .long (lN 0), .int (nI 0), .int (nI 0), .long (lN 0), .int (nI 0), .int (nI 0), .ref sq, .ref uq, .ref gq])) :: (wi, .inl (g 0, 4, .inl (fw))) :: (ck, .inl (g 0, 4, .inl (upd fc i0 (nI (lr w0))))) :: (fq, .inl (g 0, 4, .inl (ff))) :: (co, .inl (g 0, 228, .inl (cof fco (lr w0) i0 b9))) :: (sq, .inl (g 0, 8, .inl (fsq))) :: (uq, .inl (g 2, 128, .inl (fun z => nI (if us (lr w0) b9 z then 1 else 0)))) :: (gq, .inl (g 0, 7, .inl (fun z => nI (rsf (lr w0) b9 z)))) :: wm) H → va_D A ((mo, .inr (6, [.int (nI 0), .int (nI M), .int (nI kd), .int (nI rr), .int (nI n0), .ref wi, .ref ck, .ref fq, .ref co, .int (nI gt), .int (nI 0), .int (nI 0), .long (lN 0), .int (nI 0), .int (nI 0), .long (lN 0), .int (nI 0), .int (nI 0), .ref sq, .ref uq, .ref gq])) :: (wi, .inl (g 0, 4, .inl (fw))) :: (ck, .inl (g 0, 4, .inl (upd fc i0 (nI (lr w0))))) :: (fq, .inl (g 0, 4, .inl (ff))) :: (co, .inl (g 0, 228, .inl (cof fco (lr w0) i0 b9))) :: (sq, .inl (g 0, 8, .inl (fsq))) :: (uq, .inl (g 2, 128, .inl (fun z => nI (if us (lr w0) b9 z then 1 else 0)))) :: (gq, .inl (g 0, 7, .inl (fun z => nI (rsf (lr w0) b9 z)))) :: wm) → va_S A s.heap H locs → W p l e (headSpec w_M_choose rm_M_choose).room s m [.ref mo, .int (nI i0)].toArray below meth c H locs 0 0 Q (F0 m 76 ls []) := by
    intro n
    induction n with
    | zero => intro b9 ls H locs hfu hb9 _ _ _ _; exact absurd hfu (by omega)
    | succ n ih =>
      intro b9 ls H locs hfu hb9 hl hP hD hS
      refine lv_iload_n hx hb d_M_choose_76 rfl (lv_at hl 3 rfl) ?_
      refine lv_aload_n hx hb d_M_choose_77 rfl (lv_at hl 0 rfl) ?_
      refine va_get (D := D) (ci := 6) (v := .ref wi) (C := R_M) (T := F_M) (N := 21) hx hb hts i_M hown hK hP 0 rfl rfl 5 (by decide) (hts _ m_608) (fun _ h9 => h9) rfl d_M_choose_78 ?_
      refine lv_iload_n hx hb d_M_choose_81 rfl (lv_at hl 1 rfl) ?_
      refine lx_iald (v := nI w0) hx hb hK hP 1 0 rfl rfl (j := i0) (by omega) (by omega) (hfw) d_M_choose_82 ?_
      refine lx_icmp_ge (tgt := 273) hx hb d_M_choose_83 (by decide) (by omega) (by omega) (fun c83 => ?_) (fun c83 => ?_)
      · skip
        obtain rfl : w0 = b9 := by omega
        have hg1 : gs (rsf (lr w0) w0) 0 7 < 2 ^ 21 := gs_lt (fun j _ => hrs w0 j (Nat.le_refl _))
        refine lv_aload_n hx hb d_M_choose_273 rfl (lv_at hl 0 rfl) ?_
        refine lv_aload_n hx hb d_M_choose_274 rfl (lv_at hl 0 rfl) ?_
        refine lv_iconst (v := nI 0) hx hb d_M_choose_275 (by decide) ?_
        refine lc_Vi (b := mo) (As := [.int (nI 0)]) (rest := [.ref mo]) ⟨hx, hb, hml, hown, hts⟩ (c_M_most l D g _ wm mo wi ck fq co sq uq gq kd M n0 rr gt fw (upd fc i0 (nI (lr w0))) ff (cof fco (lr w0) i0 w0) fsq (fun z => nI (if us (lr w0) w0 z then 1 else 0)) (fun z => nI (rsf (lr w0) w0 z)) 0 (by decide) (rsf (lr w0) w0) (fun z hz => ⟨rfl, hrs w0 z (Nat.le_refl _)⟩)) (kV 1 hts m_602 m_599 m_601 m_14 m_40 (by decide +kernel) ⟨Nat.le_of_ble_eq_true rfl, Nat.le_of_ble_eq_true rfl⟩) (va_recv hK hP (ci := 6) (q0 := 0) rfl rfl) hKK hP hD hS hA hl.1 rfl rfl (Nat.le_of_ble_eq_true rfl) d_M_choose_276 ⟨Nat.le_of_ble_eq_true rfl, Nat.le_of_ble_eq_true rfl⟩ (fun r4 u H locs e4 hP hD hS => ?_)
        obtain rfl : r4 = nI (gs (rsf (lr w0) w0) 0 7) := e4
        refine lv_aload_n hx hb d_M_choose_279 rfl (lv_at hl 0 rfl) ?_
        refine va_get (D := D) (ci := 6) (v := .int (nI gt)) (C := R_M) (T := F_M) (N := 21) hx hb hts i_M hown hK hP 0 rfl rfl 9 (by decide) (hts _ m_612) (fun _ h9 => h9) rfl d_M_choose_280 ?_
        refine lx_icmp_le (tgt := 294) hx hb d_M_choose_283 (by decide) (by omega) (by omega) (fun c283 => ?_) (fun c283 => ?_)
        · skip
          refine lv_aload_n hx hb d_M_choose_294 rfl (lv_at hl 0 rfl) ?_
          refine va_get (D := D) (ci := 6) (v := .int (nI gt)) (C := R_M) (T := F_M) (N := 21) hx hb hts i_M hown hK hP 0 rfl rfl 9 (by decide) (hts _ m_612) (fun _ h9 => h9) rfl d_M_choose_295 ?_
          have eg : gt = max gt (gs (rsf (lr w0) w0) 0 7) := by omega
          refine lv_topi (fun y9 ey => ?_)
          obtain rfl : y9 = nI (max gt (gs (rsf (lr w0) w0) 0 7)) := ey.trans (congrArg nI eg)
          refine va_put (D := D) (ci := 6) (v := .int (nI (max gt (gs (rsf (lr w0) w0) 0 7)))) (ty := .int) (C := R_M) (T := F_M) (N := 21) hx hb hts i_M tf_M tf_M_ok nf_M hown hK hP hD hS 0 rfl rfl 9 (by decide) (hts _ m_612) (fun _ h9 => h9) rfl (by decide +kernel) rfl rfl (Nat.le_of_ble_eq_true rfl) d_M_choose_298 (fun H locs hP hD hS => ?_)
          have hP : va_P D vwCl ((mo, .inr (6, [.int (nI 0), .int (nI M), .int (nI kd), .int (nI rr), .int (nI n0), .ref wi, .ref ck, .ref fq, .ref co, .int (nI (max gt (gs (rsf (lr w0) w0) 0 7))), .int (nI 0), .int (nI 0), .long (lN 0), .int (nI 0), .int (nI 0), .long (lN 0), .int (nI 0), .int (nI 0), .ref sq, .ref uq, .ref gq])) :: (wi, .inl (g 0, 4, .inl (fw))) :: (ck, .inl (g 0, 4, .inl (upd fc i0 (nI (lr w0))))) :: (fq, .inl (g 0, 4, .inl (ff))) :: (co, .inl (g 0, 228, .inl (cof fco (lr w0) i0 w0))) :: (sq, .inl (g 0, 8, .inl (fsq))) :: (uq, .inl (g 2, 128, .inl (fun z => nI (if us (lr w0) w0 z then 1 else 0)))) :: (gq, .inl (g 0, 7, .inl (fun z => nI (rsf (lr w0) w0 z)))) :: wm) H := hP
          have hD : va_D A ((mo, .inr (6, [.int (nI 0), .int (nI M), .int (nI kd), .int (nI rr), .int (nI n0), .ref wi, .ref ck, .ref fq, .ref co, .int (nI (max gt (gs (rsf (lr w0) w0) 0 7))), .int (nI 0), .int (nI 0), .long (lN 0), .int (nI 0), .int (nI 0), .long (lN 0), .int (nI 0), .int (nI 0), .ref sq, .ref uq, .ref gq])) :: (wi, .inl (g 0, 4, .inl (fw))) :: (ck, .inl (g 0, 4, .inl (upd fc i0 (nI (lr w0))))) :: (fq, .inl (g 0, 4, .inl (ff))) :: (co, .inl (g 0, 228, .inl (cof fco (lr w0) i0 w0))) :: (sq, .inl (g 0, 8, .inl (fsq))) :: (uq, .inl (g 2, 128, .inl (fun z => nI (if us (lr w0) w0 z then 1 else 0)))) :: (gq, .inl (g 0, 7, .inl (fun z => nI (rsf (lr w0) w0 z)))) :: wm) := hD
          rw [← hQ]
          refine W.vret hx hb hr ?_ hS.2.2 d_M_choose_301
          exact fun t ht hW => ⟨⟨(), rfl, trivial, by rw [ht]; exact hP, hD⟩, hS.F ht⟩
        · skip
          refine lv_aload_n hx hb d_M_choose_286 rfl (lv_at hl 0 rfl) ?_
          refine lv_iconst (v := nI 0) hx hb d_M_choose_287 (by decide) ?_
          refine lc_Vi (b := mo) (As := [.int (nI 0)]) (rest := [.ref mo]) ⟨hx, hb, hml, hown, hts⟩ (c_M_most l D g _ wm mo wi ck fq co sq uq gq kd M n0 rr gt fw (upd fc i0 (nI (lr w0))) ff (cof fco (lr w0) i0 w0) fsq (fun z => nI (if us (lr w0) w0 z then 1 else 0)) (fun z => nI (rsf (lr w0) w0 z)) 0 (by decide) (rsf (lr w0) w0) (fun z hz => ⟨rfl, hrs w0 z (Nat.le_refl _)⟩)) (kV 1 hts m_602 m_599 m_601 m_14 m_40 (by decide +kernel) ⟨Nat.le_of_ble_eq_true rfl, Nat.le_of_ble_eq_true rfl⟩) (va_recv hK hP (ci := 6) (q0 := 0) rfl rfl) hKK hP hD hS hA hl.1 rfl rfl (Nat.le_of_ble_eq_true rfl) d_M_choose_288 ⟨Nat.le_of_ble_eq_true rfl, Nat.le_of_ble_eq_true rfl⟩ (fun r5 u H locs e5 hP hD hS => ?_)
          obtain rfl : r5 = nI (gs (rsf (lr w0) w0) 0 7) := e5
          refine lv_goto (tgt := 298) hx hb d_M_choose_291 (by decide) ?_
          have eg : (gs (rsf (lr w0) w0) 0 7) = max gt (gs (rsf (lr w0) w0) 0 7) := by omega
          refine lv_topi (fun y9 ey => ?_)
          obtain rfl : y9 = nI (max gt (gs (rsf (lr w0) w0) 0 7)) := ey.trans (congrArg nI eg)
          refine va_put (D := D) (ci := 6) (v := .int (nI (max gt (gs (rsf (lr w0) w0) 0 7)))) (ty := .int) (C := R_M) (T := F_M) (N := 21) hx hb hts i_M tf_M tf_M_ok nf_M hown hK hP hD hS 0 rfl rfl 9 (by decide) (hts _ m_612) (fun _ h9 => h9) rfl (by decide +kernel) rfl rfl (Nat.le_of_ble_eq_true rfl) d_M_choose_298 (fun H locs hP hD hS => ?_)
          have hP : va_P D vwCl ((mo, .inr (6, [.int (nI 0), .int (nI M), .int (nI kd), .int (nI rr), .int (nI n0), .ref wi, .ref ck, .ref fq, .ref co, .int (nI (max gt (gs (rsf (lr w0) w0) 0 7))), .int (nI 0), .int (nI 0), .long (lN 0), .int (nI 0), .int (nI 0), .long (lN 0), .int (nI 0), .int (nI 0), .ref sq, .ref uq, .ref gq])) :: (wi, .inl (g 0, 4, .inl (fw))) :: (ck, .inl (g 0, 4, .inl (upd fc i0 (nI (lr w0))))) :: (fq, .inl (g 0, 4, .inl (ff))) :: (co, .inl (g 0, 228, .inl (cof fco (lr w0) i0 w0))) :: (sq, .inl (g 0, 8, .inl (fsq))) :: (uq, .inl (g 2, 128, .inl (fun z => nI (if us (lr w0) w0 z then 1 else 0)))) :: (gq, .inl (g 0, 7, .inl (fun z => nI (rsf (lr w0) w0 z)))) :: wm) H := hP
          have hD : va_D A ((mo, .inr (6, [.int (nI 0), .int (nI M), .int (nI kd), .int (nI rr), .int (nI n0), .ref wi, .ref ck, .ref fq, .ref co, .int (nI (max gt (gs (rsf (lr w0) w0) 0 7))), .int (nI 0), .int (nI 0), .long (lN 0), .int (nI 0), .int (nI 0), .long (lN 0), .int (nI 0), .int (nI 0), .ref sq, .ref uq, .ref gq])) :: (wi, .inl (g 0, 4, .inl (fw))) :: (ck, .inl (g 0, 4, .inl (upd fc i0 (nI (lr w0))))) :: (fq, .inl (g 0, 4, .inl (ff))) :: (co, .inl (g 0, 228, .inl (cof fco (lr w0) i0 w0))) :: (sq, .inl (g 0, 8, .inl (fsq))) :: (uq, .inl (g 2, 128, .inl (fun z => nI (if us (lr w0) w0 z then 1 else 0)))) :: (gq, .inl (g 0, 7, .inl (fun z => nI (rsf (lr w0) w0 z)))) :: wm) := hD
          rw [← hQ]
          refine W.vret hx hb hr ?_ hS.2.2 d_M_choose_301
          exact fun t ht hW => ⟨⟨(), rfl, trivial, by rw [ht]; exact hP, hD⟩, hS.F ht⟩
      · skip
        have ihb := ih
        have lp92 : ∀ (n : Nat) (c9 : Nat) (ls : Array Slot) (H : Heap) (locs : List Loc), (2 ^ (lr w0) + 1 ≤ c9 + n) → (1 ≤ c9) → (c9 ≤ 2 ^ (lr w0)) → lv_has ls 9 [(0, .ref mo), (1, .int (nI i0)), (2, .int (nI (lr w0))), (3, .int (nI b9)), (4, .int (nI (mb (lr w0) b9 c9))), (5, .int (nI c9))] → va_P D vwCl ((mo, .inr (6, [.int (nI 0), .int (nI M), .int (nI kd), .int (nI rr), .int (nI n0), .ref wi, .ref ck, .ref fq, .ref co, .int (nI gt), .int (nI 0), .int (nI 0), .long (lN 0), .int (nI 0), .int (nI 0), .long (lN 0), .int (nI 0), .int (nI 0), .ref sq, .ref uq, .ref gq])) :: (wi, .inl (g 0, 4, .inl (fw))) :: (ck, .inl (g 0, 4, .inl (upd fc i0 (nI (lr w0))))) :: (fq, .inl (g 0, 4, .inl (ff))) :: (co, .inl (g 0, 228, .inl (cof fco (lr w0) i0 b9))) :: (sq, .inl (g 0, 8, .inl (fsq))) :: (uq, .inl (g 2, 128, .inl (fun z => nI (if us (lr w0) b9 z then 1 else 0)))) :: (gq, .inl (g 0, 7, .inl (fun z => nI (rsf (lr w0) b9 z)))) :: wm) H → va_D A ((mo, .inr (6, [.int (nI 0), .int (nI M), .int (nI kd), .int (nI rr), .int (nI n0), .ref wi, .ref ck, .ref fq, .ref co, .int (nI gt), .int (nI 0), .int (nI 0), .long (lN 0), .int (nI 0), .int (nI 0), .long (lN 0), .int (nI 0), .int (nI 0), .ref sq, .ref uq, .ref gq])) :: (wi, .inl (g 0, 4, .inl (fw))) :: (ck, .inl (g 0, 4, .inl (upd fc i0 (nI (lr w0))))) :: (fq, .inl (g 0, 4, .inl (ff))) :: (co, .inl (g 0, 228, .inl (cof fco (lr w0) i0 b9))) :: (sq, .inl (g 0, 8, .inl (fsq))) :: (uq, .inl (g 2, 128, .inl (fun z => nI (if us (lr w0) b9 z then 1 else 0)))) :: (gq, .inl (g 0, 7, .inl (fun z => nI (rsf (lr w0) b9 z)))) :: wm) → va_S A s.heap H locs → W p l e (headSpec w_M_choose rm_M_choose).room s m [.ref mo, .int (nI i0)].toArray below meth c H locs 0 0 Q (F0 m 92 ls []) := by
          intro n
          induction n with
          | zero => intro c9 ls H locs hfu hc1 hc9 _ _ _ _; exact absurd hfu (by omega)
          | succ n ih =>
            intro c9 ls H locs hfu hc1 hc9 hl hP hD hS
            refine lv_iload hx hb d_M_choose_92 (lv_at hl 5 rfl) ?_
            refine lv_iconst (v := nI 1) hx hb d_M_choose_94 (by decide) ?_
            refine lv_iload_n hx hb d_M_choose_95 rfl (lv_at hl 2 rfl) ?_
            refine lx_ishl (z := nI (2 ^ (lr w0))) hx hb d_M_choose_96 ((xn_shl 1 (by omega)).trans (by rw [Nat.one_shiftLeft])) ?_
            refine lx_icmp_ge (tgt := 213) hx hb d_M_choose_97 (by decide) (by omega) (by omega) (fun c97 => ?_) (fun c97 => ?_)
            · skip
              have ec : mb (lr w0) b9 c9 = cc_ (lr w0) b9 := by rw [show c9 = 2 ^ (lr w0) by omega]; exact mb_ok hRi (by omega)
              rw [ec] at hl
              have hl : lv_has ls 9 [(0, .ref mo), (1, .int (nI i0)), (2, .int (nI (lr w0))), (3, .int (nI b9)), (4, .int (nI (cc_ (lr w0) b9))), (5, .int (nI c9))] := hl
              have hcb := hcl b9 c83
              refine lv_aload_n hx hb d_M_choose_213 rfl (lv_at hl 0 rfl) ?_
              refine va_get (D := D) (ci := 6) (v := .ref uq) (C := R_M) (T := F_M) (N := 21) hx hb hts i_M hown hK hP 0 rfl rfl 19 (by decide) (hts _ m_622) (fun _ h9 => h9) rfl d_M_choose_214 ?_
              refine lv_iload hx hb d_M_choose_217 (lv_at hl 4 rfl) ?_
              refine lv_iconst (v := nI 1) hx hb d_M_choose_219 (by decide) ?_
              refine lx_zast (f' := fun z => nI (if us (lr w0) (b9 + 1) z then 1 else 0)) hx hb hK hP hD hS 6 2 rfl rfl (j := cc_ (lr w0) b9) (by omega) (by omega) (us_upd (lr w0) b9) d_M_choose_220 (fun H locs hP hD hS => ?_)
              have hP : va_P D vwCl ((mo, .inr (6, [.int (nI 0), .int (nI M), .int (nI kd), .int (nI rr), .int (nI n0), .ref wi, .ref ck, .ref fq, .ref co, .int (nI gt), .int (nI 0), .int (nI 0), .long (lN 0), .int (nI 0), .int (nI 0), .long (lN 0), .int (nI 0), .int (nI 0), .ref sq, .ref uq, .ref gq])) :: (wi, .inl (g 0, 4, .inl (fw))) :: (ck, .inl (g 0, 4, .inl (upd fc i0 (nI (lr w0))))) :: (fq, .inl (g 0, 4, .inl (ff))) :: (co, .inl (g 0, 228, .inl (cof fco (lr w0) i0 b9))) :: (sq, .inl (g 0, 8, .inl (fsq))) :: (uq, .inl (g 2, 128, .inl (fun z => nI (if us (lr w0) (b9 + 1) z then 1 else 0)))) :: (gq, .inl (g 0, 7, .inl (fun z => nI (rsf (lr w0) b9 z)))) :: wm) H := hP
              have hD : va_D A ((mo, .inr (6, [.int (nI 0), .int (nI M), .int (nI kd), .int (nI rr), .int (nI n0), .ref wi, .ref ck, .ref fq, .ref co, .int (nI gt), .int (nI 0), .int (nI 0), .long (lN 0), .int (nI 0), .int (nI 0), .long (lN 0), .int (nI 0), .int (nI 0), .ref sq, .ref uq, .ref gq])) :: (wi, .inl (g 0, 4, .inl (fw))) :: (ck, .inl (g 0, 4, .inl (upd fc i0 (nI (lr w0))))) :: (fq, .inl (g 0, 4, .inl (ff))) :: (co, .inl (g 0, 228, .inl (cof fco (lr w0) i0 b9))) :: (sq, .inl (g 0, 8, .inl (fsq))) :: (uq, .inl (g 2, 128, .inl (fun z => nI (if us (lr w0) (b9 + 1) z then 1 else 0)))) :: (gq, .inl (g 0, 7, .inl (fun z => nI (rsf (lr w0) b9 z)))) :: wm) := hD
              refine lv_aload_n hx hb d_M_choose_221 rfl (lv_at hl 0 rfl) ?_
              refine va_get (D := D) (ci := 6) (v := .ref co) (C := R_M) (T := F_M) (N := 21) hx hb hts i_M hown hK hP 0 rfl rfl 8 (by decide) (hts _ m_611) (fun _ h9 => h9) rfl d_M_choose_222 ?_
              refine lv_bipush (v := nI 57) hx hb d_M_choose_225 (by decide) ?_
              refine lv_iload_n hx hb d_M_choose_227 rfl (lv_at hl 1 rfl) ?_
              refine lx_imul (z := nI (57 * i0)) hx hb d_M_choose_228 (pk_mul 57 i0) ?_
              refine lv_iload_n hx hb d_M_choose_229 rfl (lv_at hl 3 rfl) ?_
              refine lx_iadd (z := nI (57 * i0 + b9)) hx hb d_M_choose_230 (nI_add (57 * i0) b9) ?_
              refine lv_iload hx hb d_M_choose_231 (lv_at hl 4 rfl) ?_
              refine lx_iast (f' := cof fco (lr w0) i0 (b9 + 1)) hx hb hK hP hD hS 4 0 rfl rfl (j := 57 * i0 + b9) (by omega) (by omega) (cof_upd fco (lr w0) i0 b9) d_M_choose_233 (fun H locs hP hD hS => ?_)
              have hP : va_P D vwCl ((mo, .inr (6, [.int (nI 0), .int (nI M), .int (nI kd), .int (nI rr), .int (nI n0), .ref wi, .ref ck, .ref fq, .ref co, .int (nI gt), .int (nI 0), .int (nI 0), .long (lN 0), .int (nI 0), .int (nI 0), .long (lN 0), .int (nI 0), .int (nI 0), .ref sq, .ref uq, .ref gq])) :: (wi, .inl (g 0, 4, .inl (fw))) :: (ck, .inl (g 0, 4, .inl (upd fc i0 (nI (lr w0))))) :: (fq, .inl (g 0, 4, .inl (ff))) :: (co, .inl (g 0, 228, .inl (cof fco (lr w0) i0 (b9 + 1)))) :: (sq, .inl (g 0, 8, .inl (fsq))) :: (uq, .inl (g 2, 128, .inl (fun z => nI (if us (lr w0) (b9 + 1) z then 1 else 0)))) :: (gq, .inl (g 0, 7, .inl (fun z => nI (rsf (lr w0) b9 z)))) :: wm) H := hP
              have hD : va_D A ((mo, .inr (6, [.int (nI 0), .int (nI M), .int (nI kd), .int (nI rr), .int (nI n0), .ref wi, .ref ck, .ref fq, .ref co, .int (nI gt), .int (nI 0), .int (nI 0), .long (lN 0), .int (nI 0), .int (nI 0), .long (lN 0), .int (nI 0), .int (nI 0), .ref sq, .ref uq, .ref gq])) :: (wi, .inl (g 0, 4, .inl (fw))) :: (ck, .inl (g 0, 4, .inl (upd fc i0 (nI (lr w0))))) :: (fq, .inl (g 0, 4, .inl (ff))) :: (co, .inl (g 0, 228, .inl (cof fco (lr w0) i0 (b9 + 1)))) :: (sq, .inl (g 0, 8, .inl (fsq))) :: (uq, .inl (g 2, 128, .inl (fun z => nI (if us (lr w0) (b9 + 1) z then 1 else 0)))) :: (gq, .inl (g 0, 7, .inl (fun z => nI (rsf (lr w0) b9 z)))) :: wm) := hD
              have lp237 : ∀ (n : Nat) (k : Nat) (ls : Array Slot) (H : Heap) (locs : List Loc), (8 ≤ k + n) → (k ≤ 7) → lv_has ls 9 [(0, .ref mo), (1, .int (nI i0)), (2, .int (nI (lr w0))), (3, .int (nI b9)), (4, .int (nI (cc_ (lr w0) b9))), (5, .int (nI k))] → va_P D vwCl ((mo, .inr (6, [.int (nI 0), .int (nI M), .int (nI kd), .int (nI rr), .int (nI n0), .ref wi, .ref ck, .ref fq, .ref co, .int (nI gt), .int (nI 0), .int (nI 0), .long (lN 0), .int (nI 0), .int (nI 0), .long (lN 0), .int (nI 0), .int (nI 0), .ref sq, .ref uq, .ref gq])) :: (wi, .inl (g 0, 4, .inl (fw))) :: (ck, .inl (g 0, 4, .inl (upd fc i0 (nI (lr w0))))) :: (fq, .inl (g 0, 4, .inl (ff))) :: (co, .inl (g 0, 228, .inl (cof fco (lr w0) i0 (b9 + 1)))) :: (sq, .inl (g 0, 8, .inl (fsq))) :: (uq, .inl (g 2, 128, .inl (fun z => nI (if us (lr w0) (b9 + 1) z then 1 else 0)))) :: (gq, .inl (g 0, 7, .inl (fun z => nI (if z < k then rsf (lr w0) (b9 + 1) z else rsf (lr w0) b9 z)))) :: wm) H → va_D A ((mo, .inr (6, [.int (nI 0), .int (nI M), .int (nI kd), .int (nI rr), .int (nI n0), .ref wi, .ref ck, .ref fq, .ref co, .int (nI gt), .int (nI 0), .int (nI 0), .long (lN 0), .int (nI 0), .int (nI 0), .long (lN 0), .int (nI 0), .int (nI 0), .ref sq, .ref uq, .ref gq])) :: (wi, .inl (g 0, 4, .inl (fw))) :: (ck, .inl (g 0, 4, .inl (upd fc i0 (nI (lr w0))))) :: (fq, .inl (g 0, 4, .inl (ff))) :: (co, .inl (g 0, 228, .inl (cof fco (lr w0) i0 (b9 + 1)))) :: (sq, .inl (g 0, 8, .inl (fsq))) :: (uq, .inl (g 2, 128, .inl (fun z => nI (if us (lr w0) (b9 + 1) z then 1 else 0)))) :: (gq, .inl (g 0, 7, .inl (fun z => nI (if z < k then rsf (lr w0) (b9 + 1) z else rsf (lr w0) b9 z)))) :: wm) → va_S A s.heap H locs → W p l e (headSpec w_M_choose rm_M_choose).room s m [.ref mo, .int (nI i0)].toArray below meth c H locs 0 0 Q (F0 m 237 ls []) := by
                intro n
                induction n with
                | zero => intro k ls H locs hfu hk _ _ _ _; exact absurd hfu (by omega)
                | succ n ih =>
                  intro k ls H locs hfu hk hl hP hD hS
                  refine lv_iload hx hb d_M_choose_237 (lv_at hl 5 rfl) ?_
                  refine lv_bipush (v := nI 7) hx hb d_M_choose_239 (by decide) ?_
                  refine lx_icmp_ge (tgt := 267) hx hb d_M_choose_241 (by decide) (by omega) (by omega) (fun c241 => ?_) (fun c241 => ?_)
                  · skip
                    obtain rfl : k = 7 := by omega
                    have hP : va_P D vwCl ((mo, .inr (6, [.int (nI 0), .int (nI M), .int (nI kd), .int (nI rr), .int (nI n0), .ref wi, .ref ck, .ref fq, .ref co, .int (nI gt), .int (nI 0), .int (nI 0), .long (lN 0), .int (nI 0), .int (nI 0), .long (lN 0), .int (nI 0), .int (nI 0), .ref sq, .ref uq, .ref gq])) :: (wi, .inl (g 0, 4, .inl (fw))) :: (ck, .inl (g 0, 4, .inl (upd fc i0 (nI (lr w0))))) :: (fq, .inl (g 0, 4, .inl (ff))) :: (co, .inl (g 0, 228, .inl (cof fco (lr w0) i0 (b9 + 1)))) :: (sq, .inl (g 0, 8, .inl (fsq))) :: (uq, .inl (g 2, 128, .inl (fun z => nI (if us (lr w0) (b9 + 1) z then 1 else 0)))) :: (gq, .inl (g 0, 7, .inl (fun z => nI (rsf (lr w0) (b9 + 1) z)))) :: wm) H := wp_at 7 hP rfl (fun j hj => by simp only [if_pos hj])
                    have hD : va_D A ((mo, .inr (6, [.int (nI 0), .int (nI M), .int (nI kd), .int (nI rr), .int (nI n0), .ref wi, .ref ck, .ref fq, .ref co, .int (nI gt), .int (nI 0), .int (nI 0), .long (lN 0), .int (nI 0), .int (nI 0), .long (lN 0), .int (nI 0), .int (nI 0), .ref sq, .ref uq, .ref gq])) :: (wi, .inl (g 0, 4, .inl (fw))) :: (ck, .inl (g 0, 4, .inl (upd fc i0 (nI (lr w0))))) :: (fq, .inl (g 0, 4, .inl (ff))) :: (co, .inl (g 0, 228, .inl (cof fco (lr w0) i0 (b9 + 1)))) :: (sq, .inl (g 0, 8, .inl (fsq))) :: (uq, .inl (g 2, 128, .inl (fun z => nI (if us (lr w0) (b9 + 1) z then 1 else 0)))) :: (gq, .inl (g 0, 7, .inl (fun z => nI (rsf (lr w0) (b9 + 1) z)))) :: wm) := hD.set (p := 7) rfl
                    have hl : lv_has ls 9 [(0, .ref mo), (1, .int (nI i0)), (2, .int (nI (lr w0))), (3, .int (nI b9)), (4, .int (nI (cc_ (lr w0) b9)))] := lv_sub hl [0, 1, 2, 3, 4] rfl
                    refine lv_iinc (v := nI (b9 + 1)) (lv' := [(3, .int (nI (b9 + 1))), (0, .ref mo), (1, .int (nI i0)), (2, .int (nI (lr w0))), (4, .int (nI (cc_ (lr w0) b9)))]) hx hb d_M_choose_267 hl (k := 3) rfl (nI_1 b9) (by decide) rfl (fun ls hl => ?_)
                    refine lv_goto (tgt := 76) hx hb d_M_choose_270 (by decide) ?_
                    exact ihb (b9 + 1) _ _ _ (by omega) (by omega) (lv_sub hl [1, 2, 3, 0] rfl) hP hD hS
                  · skip
                    refine lv_aload_n hx hb d_M_choose_244 rfl (lv_at hl 0 rfl) ?_
                    refine va_get (D := D) (ci := 6) (v := .ref gq) (C := R_M) (T := F_M) (N := 21) hx hb hts i_M hown hK hP 0 rfl rfl 20 (by decide) (hts _ m_623) (fun _ h9 => h9) rfl d_M_choose_245 ?_
                    refine lv_iload hx hb d_M_choose_248 (lv_at hl 5 rfl) ?_
                    refine lv_dup2_11 hx hb d_M_choose_250 rfl rfl ?_
                    refine lx_iald (v := nI (rsf (lr w0) b9 k)) hx hb hK hP 7 0 rfl rfl (j := k) (by omega) (by omega) (by rw [if_neg (Nat.lt_irrefl k)]) d_M_choose_251 ?_
                    refine lv_iload hx hb d_M_choose_252 (lv_at hl 4 rfl) ?_
                    refine lv_iload hx hb d_M_choose_254 (lv_at hl 5 rfl) ?_
                    refine lx_ishr (z := nI (cc_ (lr w0) b9 >>> k)) hx hb d_M_choose_256 (xn_sshr (by omega) (by omega)) ?_
                    refine lv_iconst (v := nI 1) hx hb d_M_choose_257 (by decide) ?_
                    refine lx_iand (z := nI (cc_ (lr w0) b9 >>> k % 2)) hx hb d_M_choose_258 ((xn_and _ _).trans (by rw [Nat.and_one_is_mod])) ?_
                    refine lx_iadd (z := nI (rsf (lr w0) (b9 + 1) k)) hx hb d_M_choose_259 ((nI_add _ _).trans (by rw [rs7 hcb])) ?_
                    refine lx_iast (f' := fun z => nI (if z < k + 1 then rsf (lr w0) (b9 + 1) z else rsf (lr w0) b9 z)) hx hb hK hP hD hS 7 0 rfl rfl (j := k) (by omega) (by omega) (upd_lt (rsf (lr w0) b9) (rsf (lr w0) (b9 + 1)) k) d_M_choose_260 (fun H locs hP hD hS => ?_)
                    have hP : va_P D vwCl ((mo, .inr (6, [.int (nI 0), .int (nI M), .int (nI kd), .int (nI rr), .int (nI n0), .ref wi, .ref ck, .ref fq, .ref co, .int (nI gt), .int (nI 0), .int (nI 0), .long (lN 0), .int (nI 0), .int (nI 0), .long (lN 0), .int (nI 0), .int (nI 0), .ref sq, .ref uq, .ref gq])) :: (wi, .inl (g 0, 4, .inl (fw))) :: (ck, .inl (g 0, 4, .inl (upd fc i0 (nI (lr w0))))) :: (fq, .inl (g 0, 4, .inl (ff))) :: (co, .inl (g 0, 228, .inl (cof fco (lr w0) i0 (b9 + 1)))) :: (sq, .inl (g 0, 8, .inl (fsq))) :: (uq, .inl (g 2, 128, .inl (fun z => nI (if us (lr w0) (b9 + 1) z then 1 else 0)))) :: (gq, .inl (g 0, 7, .inl (fun z => nI (if z < k + 1 then rsf (lr w0) (b9 + 1) z else rsf (lr w0) b9 z)))) :: wm) H := hP
                    have hD : va_D A ((mo, .inr (6, [.int (nI 0), .int (nI M), .int (nI kd), .int (nI rr), .int (nI n0), .ref wi, .ref ck, .ref fq, .ref co, .int (nI gt), .int (nI 0), .int (nI 0), .long (lN 0), .int (nI 0), .int (nI 0), .long (lN 0), .int (nI 0), .int (nI 0), .ref sq, .ref uq, .ref gq])) :: (wi, .inl (g 0, 4, .inl (fw))) :: (ck, .inl (g 0, 4, .inl (upd fc i0 (nI (lr w0))))) :: (fq, .inl (g 0, 4, .inl (ff))) :: (co, .inl (g 0, 228, .inl (cof fco (lr w0) i0 (b9 + 1)))) :: (sq, .inl (g 0, 8, .inl (fsq))) :: (uq, .inl (g 2, 128, .inl (fun z => nI (if us (lr w0) (b9 + 1) z then 1 else 0)))) :: (gq, .inl (g 0, 7, .inl (fun z => nI (if z < k + 1 then rsf (lr w0) (b9 + 1) z else rsf (lr w0) b9 z)))) :: wm) := hD
                    refine lv_iinc (v := nI (k + 1)) (lv' := [(5, .int (nI (k + 1))), (0, .ref mo), (1, .int (nI i0)), (2, .int (nI (lr w0))), (3, .int (nI b9)), (4, .int (nI (cc_ (lr w0) b9)))]) hx hb d_M_choose_261 hl (k := 5) rfl (nI_1 k) (by decide) rfl (fun ls hl => ?_)
                    refine lv_goto (tgt := 237) hx hb d_M_choose_264 (by decide) ?_
                    exact ih (k + 1) _ _ _ (by omega) (by omega) (lv_sub hl [1, 2, 3, 4, 5, 0] rfl) hP hD hS
              refine lv_iconst (v := nI 0) hx hb d_M_choose_234 (by decide) ?_
              refine lv_istore (lv' := [(5, .int (nI 0)), (0, .ref mo), (1, .int (nI i0)), (2, .int (nI (lr w0))), (3, .int (nI b9)), (4, .int (nI (cc_ (lr w0) b9)))]) hx hb d_M_choose_235 hl (by decide) rfl (fun ls hl => ?_)
              have hP : va_P D vwCl ((mo, .inr (6, [.int (nI 0), .int (nI M), .int (nI kd), .int (nI rr), .int (nI n0), .ref wi, .ref ck, .ref fq, .ref co, .int (nI gt), .int (nI 0), .int (nI 0), .long (lN 0), .int (nI 0), .int (nI 0), .long (lN 0), .int (nI 0), .int (nI 0), .ref sq, .ref uq, .ref gq])) :: (wi, .inl (g 0, 4, .inl (fw))) :: (ck, .inl (g 0, 4, .inl (upd fc i0 (nI (lr w0))))) :: (fq, .inl (g 0, 4, .inl (ff))) :: (co, .inl (g 0, 228, .inl (cof fco (lr w0) i0 (b9 + 1)))) :: (sq, .inl (g 0, 8, .inl (fsq))) :: (uq, .inl (g 2, 128, .inl (fun z => nI (if us (lr w0) (b9 + 1) z then 1 else 0)))) :: (gq, .inl (g 0, 7, .inl (fun z => nI (if z < 0 then rsf (lr w0) (b9 + 1) z else rsf (lr w0) b9 z)))) :: wm) H := wp_at 7 hP rfl (fun j hj => by rw [if_neg (Nat.not_lt_zero _)])
              have hD : va_D A ((mo, .inr (6, [.int (nI 0), .int (nI M), .int (nI kd), .int (nI rr), .int (nI n0), .ref wi, .ref ck, .ref fq, .ref co, .int (nI gt), .int (nI 0), .int (nI 0), .long (lN 0), .int (nI 0), .int (nI 0), .long (lN 0), .int (nI 0), .int (nI 0), .ref sq, .ref uq, .ref gq])) :: (wi, .inl (g 0, 4, .inl (fw))) :: (ck, .inl (g 0, 4, .inl (upd fc i0 (nI (lr w0))))) :: (fq, .inl (g 0, 4, .inl (ff))) :: (co, .inl (g 0, 228, .inl (cof fco (lr w0) i0 (b9 + 1)))) :: (sq, .inl (g 0, 8, .inl (fsq))) :: (uq, .inl (g 2, 128, .inl (fun z => nI (if us (lr w0) (b9 + 1) z then 1 else 0)))) :: (gq, .inl (g 0, 7, .inl (fun z => nI (if z < 0 then rsf (lr w0) (b9 + 1) z else rsf (lr w0) b9 z)))) :: wm) := hD.set (p := 7) rfl
              exact lp237 8 0 _ _ _ (by omega) (by omega) (lv_sub hl [1, 2, 3, 4, 5, 0] rfl) hP hD hS
            · skip
              have hml9 := mb_le (lr w0) b9 c9
              have hc128 : c9 < 128 := by omega
              have hp7 := pcn_le 7 c9
              have ihc := ih
              have j205 : ∀ (tt : Nat) (ls : Array Slot) (H : Heap) (locs : List Loc), (tt = mb (lr w0) b9 (c9 + 1)) → lv_has ls 9 [(0, .ref mo), (1, .int (nI i0)), (2, .int (nI (lr w0))), (3, .int (nI b9)), (5, .int (nI c9))] → va_P D vwCl ((mo, .inr (6, [.int (nI 0), .int (nI M), .int (nI kd), .int (nI rr), .int (nI n0), .ref wi, .ref ck, .ref fq, .ref co, .int (nI gt), .int (nI 0), .int (nI 0), .long (lN 0), .int (nI 0), .int (nI 0), .long (lN 0), .int (nI 0), .int (nI 0), .ref sq, .ref uq, .ref gq])) :: (wi, .inl (g 0, 4, .inl (fw))) :: (ck, .inl (g 0, 4, .inl (upd fc i0 (nI (lr w0))))) :: (fq, .inl (g 0, 4, .inl (ff))) :: (co, .inl (g 0, 228, .inl (cof fco (lr w0) i0 b9))) :: (sq, .inl (g 0, 8, .inl (fsq))) :: (uq, .inl (g 2, 128, .inl (fun z => nI (if us (lr w0) b9 z then 1 else 0)))) :: (gq, .inl (g 0, 7, .inl (fun z => nI (rsf (lr w0) b9 z)))) :: wm) H → va_D A ((mo, .inr (6, [.int (nI 0), .int (nI M), .int (nI kd), .int (nI rr), .int (nI n0), .ref wi, .ref ck, .ref fq, .ref co, .int (nI gt), .int (nI 0), .int (nI 0), .long (lN 0), .int (nI 0), .int (nI 0), .long (lN 0), .int (nI 0), .int (nI 0), .ref sq, .ref uq, .ref gq])) :: (wi, .inl (g 0, 4, .inl (fw))) :: (ck, .inl (g 0, 4, .inl (upd fc i0 (nI (lr w0))))) :: (fq, .inl (g 0, 4, .inl (ff))) :: (co, .inl (g 0, 228, .inl (cof fco (lr w0) i0 b9))) :: (sq, .inl (g 0, 8, .inl (fsq))) :: (uq, .inl (g 2, 128, .inl (fun z => nI (if us (lr w0) b9 z then 1 else 0)))) :: (gq, .inl (g 0, 7, .inl (fun z => nI (rsf (lr w0) b9 z)))) :: wm) → va_S A s.heap H locs → W p l e (headSpec w_M_choose rm_M_choose).room s m [.ref mo, .int (nI i0)].toArray below meth c H locs 0 0 Q (F0 m 205 ls [.int (nI tt)]) := by
                intro tt ls H locs htt hl hP hD hS
                subst htt
                refine lv_istore (lv' := [(4, .int (nI (mb (lr w0) b9 (c9 + 1)))), (0, .ref mo), (1, .int (nI i0)), (2, .int (nI (lr w0))), (3, .int (nI b9)), (5, .int (nI c9))]) hx hb d_M_choose_205 hl (by decide) rfl (fun ls hl => ?_)
                refine lv_iinc (v := nI (c9 + 1)) (lv' := [(5, .int (nI (c9 + 1))), (4, .int (nI (mb (lr w0) b9 (c9 + 1)))), (0, .ref mo), (1, .int (nI i0)), (2, .int (nI (lr w0))), (3, .int (nI b9))]) hx hb d_M_choose_207 hl (k := 5) rfl (nI_1 c9) (by decide) rfl (fun ls hl => ?_)
                refine lv_goto (tgt := 92) hx hb d_M_choose_210 (by decide) ?_
                exact ihc (c9 + 1) _ _ _ (by omega) (by omega) (by omega) (lv_sub hl [2, 3, 4, 5, 1, 0] rfl) hP hD hS
              refine lv_iload hx hb d_M_choose_100 (lv_at hl 5 rfl) ?_
              refine lv_i2l (v := lN c9) hx hb d_M_choose_102 (nI_l (by omega)) ?_
              refine lc_Si (As := [.long (lN c9)]) (rest := []) ⟨hx, hb, hml, hown, hts⟩ (c_M_weight l D g _ _ c9 (by omega)) (kS 1 hts m_598 m_596 m_597 m_40 (by decide +kernel) ⟨Nat.le_of_ble_eq_true rfl, Nat.le_of_ble_eq_true rfl⟩) hKK hP hD hS hA hl.1 rfl rfl (Nat.le_of_ble_eq_true rfl) d_M_choose_103 ⟨Nat.le_of_ble_eq_true rfl, Nat.le_of_ble_eq_true rfl⟩ (fun r1 u H locs e1 hP hD hS => ?_)
              obtain rfl : r1 = nI (pcn 7 c9) := e1.trans (by rw [pc7 c9 hc128])
              refine lv_istore (lv' := [(6, .int (nI (pcn 7 c9))), (0, .ref mo), (1, .int (nI i0)), (2, .int (nI (lr w0))), (3, .int (nI b9)), (4, .int (nI (mb (lr w0) b9 c9))), (5, .int (nI c9))]) hx hb d_M_choose_106 hl (by decide) rfl (fun ls hl => ?_)
              refine lv_aload_n hx hb d_M_choose_108 rfl (lv_at hl 1 rfl) ?_
              refine va_get (D := D) (ci := 6) (v := .ref uq) (C := R_M) (T := F_M) (N := 21) hx hb hts i_M hown hK hP 0 rfl rfl 19 (by decide) (hts _ m_622) (fun _ h9 => h9) rfl d_M_choose_109 ?_
              refine lv_iload hx hb d_M_choose_112 (lv_at hl 6 rfl) ?_
              refine lx_zald (v := nI (if us (lr w0) b9 c9 then 1 else 0)) hx hb hK hP 6 2 rfl rfl (j := c9) (by omega) (by omega) (rfl) d_M_choose_114 ?_
              have hu9 : (if us (lr w0) b9 c9 then 1 else 0) ≤ 1 := by split <;> decide
              refine lx_if_ne (tgt := 136) hx hb d_M_choose_115 (by decide) (by omega) (fun c115 => ?_) (fun c115 => ?_)
              · skip
                refine lv_iconst (v := nI 0) hx hb d_M_choose_136 (by decide) ?_
                refine lv_istore (lv' := [(7, .int (nI 0)), (6, .int (nI (pcn 7 c9))), (0, .ref mo), (1, .int (nI i0)), (2, .int (nI (lr w0))), (3, .int (nI b9)), (4, .int (nI (mb (lr w0) b9 c9))), (5, .int (nI c9))]) hx hb d_M_choose_137 hl (by decide) rfl (fun ls hl => ?_)
                refine lv_iload hx hb d_M_choose_139 (lv_at hl 0 rfl) ?_
                refine lx_if_eq (tgt := 190) hx hb d_M_choose_141 (by decide) (by omega) (fun d141 => ?_) (fun d141 => ?_)
                · skip
                  refine lv_iconst (v := nI 0) hx hb d_M_choose_190 (by decide) ?_
                  refine lv_istore (lv' := [(8, .int (nI 0)), (7, .int (nI 0)), (6, .int (nI (pcn 7 c9))), (0, .ref mo), (1, .int (nI i0)), (2, .int (nI (lr w0))), (3, .int (nI b9)), (4, .int (nI (mb (lr w0) b9 c9))), (5, .int (nI c9))]) hx hb d_M_choose_191 hl (by decide) rfl (fun ls hl => ?_)
                  refine lv_iload hx hb d_M_choose_193 (lv_at hl 0 rfl) ?_
                  refine lx_if_eq (tgt := 203) hx hb d_M_choose_195 (by decide) (by omega) (fun d195 => ?_) (fun d195 => ?_)
                  · skip
                    refine lv_iload hx hb d_M_choose_203 (lv_at hl 7 rfl) ?_
                    exact j205 (mb (lr w0) b9 c9) _ _ _ ((mb_no (fun q => c115 (by rw [q.1.1]; rfl))).symm) (lv_sub hl [3, 4, 5, 6, 8] rfl) hP hD hS
                  · skip
                    exact absurd rfl d195
                · skip
                  exact absurd rfl d141
              · skip
                have hus : us (lr w0) b9 c9 = false := by cases hh : us (lr w0) b9 c9 with | false => rfl | true => rw [hh] at c115; cases c115
                refine lv_iload hx hb d_M_choose_118 (lv_at hl 0 rfl) ?_
                refine lv_iconst (v := nI 2) hx hb d_M_choose_120 (by decide) ?_
                refine lx_icmp_le (tgt := 136) hx hb d_M_choose_121 (by decide) (by omega) (by omega) (fun c121 => ?_) (fun c121 => ?_)
                · skip
                  refine lv_iconst (v := nI 0) hx hb d_M_choose_136 (by decide) ?_
                  refine lv_istore (lv' := [(7, .int (nI 0)), (6, .int (nI (pcn 7 c9))), (0, .ref mo), (1, .int (nI i0)), (2, .int (nI (lr w0))), (3, .int (nI b9)), (4, .int (nI (mb (lr w0) b9 c9))), (5, .int (nI c9))]) hx hb d_M_choose_137 hl (by decide) rfl (fun ls hl => ?_)
                  refine lv_iload hx hb d_M_choose_139 (lv_at hl 0 rfl) ?_
                  refine lx_if_eq (tgt := 190) hx hb d_M_choose_141 (by decide) (by omega) (fun d141 => ?_) (fun d141 => ?_)
                  · skip
                    refine lv_iconst (v := nI 0) hx hb d_M_choose_190 (by decide) ?_
                    refine lv_istore (lv' := [(8, .int (nI 0)), (7, .int (nI 0)), (6, .int (nI (pcn 7 c9))), (0, .ref mo), (1, .int (nI i0)), (2, .int (nI (lr w0))), (3, .int (nI b9)), (4, .int (nI (mb (lr w0) b9 c9))), (5, .int (nI c9))]) hx hb d_M_choose_191 hl (by decide) rfl (fun ls hl => ?_)
                    refine lv_iload hx hb d_M_choose_193 (lv_at hl 0 rfl) ?_
                    refine lx_if_eq (tgt := 203) hx hb d_M_choose_195 (by decide) (by omega) (fun d195 => ?_) (fun d195 => ?_)
                    · skip
                      refine lv_iload hx hb d_M_choose_203 (lv_at hl 7 rfl) ?_
                      exact j205 (mb (lr w0) b9 c9) _ _ _ ((mb_no (fun q => absurd q.1.2.1 (by omega))).symm) (lv_sub hl [3, 4, 5, 6, 8] rfl) hP hD hS
                    · skip
                      exact absurd rfl d195
                  · skip
                    exact absurd rfl d141
                · skip
                  refine lv_iload hx hb d_M_choose_124 (lv_at hl 0 rfl) ?_
                  refine lv_iconst (v := nI 2) hx hb d_M_choose_126 (by decide) ?_
                  refine lx_irem (z := nI (pcn 7 c9 % 2)) hx hb d_M_choose_127 (nI_ne0 (by omega) (by omega)) (pk_rem (by omega) (by omega) (by omega)) ?_
                  refine lv_iconst (v := nI 1) hx hb d_M_choose_128 (by decide) ?_
                  refine lx_icmp_ne (tgt := 136) hx hb d_M_choose_129 (by decide) (by omega) (by omega) (fun c129 => ?_) (fun c129 => ?_)
                  · skip
                    refine lv_iconst (v := nI 0) hx hb d_M_choose_136 (by decide) ?_
                    refine lv_istore (lv' := [(7, .int (nI 0)), (6, .int (nI (pcn 7 c9))), (0, .ref mo), (1, .int (nI i0)), (2, .int (nI (lr w0))), (3, .int (nI b9)), (4, .int (nI (mb (lr w0) b9 c9))), (5, .int (nI c9))]) hx hb d_M_choose_137 hl (by decide) rfl (fun ls hl => ?_)
                    refine lv_iload hx hb d_M_choose_139 (lv_at hl 0 rfl) ?_
                    refine lx_if_eq (tgt := 190) hx hb d_M_choose_141 (by decide) (by omega) (fun d141 => ?_) (fun d141 => ?_)
                    · skip
                      refine lv_iconst (v := nI 0) hx hb d_M_choose_190 (by decide) ?_
                      refine lv_istore (lv' := [(8, .int (nI 0)), (7, .int (nI 0)), (6, .int (nI (pcn 7 c9))), (0, .ref mo), (1, .int (nI i0)), (2, .int (nI (lr w0))), (3, .int (nI b9)), (4, .int (nI (mb (lr w0) b9 c9))), (5, .int (nI c9))]) hx hb d_M_choose_191 hl (by decide) rfl (fun ls hl => ?_)
                      refine lv_iload hx hb d_M_choose_193 (lv_at hl 0 rfl) ?_
                      refine lx_if_eq (tgt := 203) hx hb d_M_choose_195 (by decide) (by omega) (fun d195 => ?_) (fun d195 => ?_)
                      · skip
                        refine lv_iload hx hb d_M_choose_203 (lv_at hl 7 rfl) ?_
                        exact j205 (mb (lr w0) b9 c9) _ _ _ ((mb_no (fun q => c129 q.1.2.2)).symm) (lv_sub hl [3, 4, 5, 6, 8] rfl) hP hD hS
                      · skip
                        exact absurd rfl d195
                    · skip
                      exact absurd rfl d141
                  · skip
                    have hmay : may (lr w0) b9 c9 := ⟨hus, c121, c129⟩
                    refine lv_iconst (v := nI 1) hx hb d_M_choose_132 (by decide) ?_
                    refine lv_goto (tgt := 137) hx hb d_M_choose_133 (by decide) ?_
                    refine lv_istore (lv' := [(7, .int (nI 1)), (6, .int (nI (pcn 7 c9))), (0, .ref mo), (1, .int (nI i0)), (2, .int (nI (lr w0))), (3, .int (nI b9)), (4, .int (nI (mb (lr w0) b9 c9))), (5, .int (nI c9))]) hx hb d_M_choose_137 hl (by decide) rfl (fun ls hl => ?_)
                    refine lv_iload hx hb d_M_choose_139 (lv_at hl 0 rfl) ?_
                    refine lx_if_eq (tgt := 190) hx hb d_M_choose_141 (by decide) (by omega) (fun d141 => ?_) (fun d141 => ?_)
                    · skip
                      exact absurd d141 (by decide)
                    · skip
                      refine lv_iload hx hb d_M_choose_144 (lv_at hl 6 rfl) ?_
                      refine lx_if_eq (tgt := 186) hx hb d_M_choose_146 (by decide) (by omega) (fun d146 => ?_) (fun d146 => ?_)
                      · skip
                        refine lv_iconst (v := nI 1) hx hb d_M_choose_186 (by decide) ?_
                        refine lv_goto (tgt := 191) hx hb d_M_choose_187 (by decide) ?_
                        refine lv_istore (lv' := [(8, .int (nI 1)), (7, .int (nI 1)), (6, .int (nI (pcn 7 c9))), (0, .ref mo), (1, .int (nI i0)), (2, .int (nI (lr w0))), (3, .int (nI b9)), (4, .int (nI (mb (lr w0) b9 c9))), (5, .int (nI c9))]) hx hb d_M_choose_191 hl (by decide) rfl (fun ls hl => ?_)
                        refine lv_iload hx hb d_M_choose_193 (lv_at hl 0 rfl) ?_
                        refine lx_if_eq (tgt := 203) hx hb d_M_choose_195 (by decide) (by omega) (fun d195 => ?_) (fun d195 => ?_)
                        · skip
                          exact absurd d195 (by decide)
                        · skip
                          refine lv_iload hx hb d_M_choose_198 (lv_at hl 8 rfl) ?_
                          refine lv_goto (tgt := 205) hx hb d_M_choose_200 (by decide) ?_
                          exact j205 c9 _ _ _ ((mb_yes hmay (Or.inl d146)).symm) (lv_sub hl [3, 4, 5, 6, 8] rfl) hP hD hS
                      · skip
                        have hpm := pcn_le 7 (mb (lr w0) b9 c9)
                        refine lv_iload hx hb d_M_choose_149 (lv_at hl 1 rfl) ?_
                        refine lv_iload hx hb d_M_choose_151 (lv_at hl 6 rfl) ?_
                        refine lv_i2l (v := lN (mb (lr w0) b9 c9)) hx hb d_M_choose_153 (nI_l (by omega)) ?_
                        refine lc_Si (As := [.long (lN (mb (lr w0) b9 c9))]) (rest := [.int (nI (pcn 7 c9))]) ⟨hx, hb, hml, hown, hts⟩ (c_M_weight l D g _ _ (mb (lr w0) b9 c9) (by omega)) (kS 1 hts m_598 m_596 m_597 m_40 (by decide +kernel) ⟨Nat.le_of_ble_eq_true rfl, Nat.le_of_ble_eq_true rfl⟩) hKK hP hD hS hA hl.1 rfl rfl (Nat.le_of_ble_eq_true rfl) d_M_choose_154 ⟨Nat.le_of_ble_eq_true rfl, Nat.le_of_ble_eq_true rfl⟩ (fun r2 u H locs e2 hP hD hS => ?_)
                        obtain rfl : r2 = nI (pcn 7 (mb (lr w0) b9 c9)) := e2.trans (by rw [pc7 _ (by omega)])
                        refine lx_icmp_lt (tgt := 186) hx hb d_M_choose_157 (by decide) (by omega) (by omega) (fun d157 => ?_) (fun d157 => ?_)
                        · skip
                          refine lv_iconst (v := nI 1) hx hb d_M_choose_186 (by decide) ?_
                          refine lv_goto (tgt := 191) hx hb d_M_choose_187 (by decide) ?_
                          refine lv_istore (lv' := [(8, .int (nI 1)), (7, .int (nI 1)), (6, .int (nI (pcn 7 c9))), (0, .ref mo), (1, .int (nI i0)), (2, .int (nI (lr w0))), (3, .int (nI b9)), (4, .int (nI (mb (lr w0) b9 c9))), (5, .int (nI c9))]) hx hb d_M_choose_191 hl (by decide) rfl (fun ls hl => ?_)
                          refine lv_iload hx hb d_M_choose_193 (lv_at hl 0 rfl) ?_
                          refine lx_if_eq (tgt := 203) hx hb d_M_choose_195 (by decide) (by omega) (fun d195 => ?_) (fun d195 => ?_)
                          · skip
                            exact absurd d195 (by decide)
                          · skip
                            refine lv_iload hx hb d_M_choose_198 (lv_at hl 8 rfl) ?_
                            refine lv_goto (tgt := 205) hx hb d_M_choose_200 (by decide) ?_
                            exact j205 c9 _ _ _ ((mb_yes hmay (Or.inr (Or.inl d157))).symm) (lv_sub hl [3, 4, 5, 6, 8] rfl) hP hD hS
                        · skip
                          refine lv_iload hx hb d_M_choose_160 (lv_at hl 1 rfl) ?_
                          refine lv_iload hx hb d_M_choose_162 (lv_at hl 6 rfl) ?_
                          refine lv_i2l (v := lN (mb (lr w0) b9 c9)) hx hb d_M_choose_164 (nI_l (by omega)) ?_
                          refine lc_Si (As := [.long (lN (mb (lr w0) b9 c9))]) (rest := [.int (nI (pcn 7 c9))]) ⟨hx, hb, hml, hown, hts⟩ (c_M_weight l D g _ _ (mb (lr w0) b9 c9) (by omega)) (kS 1 hts m_598 m_596 m_597 m_40 (by decide +kernel) ⟨Nat.le_of_ble_eq_true rfl, Nat.le_of_ble_eq_true rfl⟩) hKK hP hD hS hA hl.1 rfl rfl (Nat.le_of_ble_eq_true rfl) d_M_choose_165 ⟨Nat.le_of_ble_eq_true rfl, Nat.le_of_ble_eq_true rfl⟩ (fun r3 u H locs e3 hP hD hS => ?_)
                          obtain rfl : r3 = nI (pcn 7 (mb (lr w0) b9 c9)) := e3.trans (by rw [pc7 _ (by omega)])
                          refine lx_icmp_ne (tgt := 190) hx hb d_M_choose_168 (by decide) (by omega) (by omega) (fun d168 => ?_) (fun d168 => ?_)
                          · skip
                            refine lv_iconst (v := nI 0) hx hb d_M_choose_190 (by decide) ?_
                            refine lv_istore (lv' := [(8, .int (nI 0)), (7, .int (nI 1)), (6, .int (nI (pcn 7 c9))), (0, .ref mo), (1, .int (nI i0)), (2, .int (nI (lr w0))), (3, .int (nI b9)), (4, .int (nI (mb (lr w0) b9 c9))), (5, .int (nI c9))]) hx hb d_M_choose_191 hl (by decide) rfl (fun ls hl => ?_)
                            refine lv_iload hx hb d_M_choose_193 (lv_at hl 0 rfl) ?_
                            refine lx_if_eq (tgt := 203) hx hb d_M_choose_195 (by decide) (by omega) (fun d195 => ?_) (fun d195 => ?_)
                            · skip
                              refine lv_iload hx hb d_M_choose_203 (lv_at hl 7 rfl) ?_
                              exact j205 (mb (lr w0) b9 c9) _ _ _ ((mb_no (fun q => by rcases q.2 with z | z | z; exact d146 z; exact absurd z (by omega); exact d168 z.1)).symm) (lv_sub hl [3, 4, 5, 6, 8] rfl) hP hD hS
                            · skip
                              exact absurd rfl d195
                          · skip
                            have hg1 : gs (rsf (lr w0) b9) c9 7 < 2 ^ 21 := gs_lt (fun j _ => hrs b9 j (by omega))
                            have hg2 : gs (rsf (lr w0) b9) (mb (lr w0) b9 c9) 7 < 2 ^ 21 := gs_lt (fun j _ => hrs b9 j (by omega))
                            refine lv_aload_n hx hb d_M_choose_171 rfl (lv_at hl 2 rfl) ?_
                            refine lv_iload hx hb d_M_choose_172 (lv_at hl 7 rfl) ?_
                            refine lc_Vi (b := mo) (As := [.int (nI c9)]) (rest := []) ⟨hx, hb, hml, hown, hts⟩ (c_M_most l D g _ wm mo wi ck fq co sq uq gq kd M n0 rr gt fw (upd fc i0 (nI (lr w0))) ff (cof fco (lr w0) i0 b9) fsq (fun z => nI (if us (lr w0) b9 z then 1 else 0)) (fun z => nI (rsf (lr w0) b9 z)) c9 hc128 (rsf (lr w0) b9) (fun z hz => ⟨rfl, hrs b9 z (by omega)⟩)) (kV 1 hts m_602 m_599 m_601 m_14 m_40 (by decide +kernel) ⟨Nat.le_of_ble_eq_true rfl, Nat.le_of_ble_eq_true rfl⟩) (va_recv hK hP (ci := 6) (q0 := 0) rfl rfl) hKK hP hD hS hA hl.1 rfl rfl (Nat.le_of_ble_eq_true rfl) d_M_choose_174 ⟨Nat.le_of_ble_eq_true rfl, Nat.le_of_ble_eq_true rfl⟩ (fun r4 u H locs e4 hP hD hS => ?_)
                            obtain rfl : r4 = nI (gs (rsf (lr w0) b9) c9 7) := e4
                            refine lv_aload_n hx hb d_M_choose_177 rfl (lv_at hl 2 rfl) ?_
                            refine lv_iload hx hb d_M_choose_178 (lv_at hl 6 rfl) ?_
                            refine lc_Vi (b := mo) (As := [.int (nI (mb (lr w0) b9 c9))]) (rest := [.int (nI (gs (rsf (lr w0) b9) c9 7))]) ⟨hx, hb, hml, hown, hts⟩ (c_M_most l D g _ wm mo wi ck fq co sq uq gq kd M n0 rr gt fw (upd fc i0 (nI (lr w0))) ff (cof fco (lr w0) i0 b9) fsq (fun z => nI (if us (lr w0) b9 z then 1 else 0)) (fun z => nI (rsf (lr w0) b9 z)) (mb (lr w0) b9 c9) (by omega) (rsf (lr w0) b9) (fun z hz => ⟨rfl, hrs b9 z (by omega)⟩)) (kV 1 hts m_602 m_599 m_601 m_14 m_40 (by decide +kernel) ⟨Nat.le_of_ble_eq_true rfl, Nat.le_of_ble_eq_true rfl⟩) (va_recv hK hP (ci := 6) (q0 := 0) rfl rfl) hKK hP hD hS hA hl.1 rfl rfl (Nat.le_of_ble_eq_true rfl) d_M_choose_180 ⟨Nat.le_of_ble_eq_true rfl, Nat.le_of_ble_eq_true rfl⟩ (fun r5 u H locs e5 hP hD hS => ?_)
                            obtain rfl : r5 = nI (gs (rsf (lr w0) b9) (mb (lr w0) b9 c9) 7) := e5
                            refine lx_icmp_ge (tgt := 190) hx hb d_M_choose_183 (by decide) (by omega) (by omega) (fun d183 => ?_) (fun d183 => ?_)
                            · skip
                              refine lv_iconst (v := nI 0) hx hb d_M_choose_190 (by decide) ?_
                              refine lv_istore (lv' := [(8, .int (nI 0)), (7, .int (nI 1)), (6, .int (nI (pcn 7 c9))), (0, .ref mo), (1, .int (nI i0)), (2, .int (nI (lr w0))), (3, .int (nI b9)), (4, .int (nI (mb (lr w0) b9 c9))), (5, .int (nI c9))]) hx hb d_M_choose_191 hl (by decide) rfl (fun ls hl => ?_)
                              refine lv_iload hx hb d_M_choose_193 (lv_at hl 0 rfl) ?_
                              refine lx_if_eq (tgt := 203) hx hb d_M_choose_195 (by decide) (by omega) (fun d195 => ?_) (fun d195 => ?_)
                              · skip
                                refine lv_iload hx hb d_M_choose_203 (lv_at hl 7 rfl) ?_
                                exact j205 (mb (lr w0) b9 c9) _ _ _ ((mb_no (fun q => by rcases q.2 with z | z | z; exact d146 z; exact absurd z (by omega); exact absurd z.2 (by omega))).symm) (lv_sub hl [3, 4, 5, 6, 8] rfl) hP hD hS
                              · skip
                                exact absurd rfl d195
                            · skip
                              refine lv_iconst (v := nI 1) hx hb d_M_choose_186 (by decide) ?_
                              refine lv_goto (tgt := 191) hx hb d_M_choose_187 (by decide) ?_
                              refine lv_istore (lv' := [(8, .int (nI 1)), (7, .int (nI 1)), (6, .int (nI (pcn 7 c9))), (0, .ref mo), (1, .int (nI i0)), (2, .int (nI (lr w0))), (3, .int (nI b9)), (4, .int (nI (mb (lr w0) b9 c9))), (5, .int (nI c9))]) hx hb d_M_choose_191 hl (by decide) rfl (fun ls hl => ?_)
                              refine lv_iload hx hb d_M_choose_193 (lv_at hl 0 rfl) ?_
                              refine lx_if_eq (tgt := 203) hx hb d_M_choose_195 (by decide) (by omega) (fun d195 => ?_) (fun d195 => ?_)
                              · skip
                                exact absurd d195 (by decide)
                              · skip
                                refine lv_iload hx hb d_M_choose_198 (lv_at hl 8 rfl) ?_
                                refine lv_goto (tgt := 205) hx hb d_M_choose_200 (by decide) ?_
                                exact j205 c9 _ _ _ ((mb_yes hmay (Or.inr (Or.inr ⟨d168, d183⟩))).symm) (lv_sub hl [3, 4, 5, 6, 8] rfl) hP hD hS
        refine lv_iconst (v := nI 0) hx hb d_M_choose_86 (by decide) ?_
        refine lv_istore (lv' := [(4, .int (nI 0)), (0, .ref mo), (1, .int (nI i0)), (2, .int (nI (lr w0))), (3, .int (nI b9))]) hx hb d_M_choose_87 hl (by decide) rfl (fun ls hl => ?_)
        refine lv_iconst (v := nI 1) hx hb d_M_choose_89 (by decide) ?_
        refine lv_istore (lv' := [(5, .int (nI 1)), (4, .int (nI 0)), (0, .ref mo), (1, .int (nI i0)), (2, .int (nI (lr w0))), (3, .int (nI b9))]) hx hb d_M_choose_90 hl (by decide) rfl (fun ls hl => ?_)
        have hl : lv_has ls 9 [(5, .int (nI 1)), (4, .int (nI (mb (lr w0) b9 1))), (0, .ref mo), (1, .int (nI i0)), (2, .int (nI (lr w0))), (3, .int (nI b9))] := by rw [mb_0]; exact hl
        exact lp92 (2 ^ (lr w0) + 1) 1 _ _ _ (by omega) (by decide) (Nat.one_le_two_pow) (lv_sub hl [2, 3, 4, 5, 1, 0] rfl) hP hD hS
  have lp2 : ∀ (n : Nat) (k : Nat) (ls : Array Slot) (H : Heap) (locs : List Loc), (8 ≤ k + n) → (k = 4 ∨ k = 5 ∨ k = 6 ∨ k = 7) → ((k ≤ 4 ∨ 4 < w0) ∧ (k ≤ 5 ∨ 11 < w0) ∧ (k ≤ 6 ∨ 26 < w0)) → lv_has ls 9 [(0, .ref mo), (1, .int (nI i0)), (2, .int (nI k))] → va_P D vwCl ((mo, .inr (6, [.int (nI 0), .int (nI M), .int (nI kd), .int (nI rr), .int (nI n0), .ref wi, .ref ck, .ref fq, .ref co, .int (nI gt), .int (nI 0), .int (nI 0), .long (lN 0), .int (nI 0), .int (nI 0), .long (lN 0), .int (nI 0), .int (nI 0), .ref sq, .ref uq, .ref gq])) :: (wi, .inl (g 0, 4, .inl (fw))) :: (ck, .inl (g 0, 4, .inl (fc))) :: (fq, .inl (g 0, 4, .inl (ff))) :: (co, .inl (g 0, 228, .inl (fco))) :: (sq, .inl (g 0, 8, .inl (fsq))) :: (uq, .inl (g 2, 128, .inl (fu))) :: (gq, .inl (g 0, 7, .inl (fg))) :: wm) H → va_D A ((mo, .inr (6, [.int (nI 0), .int (nI M), .int (nI kd), .int (nI rr), .int (nI n0), .ref wi, .ref ck, .ref fq, .ref co, .int (nI gt), .int (nI 0), .int (nI 0), .long (lN 0), .int (nI 0), .int (nI 0), .long (lN 0), .int (nI 0), .int (nI 0), .ref sq, .ref uq, .ref gq])) :: (wi, .inl (g 0, 4, .inl (fw))) :: (ck, .inl (g 0, 4, .inl (fc))) :: (fq, .inl (g 0, 4, .inl (ff))) :: (co, .inl (g 0, 228, .inl (fco))) :: (sq, .inl (g 0, 8, .inl (fsq))) :: (uq, .inl (g 2, 128, .inl (fu))) :: (gq, .inl (g 0, 7, .inl (fg))) :: wm) → va_S A s.heap H locs → W p l e (headSpec w_M_choose rm_M_choose).room s m [.ref mo, .int (nI i0)].toArray below meth c H locs 0 0 Q (F0 m 2 ls []) := by
    intro n
    induction n with
    | zero => intro k ls H locs hfu hk4 hlq _ _ _ _; exact absurd hfu (by omega)
    | succ n ih =>
      intro k ls H locs hfu hk4 hlq hl hP hD hS
      have hk9 := k47 hk4
      refine lv_iconst (v := nI 1) hx hb d_M_choose_2 (by decide) ?_
      refine lv_iload_n hx hb d_M_choose_3 rfl (lv_at hl 2 rfl) ?_
      refine lv_iconst (v := nI 1) hx hb d_M_choose_4 (by decide) ?_
      refine lx_isub (z := nI (k - 1)) hx hb d_M_choose_5 (pk_sub (by omega)) ?_
      refine lx_ishl (z := nI (1 <<< (k - 1))) hx hb d_M_choose_6 (xn_shl 1 (by omega)) ?_
      refine lv_iload_n hx hb d_M_choose_7 rfl (lv_at hl 2 rfl) ?_
      refine lx_isub (z := nI (1 <<< (k - 1) - k)) hx hb d_M_choose_8 (pk_sub hk9.1) ?_
      refine lv_aload_n hx hb d_M_choose_9 rfl (lv_at hl 0 rfl) ?_
      refine va_get (D := D) (ci := 6) (v := .ref wi) (C := R_M) (T := F_M) (N := 21) hx hb hts i_M hown hK hP 0 rfl rfl 5 (by decide) (hts _ m_608) (fun _ h9 => h9) rfl d_M_choose_10 ?_
      refine lv_iload_n hx hb d_M_choose_13 rfl (lv_at hl 1 rfl) ?_
      refine lx_iald (v := nI w0) hx hb hK hP 1 0 rfl rfl (j := i0) (by omega) (by omega) (hfw) d_M_choose_14 ?_
      refine lx_icmp_ge (tgt := 24) hx hb d_M_choose_15 (by decide) (by omega) (by omega) (fun c15 => ?_) (fun c15 => ?_)
      · skip
        have ek := lr_stop2 hw0 hk4 hlq c15
        subst ek
        have lp55 : ∀ (n : Nat) (k : Nat) (ls : Array Slot) (H : Heap) (locs : List Loc), (8 ≤ k + n) → (k ≤ 7) → lv_has ls 9 [(0, .ref mo), (1, .int (nI i0)), (2, .int (nI (lr w0))), (3, .int (nI k))] → va_P D vwCl ((mo, .inr (6, [.int (nI 0), .int (nI M), .int (nI kd), .int (nI rr), .int (nI n0), .ref wi, .ref ck, .ref fq, .ref co, .int (nI gt), .int (nI 0), .int (nI 0), .long (lN 0), .int (nI 0), .int (nI 0), .long (lN 0), .int (nI 0), .int (nI 0), .ref sq, .ref uq, .ref gq])) :: (wi, .inl (g 0, 4, .inl (fw))) :: (ck, .inl (g 0, 4, .inl (upd fc i0 (nI (lr w0))))) :: (fq, .inl (g 0, 4, .inl (ff))) :: (co, .inl (g 0, 228, .inl (fco))) :: (sq, .inl (g 0, 8, .inl (fsq))) :: (uq, .inl (g 2, 128, .inl (fun z => nI (if us (lr w0) 0 z then 1 else 0)))) :: (gq, .inl (g 0, 7, .inl (fun z => if z < k then nI 0 else fg z))) :: wm) H → va_D A ((mo, .inr (6, [.int (nI 0), .int (nI M), .int (nI kd), .int (nI rr), .int (nI n0), .ref wi, .ref ck, .ref fq, .ref co, .int (nI gt), .int (nI 0), .int (nI 0), .long (lN 0), .int (nI 0), .int (nI 0), .long (lN 0), .int (nI 0), .int (nI 0), .ref sq, .ref uq, .ref gq])) :: (wi, .inl (g 0, 4, .inl (fw))) :: (ck, .inl (g 0, 4, .inl (upd fc i0 (nI (lr w0))))) :: (fq, .inl (g 0, 4, .inl (ff))) :: (co, .inl (g 0, 228, .inl (fco))) :: (sq, .inl (g 0, 8, .inl (fsq))) :: (uq, .inl (g 2, 128, .inl (fun z => nI (if us (lr w0) 0 z then 1 else 0)))) :: (gq, .inl (g 0, 7, .inl (fun z => if z < k then nI 0 else fg z))) :: wm) → va_S A s.heap H locs → W p l e (headSpec w_M_choose rm_M_choose).room s m [.ref mo, .int (nI i0)].toArray below meth c H locs 0 0 Q (F0 m 55 ls []) := by
          intro n
          induction n with
          | zero => intro k ls H locs hfu hk _ _ _ _; exact absurd hfu (by omega)
          | succ n ih =>
            intro k ls H locs hfu hk hl hP hD hS
            refine lv_iload_n hx hb d_M_choose_55 rfl (lv_at hl 3 rfl) ?_
            refine lv_bipush (v := nI 7) hx hb d_M_choose_56 (by decide) ?_
            refine lx_icmp_ge (tgt := 74) hx hb d_M_choose_58 (by decide) (by omega) (by omega) (fun c58 => ?_) (fun c58 => ?_)
            · skip
              obtain rfl : k = 7 := by omega
              have hP : va_P D vwCl ((mo, .inr (6, [.int (nI 0), .int (nI M), .int (nI kd), .int (nI rr), .int (nI n0), .ref wi, .ref ck, .ref fq, .ref co, .int (nI gt), .int (nI 0), .int (nI 0), .long (lN 0), .int (nI 0), .int (nI 0), .long (lN 0), .int (nI 0), .int (nI 0), .ref sq, .ref uq, .ref gq])) :: (wi, .inl (g 0, 4, .inl (fw))) :: (ck, .inl (g 0, 4, .inl (upd fc i0 (nI (lr w0))))) :: (fq, .inl (g 0, 4, .inl (ff))) :: (co, .inl (g 0, 228, .inl (fco))) :: (sq, .inl (g 0, 8, .inl (fsq))) :: (uq, .inl (g 2, 128, .inl (fun z => nI (if us (lr w0) 0 z then 1 else 0)))) :: (gq, .inl (g 0, 7, .inl (fun z => nI (rsf (lr w0) 0 z)))) :: wm) H := wp_at 7 hP rfl (fun j hj => by simp only [if_pos hj]; rfl)
              have hD : va_D A ((mo, .inr (6, [.int (nI 0), .int (nI M), .int (nI kd), .int (nI rr), .int (nI n0), .ref wi, .ref ck, .ref fq, .ref co, .int (nI gt), .int (nI 0), .int (nI 0), .long (lN 0), .int (nI 0), .int (nI 0), .long (lN 0), .int (nI 0), .int (nI 0), .ref sq, .ref uq, .ref gq])) :: (wi, .inl (g 0, 4, .inl (fw))) :: (ck, .inl (g 0, 4, .inl (upd fc i0 (nI (lr w0))))) :: (fq, .inl (g 0, 4, .inl (ff))) :: (co, .inl (g 0, 228, .inl (fco))) :: (sq, .inl (g 0, 8, .inl (fsq))) :: (uq, .inl (g 2, 128, .inl (fun z => nI (if us (lr w0) 0 z then 1 else 0)))) :: (gq, .inl (g 0, 7, .inl (fun z => nI (rsf (lr w0) 0 z)))) :: wm) := hD.set (p := 7) rfl
              have hP : va_P D vwCl ((mo, .inr (6, [.int (nI 0), .int (nI M), .int (nI kd), .int (nI rr), .int (nI n0), .ref wi, .ref ck, .ref fq, .ref co, .int (nI gt), .int (nI 0), .int (nI 0), .long (lN 0), .int (nI 0), .int (nI 0), .long (lN 0), .int (nI 0), .int (nI 0), .ref sq, .ref uq, .ref gq])) :: (wi, .inl (g 0, 4, .inl (fw))) :: (ck, .inl (g 0, 4, .inl (upd fc i0 (nI (lr w0))))) :: (fq, .inl (g 0, 4, .inl (ff))) :: (co, .inl (g 0, 228, .inl (cof fco (lr w0) i0 0))) :: (sq, .inl (g 0, 8, .inl (fsq))) :: (uq, .inl (g 2, 128, .inl (fun z => nI (if us (lr w0) 0 z then 1 else 0)))) :: (gq, .inl (g 0, 7, .inl (fun z => nI (rsf (lr w0) 0 z)))) :: wm) H := by rw [cof_0]; exact hP
              have hD : va_D A ((mo, .inr (6, [.int (nI 0), .int (nI M), .int (nI kd), .int (nI rr), .int (nI n0), .ref wi, .ref ck, .ref fq, .ref co, .int (nI gt), .int (nI 0), .int (nI 0), .long (lN 0), .int (nI 0), .int (nI 0), .long (lN 0), .int (nI 0), .int (nI 0), .ref sq, .ref uq, .ref gq])) :: (wi, .inl (g 0, 4, .inl (fw))) :: (ck, .inl (g 0, 4, .inl (upd fc i0 (nI (lr w0))))) :: (fq, .inl (g 0, 4, .inl (ff))) :: (co, .inl (g 0, 228, .inl (cof fco (lr w0) i0 0))) :: (sq, .inl (g 0, 8, .inl (fsq))) :: (uq, .inl (g 2, 128, .inl (fun z => nI (if us (lr w0) 0 z then 1 else 0)))) :: (gq, .inl (g 0, 7, .inl (fun z => nI (rsf (lr w0) 0 z)))) :: wm) := by rw [cof_0]; exact hD
              refine lv_iconst (v := nI 0) hx hb d_M_choose_74 (by decide) ?_
              refine lv_istore_n (lv' := [(3, .int (nI 0)), (0, .ref mo), (1, .int (nI i0)), (2, .int (nI (lr w0)))]) hx hb d_M_choose_75 rfl hl (by decide) rfl (fun ls hl => ?_)
              exact lp76 (w0 + 1) 0 _ _ _ (by omega) (by omega) (lv_sub hl [1, 2, 3, 0] rfl) hP hD hS
            · skip
              refine lv_aload_n hx hb d_M_choose_61 rfl (lv_at hl 0 rfl) ?_
              refine va_get (D := D) (ci := 6) (v := .ref gq) (C := R_M) (T := F_M) (N := 21) hx hb hts i_M hown hK hP 0 rfl rfl 20 (by decide) (hts _ m_623) (fun _ h9 => h9) rfl d_M_choose_62 ?_
              refine lv_iload_n hx hb d_M_choose_65 rfl (lv_at hl 3 rfl) ?_
              refine lv_iconst (v := nI 0) hx hb d_M_choose_66 (by decide) ?_
              refine lx_iast (f' := fun z => if z < k + 1 then nI 0 else fg z) hx hb hK hP hD hS 7 0 rfl rfl (j := k) (by omega) (by omega) (upd_fill _ _ _) d_M_choose_67 (fun H locs hP hD hS => ?_)
              have hP : va_P D vwCl ((mo, .inr (6, [.int (nI 0), .int (nI M), .int (nI kd), .int (nI rr), .int (nI n0), .ref wi, .ref ck, .ref fq, .ref co, .int (nI gt), .int (nI 0), .int (nI 0), .long (lN 0), .int (nI 0), .int (nI 0), .long (lN 0), .int (nI 0), .int (nI 0), .ref sq, .ref uq, .ref gq])) :: (wi, .inl (g 0, 4, .inl (fw))) :: (ck, .inl (g 0, 4, .inl (upd fc i0 (nI (lr w0))))) :: (fq, .inl (g 0, 4, .inl (ff))) :: (co, .inl (g 0, 228, .inl (fco))) :: (sq, .inl (g 0, 8, .inl (fsq))) :: (uq, .inl (g 2, 128, .inl (fun z => nI (if us (lr w0) 0 z then 1 else 0)))) :: (gq, .inl (g 0, 7, .inl (fun z => if z < k + 1 then nI 0 else fg z))) :: wm) H := hP
              have hD : va_D A ((mo, .inr (6, [.int (nI 0), .int (nI M), .int (nI kd), .int (nI rr), .int (nI n0), .ref wi, .ref ck, .ref fq, .ref co, .int (nI gt), .int (nI 0), .int (nI 0), .long (lN 0), .int (nI 0), .int (nI 0), .long (lN 0), .int (nI 0), .int (nI 0), .ref sq, .ref uq, .ref gq])) :: (wi, .inl (g 0, 4, .inl (fw))) :: (ck, .inl (g 0, 4, .inl (upd fc i0 (nI (lr w0))))) :: (fq, .inl (g 0, 4, .inl (ff))) :: (co, .inl (g 0, 228, .inl (fco))) :: (sq, .inl (g 0, 8, .inl (fsq))) :: (uq, .inl (g 2, 128, .inl (fun z => nI (if us (lr w0) 0 z then 1 else 0)))) :: (gq, .inl (g 0, 7, .inl (fun z => if z < k + 1 then nI 0 else fg z))) :: wm) := hD
              refine lv_iinc (v := nI (k + 1)) (lv' := [(3, .int (nI (k + 1))), (0, .ref mo), (1, .int (nI i0)), (2, .int (nI (lr w0)))]) hx hb d_M_choose_68 hl (k := 3) rfl (nI_1 k) (by decide) rfl (fun ls hl => ?_)
              refine lv_goto (tgt := 55) hx hb d_M_choose_71 (by decide) ?_
              exact ih (k + 1) _ _ _ (by omega) (by omega) (lv_sub hl [1, 2, 3, 0] rfl) hP hD hS
        have lp33 : ∀ (n : Nat) (k : Nat) (ls : Array Slot) (H : Heap) (locs : List Loc), (129 ≤ k + n) → (k ≤ 128) → lv_has ls 9 [(0, .ref mo), (1, .int (nI i0)), (2, .int (nI (lr w0))), (3, .int (nI k))] → va_P D vwCl ((mo, .inr (6, [.int (nI 0), .int (nI M), .int (nI kd), .int (nI rr), .int (nI n0), .ref wi, .ref ck, .ref fq, .ref co, .int (nI gt), .int (nI 0), .int (nI 0), .long (lN 0), .int (nI 0), .int (nI 0), .long (lN 0), .int (nI 0), .int (nI 0), .ref sq, .ref uq, .ref gq])) :: (wi, .inl (g 0, 4, .inl (fw))) :: (ck, .inl (g 0, 4, .inl (upd fc i0 (nI (lr w0))))) :: (fq, .inl (g 0, 4, .inl (ff))) :: (co, .inl (g 0, 228, .inl (fco))) :: (sq, .inl (g 0, 8, .inl (fsq))) :: (uq, .inl (g 2, 128, .inl (fun z => if z < k then nI 0 else fu z))) :: (gq, .inl (g 0, 7, .inl (fg))) :: wm) H → va_D A ((mo, .inr (6, [.int (nI 0), .int (nI M), .int (nI kd), .int (nI rr), .int (nI n0), .ref wi, .ref ck, .ref fq, .ref co, .int (nI gt), .int (nI 0), .int (nI 0), .long (lN 0), .int (nI 0), .int (nI 0), .long (lN 0), .int (nI 0), .int (nI 0), .ref sq, .ref uq, .ref gq])) :: (wi, .inl (g 0, 4, .inl (fw))) :: (ck, .inl (g 0, 4, .inl (upd fc i0 (nI (lr w0))))) :: (fq, .inl (g 0, 4, .inl (ff))) :: (co, .inl (g 0, 228, .inl (fco))) :: (sq, .inl (g 0, 8, .inl (fsq))) :: (uq, .inl (g 2, 128, .inl (fun z => if z < k then nI 0 else fu z))) :: (gq, .inl (g 0, 7, .inl (fg))) :: wm) → va_S A s.heap H locs → W p l e (headSpec w_M_choose rm_M_choose).room s m [.ref mo, .int (nI i0)].toArray below meth c H locs 0 0 Q (F0 m 33 ls []) := by
          intro n
          induction n with
          | zero => intro k ls H locs hfu hk _ _ _ _; exact absurd hfu (by omega)
          | succ n ih =>
            intro k ls H locs hfu hk hl hP hD hS
            refine lv_iload_n hx hb d_M_choose_33 rfl (lv_at hl 3 rfl) ?_
            refine lv_sipush (v := nI 128) hx hb d_M_choose_34 (by decide) ?_
            refine lx_icmp_ge (tgt := 53) hx hb d_M_choose_37 (by decide) (by omega) (by omega) (fun c37 => ?_) (fun c37 => ?_)
            · skip
              obtain rfl : k = 128 := by omega
              have hP : va_P D vwCl ((mo, .inr (6, [.int (nI 0), .int (nI M), .int (nI kd), .int (nI rr), .int (nI n0), .ref wi, .ref ck, .ref fq, .ref co, .int (nI gt), .int (nI 0), .int (nI 0), .long (lN 0), .int (nI 0), .int (nI 0), .long (lN 0), .int (nI 0), .int (nI 0), .ref sq, .ref uq, .ref gq])) :: (wi, .inl (g 0, 4, .inl (fw))) :: (ck, .inl (g 0, 4, .inl (upd fc i0 (nI (lr w0))))) :: (fq, .inl (g 0, 4, .inl (ff))) :: (co, .inl (g 0, 228, .inl (fco))) :: (sq, .inl (g 0, 8, .inl (fsq))) :: (uq, .inl (g 2, 128, .inl (fun z => nI (if us (lr w0) 0 z then 1 else 0)))) :: (gq, .inl (g 0, 7, .inl (fg))) :: wm) H := wp_at 6 hP rfl (fun j hj => by simp only [if_pos hj]; rfl)
              have hD : va_D A ((mo, .inr (6, [.int (nI 0), .int (nI M), .int (nI kd), .int (nI rr), .int (nI n0), .ref wi, .ref ck, .ref fq, .ref co, .int (nI gt), .int (nI 0), .int (nI 0), .long (lN 0), .int (nI 0), .int (nI 0), .long (lN 0), .int (nI 0), .int (nI 0), .ref sq, .ref uq, .ref gq])) :: (wi, .inl (g 0, 4, .inl (fw))) :: (ck, .inl (g 0, 4, .inl (upd fc i0 (nI (lr w0))))) :: (fq, .inl (g 0, 4, .inl (ff))) :: (co, .inl (g 0, 228, .inl (fco))) :: (sq, .inl (g 0, 8, .inl (fsq))) :: (uq, .inl (g 2, 128, .inl (fun z => nI (if us (lr w0) 0 z then 1 else 0)))) :: (gq, .inl (g 0, 7, .inl (fg))) :: wm) := hD.set (p := 6) rfl
              refine lv_iconst (v := nI 0) hx hb d_M_choose_53 (by decide) ?_
              refine lv_istore_n (lv' := [(3, .int (nI 0)), (0, .ref mo), (1, .int (nI i0)), (2, .int (nI (lr w0)))]) hx hb d_M_choose_54 rfl hl (by decide) rfl (fun ls hl => ?_)
              have hP : va_P D vwCl ((mo, .inr (6, [.int (nI 0), .int (nI M), .int (nI kd), .int (nI rr), .int (nI n0), .ref wi, .ref ck, .ref fq, .ref co, .int (nI gt), .int (nI 0), .int (nI 0), .long (lN 0), .int (nI 0), .int (nI 0), .long (lN 0), .int (nI 0), .int (nI 0), .ref sq, .ref uq, .ref gq])) :: (wi, .inl (g 0, 4, .inl (fw))) :: (ck, .inl (g 0, 4, .inl (upd fc i0 (nI (lr w0))))) :: (fq, .inl (g 0, 4, .inl (ff))) :: (co, .inl (g 0, 228, .inl (fco))) :: (sq, .inl (g 0, 8, .inl (fsq))) :: (uq, .inl (g 2, 128, .inl (fun z => nI (if us (lr w0) 0 z then 1 else 0)))) :: (gq, .inl (g 0, 7, .inl (fun z => if z < 0 then nI 0 else fg z))) :: wm) H := wp_at 7 hP rfl (fun j hj => by rw [if_neg (Nat.not_lt_zero _)])
              have hD : va_D A ((mo, .inr (6, [.int (nI 0), .int (nI M), .int (nI kd), .int (nI rr), .int (nI n0), .ref wi, .ref ck, .ref fq, .ref co, .int (nI gt), .int (nI 0), .int (nI 0), .long (lN 0), .int (nI 0), .int (nI 0), .long (lN 0), .int (nI 0), .int (nI 0), .ref sq, .ref uq, .ref gq])) :: (wi, .inl (g 0, 4, .inl (fw))) :: (ck, .inl (g 0, 4, .inl (upd fc i0 (nI (lr w0))))) :: (fq, .inl (g 0, 4, .inl (ff))) :: (co, .inl (g 0, 228, .inl (fco))) :: (sq, .inl (g 0, 8, .inl (fsq))) :: (uq, .inl (g 2, 128, .inl (fun z => nI (if us (lr w0) 0 z then 1 else 0)))) :: (gq, .inl (g 0, 7, .inl (fun z => if z < 0 then nI 0 else fg z))) :: wm) := hD.set (p := 7) rfl
              exact lp55 8 0 _ _ _ (by omega) (by omega) (lv_sub hl [1, 2, 3, 0] rfl) hP hD hS
            · skip
              refine lv_aload_n hx hb d_M_choose_40 rfl (lv_at hl 0 rfl) ?_
              refine va_get (D := D) (ci := 6) (v := .ref uq) (C := R_M) (T := F_M) (N := 21) hx hb hts i_M hown hK hP 0 rfl rfl 19 (by decide) (hts _ m_622) (fun _ h9 => h9) rfl d_M_choose_41 ?_
              refine lv_iload_n hx hb d_M_choose_44 rfl (lv_at hl 3 rfl) ?_
              refine lv_iconst (v := nI 0) hx hb d_M_choose_45 (by decide) ?_
              refine lx_zast (f' := fun z => if z < k + 1 then nI 0 else fu z) hx hb hK hP hD hS 6 2 rfl rfl (j := k) (by omega) (by omega) (upd_fill _ _ _) d_M_choose_46 (fun H locs hP hD hS => ?_)
              have hP : va_P D vwCl ((mo, .inr (6, [.int (nI 0), .int (nI M), .int (nI kd), .int (nI rr), .int (nI n0), .ref wi, .ref ck, .ref fq, .ref co, .int (nI gt), .int (nI 0), .int (nI 0), .long (lN 0), .int (nI 0), .int (nI 0), .long (lN 0), .int (nI 0), .int (nI 0), .ref sq, .ref uq, .ref gq])) :: (wi, .inl (g 0, 4, .inl (fw))) :: (ck, .inl (g 0, 4, .inl (upd fc i0 (nI (lr w0))))) :: (fq, .inl (g 0, 4, .inl (ff))) :: (co, .inl (g 0, 228, .inl (fco))) :: (sq, .inl (g 0, 8, .inl (fsq))) :: (uq, .inl (g 2, 128, .inl (fun z => if z < k + 1 then nI 0 else fu z))) :: (gq, .inl (g 0, 7, .inl (fg))) :: wm) H := hP
              have hD : va_D A ((mo, .inr (6, [.int (nI 0), .int (nI M), .int (nI kd), .int (nI rr), .int (nI n0), .ref wi, .ref ck, .ref fq, .ref co, .int (nI gt), .int (nI 0), .int (nI 0), .long (lN 0), .int (nI 0), .int (nI 0), .long (lN 0), .int (nI 0), .int (nI 0), .ref sq, .ref uq, .ref gq])) :: (wi, .inl (g 0, 4, .inl (fw))) :: (ck, .inl (g 0, 4, .inl (upd fc i0 (nI (lr w0))))) :: (fq, .inl (g 0, 4, .inl (ff))) :: (co, .inl (g 0, 228, .inl (fco))) :: (sq, .inl (g 0, 8, .inl (fsq))) :: (uq, .inl (g 2, 128, .inl (fun z => if z < k + 1 then nI 0 else fu z))) :: (gq, .inl (g 0, 7, .inl (fg))) :: wm) := hD
              refine lv_iinc (v := nI (k + 1)) (lv' := [(3, .int (nI (k + 1))), (0, .ref mo), (1, .int (nI i0)), (2, .int (nI (lr w0)))]) hx hb d_M_choose_47 hl (k := 3) rfl (nI_1 k) (by decide) rfl (fun ls hl => ?_)
              refine lv_goto (tgt := 33) hx hb d_M_choose_50 (by decide) ?_
              exact ih (k + 1) _ _ _ (by omega) (by omega) (lv_sub hl [1, 2, 3, 0] rfl) hP hD hS
        refine lv_aload_n hx hb d_M_choose_24 rfl (lv_at hl 0 rfl) ?_
        refine va_get (D := D) (ci := 6) (v := .ref ck) (C := R_M) (T := F_M) (N := 21) hx hb hts i_M hown hK hP 0 rfl rfl 6 (by decide) (hts _ m_609) (fun _ h9 => h9) rfl d_M_choose_25 ?_
        refine lv_iload_n hx hb d_M_choose_28 rfl (lv_at hl 1 rfl) ?_
        refine lv_iload_n hx hb d_M_choose_29 rfl (lv_at hl 2 rfl) ?_
        refine lx_iast (f' := upd fc i0 (nI (lr w0))) hx hb hK hP hD hS 2 0 rfl rfl (j := i0) (by omega) (by omega) (rfl) d_M_choose_30 (fun H locs hP hD hS => ?_)
        have hP : va_P D vwCl ((mo, .inr (6, [.int (nI 0), .int (nI M), .int (nI kd), .int (nI rr), .int (nI n0), .ref wi, .ref ck, .ref fq, .ref co, .int (nI gt), .int (nI 0), .int (nI 0), .long (lN 0), .int (nI 0), .int (nI 0), .long (lN 0), .int (nI 0), .int (nI 0), .ref sq, .ref uq, .ref gq])) :: (wi, .inl (g 0, 4, .inl (fw))) :: (ck, .inl (g 0, 4, .inl (upd fc i0 (nI (lr w0))))) :: (fq, .inl (g 0, 4, .inl (ff))) :: (co, .inl (g 0, 228, .inl (fco))) :: (sq, .inl (g 0, 8, .inl (fsq))) :: (uq, .inl (g 2, 128, .inl (fu))) :: (gq, .inl (g 0, 7, .inl (fg))) :: wm) H := hP
        have hD : va_D A ((mo, .inr (6, [.int (nI 0), .int (nI M), .int (nI kd), .int (nI rr), .int (nI n0), .ref wi, .ref ck, .ref fq, .ref co, .int (nI gt), .int (nI 0), .int (nI 0), .long (lN 0), .int (nI 0), .int (nI 0), .long (lN 0), .int (nI 0), .int (nI 0), .ref sq, .ref uq, .ref gq])) :: (wi, .inl (g 0, 4, .inl (fw))) :: (ck, .inl (g 0, 4, .inl (upd fc i0 (nI (lr w0))))) :: (fq, .inl (g 0, 4, .inl (ff))) :: (co, .inl (g 0, 228, .inl (fco))) :: (sq, .inl (g 0, 8, .inl (fsq))) :: (uq, .inl (g 2, 128, .inl (fu))) :: (gq, .inl (g 0, 7, .inl (fg))) :: wm) := hD
        refine lv_iconst (v := nI 0) hx hb d_M_choose_31 (by decide) ?_
        refine lv_istore_n (lv' := [(3, .int (nI 0)), (0, .ref mo), (1, .int (nI i0)), (2, .int (nI (lr w0)))]) hx hb d_M_choose_32 rfl hl (by decide) rfl (fun ls hl => ?_)
        have hP : va_P D vwCl ((mo, .inr (6, [.int (nI 0), .int (nI M), .int (nI kd), .int (nI rr), .int (nI n0), .ref wi, .ref ck, .ref fq, .ref co, .int (nI gt), .int (nI 0), .int (nI 0), .long (lN 0), .int (nI 0), .int (nI 0), .long (lN 0), .int (nI 0), .int (nI 0), .ref sq, .ref uq, .ref gq])) :: (wi, .inl (g 0, 4, .inl (fw))) :: (ck, .inl (g 0, 4, .inl (upd fc i0 (nI (lr w0))))) :: (fq, .inl (g 0, 4, .inl (ff))) :: (co, .inl (g 0, 228, .inl (fco))) :: (sq, .inl (g 0, 8, .inl (fsq))) :: (uq, .inl (g 2, 128, .inl (fun z => if z < 0 then nI 0 else fu z))) :: (gq, .inl (g 0, 7, .inl (fg))) :: wm) H := wp_at 6 hP rfl (fun j hj => by rw [if_neg (Nat.not_lt_zero _)])
        have hD : va_D A ((mo, .inr (6, [.int (nI 0), .int (nI M), .int (nI kd), .int (nI rr), .int (nI n0), .ref wi, .ref ck, .ref fq, .ref co, .int (nI gt), .int (nI 0), .int (nI 0), .long (lN 0), .int (nI 0), .int (nI 0), .long (lN 0), .int (nI 0), .int (nI 0), .ref sq, .ref uq, .ref gq])) :: (wi, .inl (g 0, 4, .inl (fw))) :: (ck, .inl (g 0, 4, .inl (upd fc i0 (nI (lr w0))))) :: (fq, .inl (g 0, 4, .inl (ff))) :: (co, .inl (g 0, 228, .inl (fco))) :: (sq, .inl (g 0, 8, .inl (fsq))) :: (uq, .inl (g 2, 128, .inl (fun z => if z < 0 then nI 0 else fu z))) :: (gq, .inl (g 0, 7, .inl (fg))) :: wm) := hD.set (p := 6) rfl
        exact lp33 129 0 _ _ _ (by omega) (by omega) (lv_sub hl [1, 2, 3, 0] rfl) hP hD hS
      · skip
        have hm9 := lr_more hw9 hk4 hlq c15
        refine lv_iinc (v := nI (k + 1)) (lv' := [(2, .int (nI (k + 1))), (0, .ref mo), (1, .int (nI i0))]) hx hb d_M_choose_18 hl (k := 2) rfl (nI_1 k) (by decide) rfl (fun ls hl => ?_)
        refine lv_goto (tgt := 2) hx hb d_M_choose_21 (by decide) ?_
        exact ih (k + 1) _ _ _ (by omega) (hm9.1) (hm9.2) (lv_sub hl [1, 2, 0] rfl) hP hD hS
  refine lv_iconst (v := nI 4) hx hb d_M_choose_0 (by decide) ?_
  refine lv_istore_n (lv' := [(2, .int (nI 4)), (0, .ref mo), (1, .int (nI i0))]) hx hb d_M_choose_1 rfl hl (by decide) rfl (fun ls hl => ?_)
  exact lp2 8 4 _ _ _ (by omega) (Or.inl rfl) (⟨Or.inl (by decide), Or.inl (by decide), Or.inl (by decide)⟩) (lv_sub hl [1, 2, 0] rfl) hP hD hS
