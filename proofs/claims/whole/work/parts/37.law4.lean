abbrev cL_law : ByteArray := code
theorem kw_51 {args : Array Value} {s : State} (h : ∀ w ∈ kws, w.before args s = true) : (Cond.initialized RL).before args s = true := h _ (k_in (List.mem_of_getElem? (i := 51) (by decide +kernel)) (by decide +kernel))
theorem kw_249 {args : Array Value} {s : State} (h : ∀ w ∈ kws, w.before args s = true) : (Cond.methodLink RL 67 yX5_read).before args s = true := h _ (k_in (List.mem_of_getElem? (i := 249) (by decide +kernel)) (by decide +kernel))
theorem kw_447 {args : Array Value} {s : State} (h : ∀ w ∈ kws, w.before args s = true) : (Cond.methodLink RL 71 yX5_at).before args s = true := h _ (k_in (List.mem_of_getElem? (i := 447) (by decide +kernel)) (by decide +kernel))
theorem kw_451 {args : Array Value} {s : State} (h : ∀ w ∈ kws, w.before args s = true) : (Cond.methodLink RL 75 yX5_state).before args s = true := h _ (k_in (List.mem_of_getElem? (i := 451) (by decide +kernel)) (by decide +kernel))
theorem kw_455 {args : Array Value} {s : State} (h : ∀ w ∈ kws, w.before args s = true) : (Cond.methodLink RL 79 yX5_freedom).before args s = true := h _ (k_in (List.mem_of_getElem? (i := 455) (by decide +kernel)) (by decide +kernel))
theorem kw_459 {args : Array Value} {s : State} (h : ∀ w ∈ kws, w.before args s = true) : (Cond.methodLink RL 83 yX5_formulas).before args s = true := h _ (k_in (List.mem_of_getElem? (i := 459) (by decide +kernel)) (by decide +kernel))
theorem kw_463 {args : Array Value} {s : State} (h : ∀ w ∈ kws, w.before args s = true) : (Cond.methodLink RL 87 yX5_kinds).before args s = true := h _ (k_in (List.mem_of_getElem? (i := 463) (by decide +kernel)) (by decide +kernel))
theorem kw_468 {args : Array Value} {s : State} (h : ∀ w ∈ kws, w.before args s = true) : (Cond.methodLink RL 57 yL_type).before args s = true := h _ (k_in (List.mem_of_getElem? (i := 468) (by decide +kernel)) (by decide +kernel))
theorem kw_469 {args : Array Value} {s : State} (h : ∀ w ∈ kws, w.before args s = true) : (Cond.static yL_type).before args s = true := h _ (k_in (List.mem_of_getElem? (i := 469) (by decide +kernel)) (by decide +kernel))
theorem kw_569 {args : Array Value} {s : State} (h : ∀ w ∈ kws, w.before args s = true) : (Cond.methodLink RL 91 yL_name).before args s = true := h _ (k_in (List.mem_of_getElem? (i := 569) (by decide +kernel)) (by decide +kernel))
theorem kw_570 {args : Array Value} {s : State} (h : ∀ w ∈ kws, w.before args s = true) : (Cond.static yL_name).before args s = true := h _ (k_in (List.mem_of_getElem? (i := 570) (by decide +kernel)) (by decide +kernel))
theorem kw_600 {args : Array Value} {s : State} (h : ∀ w ∈ kws, w.before args s = true) : (Cond.methodLink RL 95 yL_has).before args s = true := h _ (k_in (List.mem_of_getElem? (i := 600) (by decide +kernel)) (by decide +kernel))
theorem kw_601 {args : Array Value} {s : State} (h : ∀ w ∈ kws, w.before args s = true) : (Cond.static yL_has).before args s = true := h _ (k_in (List.mem_of_getElem? (i := 601) (by decide +kernel)) (by decide +kernel))
theorem kw_609 {args : Array Value} {s : State} (h : ∀ w ∈ kws, w.before args s = true) : (Cond.methodLink RL 99 yL_product).before args s = true := h _ (k_in (List.mem_of_getElem? (i := 609) (by decide +kernel)) (by decide +kernel))
theorem kw_610 {args : Array Value} {s : State} (h : ∀ w ∈ kws, w.before args s = true) : (Cond.static yL_product).before args s = true := h _ (k_in (List.mem_of_getElem? (i := 610) (by decide +kernel)) (by decide +kernel))
theorem kw_617 {args : Array Value} {s : State} (h : ∀ w ∈ kws, w.before args s = true) : (Cond.methodLink RL 102 yL_free).before args s = true := h _ (k_in (List.mem_of_getElem? (i := 617) (by decide +kernel)) (by decide +kernel))
theorem kw_618 {args : Array Value} {s : State} (h : ∀ w ∈ kws, w.before args s = true) : (Cond.static yL_free).before args s = true := h _ (k_in (List.mem_of_getElem? (i := 618) (by decide +kernel)) (by decide +kernel))
theorem kw_624 {args : Array Value} {s : State} (h : ∀ w ∈ kws, w.before args s = true) : (Cond.methodLink RL 105 yL_number).before args s = true := h _ (k_in (List.mem_of_getElem? (i := 624) (by decide +kernel)) (by decide +kernel))
theorem kw_625 {args : Array Value} {s : State} (h : ∀ w ∈ kws, w.before args s = true) : (Cond.static yL_number).before args s = true := h _ (k_in (List.mem_of_getElem? (i := 625) (by decide +kernel)) (by decide +kernel))
theorem kw_631 {args : Array Value} {s : State} (h : ∀ w ∈ kws, w.before args s = true) : (Cond.methodLink RL 108 yL_weight).before args s = true := h _ (k_in (List.mem_of_getElem? (i := 631) (by decide +kernel)) (by decide +kernel))
theorem kw_632 {args : Array Value} {s : State} (h : ∀ w ∈ kws, w.before args s = true) : (Cond.static yL_weight).before args s = true := h _ (k_in (List.mem_of_getElem? (i := 632) (by decide +kernel)) (by decide +kernel))
theorem kw_654 {args : Array Value} {s : State} (h : ∀ w ∈ kws, w.before args s = true) : (Cond.methodLink RL 111 yL_written).before args s = true := h _ (k_in (List.mem_of_getElem? (i := 654) (by decide +kernel)) (by decide +kernel))
theorem kw_655 {args : Array Value} {s : State} (h : ∀ w ∈ kws, w.before args s = true) : (Cond.static yL_written).before args s = true := h _ (k_in (List.mem_of_getElem? (i := 655) (by decide +kernel)) (by decide +kernel))
theorem kw_665 {args : Array Value} {s : State} (h : ∀ w ∈ kws, w.before args s = true) : (Cond.methodLink RL 114 yL_solves).before args s = true := h _ (k_in (List.mem_of_getElem? (i := 665) (by decide +kernel)) (by decide +kernel))
theorem kw_666 {args : Array Value} {s : State} (h : ∀ w ∈ kws, w.before args s = true) : (Cond.static yL_solves).before args s = true := h _ (k_in (List.mem_of_getElem? (i := 666) (by decide +kernel)) (by decide +kernel))
theorem kw_773 {args : Array Value} {s : State} (h : ∀ w ∈ kws, w.before args s = true) : (Cond.methodLink RL 63 yX6_thrown).before args s = true := h _ (k_in (List.mem_of_getElem? (i := 773) (by decide +kernel)) (by decide +kernel))
theorem kw_777 {args : Array Value} {s : State} (h : ∀ w ∈ kws, w.before args s = true) : (Cond.methodLink RL 62 yX6_type).before args s = true := h _ (k_in (List.mem_of_getElem? (i := 777) (by decide +kernel)) (by decide +kernel))
theorem kw_784 {args : Array Value} {s : State} (h : ∀ w ∈ kws, w.before args s = true) : (Cond.methodLink RL 70 yX6_read).before args s = true := h _ (k_in (List.mem_of_getElem? (i := 784) (by decide +kernel)) (by decide +kernel))
theorem kw_902 {args : Array Value} {s : State} (h : ∀ w ∈ kws, w.before args s = true) : (Cond.methodLink RL 74 yX6_at).before args s = true := h _ (k_in (List.mem_of_getElem? (i := 902) (by decide +kernel)) (by decide +kernel))
theorem kw_906 {args : Array Value} {s : State} (h : ∀ w ∈ kws, w.before args s = true) : (Cond.methodLink RL 78 yX6_state).before args s = true := h _ (k_in (List.mem_of_getElem? (i := 906) (by decide +kernel)) (by decide +kernel))
theorem kw_910 {args : Array Value} {s : State} (h : ∀ w ∈ kws, w.before args s = true) : (Cond.methodLink RL 82 yX6_freedom).before args s = true := h _ (k_in (List.mem_of_getElem? (i := 910) (by decide +kernel)) (by decide +kernel))
theorem kw_914 {args : Array Value} {s : State} (h : ∀ w ∈ kws, w.before args s = true) : (Cond.methodLink RL 86 yX6_formulas).before args s = true := h _ (k_in (List.mem_of_getElem? (i := 914) (by decide +kernel)) (by decide +kernel))
theorem kw_918 {args : Array Value} {s : State} (h : ∀ w ∈ kws, w.before args s = true) : (Cond.methodLink RL 90 yX6_kinds).before args s = true := h _ (k_in (List.mem_of_getElem? (i := 918) (by decide +kernel)) (by decide +kernel))
theorem kw_922 {args : Array Value} {s : State} (h : ∀ w ∈ kws, w.before args s = true) : (Cond.methodLink RL 94 yX6_name).before args s = true := h _ (k_in (List.mem_of_getElem? (i := 922) (by decide +kernel)) (by decide +kernel))
theorem kw_930 {args : Array Value} {s : State} (h : ∀ w ∈ kws, w.before args s = true) : (Cond.methodLink RL 98 yX6_has).before args s = true := h _ (k_in (List.mem_of_getElem? (i := 930) (by decide +kernel)) (by decide +kernel))
theorem kw_938 {args : Array Value} {s : State} (h : ∀ w ∈ kws, w.before args s = true) : (Cond.methodLink RL 101 yX6_product).before args s = true := h _ (k_in (List.mem_of_getElem? (i := 938) (by decide +kernel)) (by decide +kernel))
theorem kw_942 {args : Array Value} {s : State} (h : ∀ w ∈ kws, w.before args s = true) : (Cond.methodLink RL 104 yX6_free).before args s = true := h _ (k_in (List.mem_of_getElem? (i := 942) (by decide +kernel)) (by decide +kernel))
theorem kw_946 {args : Array Value} {s : State} (h : ∀ w ∈ kws, w.before args s = true) : (Cond.methodLink RL 107 yX6_number).before args s = true := h _ (k_in (List.mem_of_getElem? (i := 946) (by decide +kernel)) (by decide +kernel))
theorem kw_950 {args : Array Value} {s : State} (h : ∀ w ∈ kws, w.before args s = true) : (Cond.methodLink RL 110 yX6_weight).before args s = true := h _ (k_in (List.mem_of_getElem? (i := 950) (by decide +kernel)) (by decide +kernel))
theorem kw_954 {args : Array Value} {s : State} (h : ∀ w ∈ kws, w.before args s = true) : (Cond.methodLink RL 113 yX6_written).before args s = true := h _ (k_in (List.mem_of_getElem? (i := 954) (by decide +kernel)) (by decide +kernel))
theorem kw_958 {args : Array Value} {s : State} (h : ∀ w ∈ kws, w.before args s = true) : (Cond.methodLink RL 117 yX6_solves).before args s = true := h _ (k_in (List.mem_of_getElem? (i := 958) (by decide +kernel)) (by decide +kernel))
theorem kw_962 {args : Array Value} {s : State} (h : ∀ w ∈ kws, w.before args s = true) : (Cond.constantLong RL 55 4294967295).before args s = true := h _ (k_in (List.mem_of_getElem? (i := 962) (by decide +kernel)) (by decide +kernel))
theorem dL_law_0 : decode cL_law 0 = .ok (.new 8, 3) := by decide +kernel
theorem dL_law_3 : decode cL_law 3 = .ok (.dup, 1) := by decide +kernel
theorem dL_law_4 : decode cL_law 4 = .ok (.invokespecial 51, 3) := by decide +kernel
theorem dL_law_7 : decode cL_law 7 = .ok (.astore_n 1, 1) := by decide +kernel
theorem dL_law_8 : decode cL_law 8 = .ok (.new 52, 3) := by decide +kernel
theorem dL_law_11 : decode cL_law 11 = .ok (.dup, 1) := by decide +kernel
theorem dL_law_12 : decode cL_law 12 = .ok (.invokespecial 54, 3) := by decide +kernel
theorem dL_law_15 : decode cL_law 15 = .ok (.astore_n 2, 1) := by decide +kernel
theorem dL_law_16 : decode cL_law 16 = .ok (.iconst 1, 1) := by decide +kernel
theorem dL_law_17 : decode cL_law 17 = .ok (.newarray .long, 2) := by decide +kernel
theorem dL_law_19 : decode cL_law 19 = .ok (.astore_n 3, 1) := by decide +kernel
theorem dL_law_20 : decode cL_law 20 = .ok (.iconst 0, 1) := by decide +kernel
theorem dL_law_21 : decode cL_law 21 = .ok (.istore 4, 2) := by decide +kernel
theorem dL_law_23 : decode cL_law 23 = .ok (.iload 4, 2) := by decide +kernel
theorem dL_law_25 : decode cL_law 25 = .ok (.aload_n 0, 1) := by decide +kernel
theorem dL_law_26 : decode cL_law 26 = .ok (.arraylength, 1) := by decide +kernel
theorem dL_law_27 : decode cL_law 27 = .ok (.bipush 6, 2) := by decide +kernel
theorem dL_law_29 : decode cL_law 29 = .ok (.isub, 1) := by decide +kernel
theorem dL_law_30 : decode cL_law 30 = .ok (.if_icmp .gt 797, 3) := by decide +kernel
theorem dL_law_33 : decode cL_law 33 = .ok (.aload_n 0, 1) := by decide +kernel
theorem dL_law_34 : decode cL_law 34 = .ok (.iload 4, 2) := by decide +kernel
theorem dL_law_36 : decode cL_law 36 = .ok (.iaload, 1) := by decide +kernel
theorem dL_law_37 : decode cL_law 37 = .ok (.bipush 15, 2) := by decide +kernel
theorem dL_law_39 : decode cL_law 39 = .ok (.iand, 1) := by decide +kernel
theorem dL_law_116 : decode cL_law 116 = .ok (.aload_n 1, 1) := by decide +kernel
theorem dL_law_117 : decode cL_law 117 = .ok (.aload_n 0, 1) := by decide +kernel
theorem dL_law_118 : decode cL_law 118 = .ok (.iload 4, 2) := by decide +kernel
theorem dL_law_120 : decode cL_law 120 = .ok (.iconst 1, 1) := by decide +kernel
theorem dL_law_121 : decode cL_law 121 = .ok (.iadd, 1) := by decide +kernel
theorem dL_law_122 : decode cL_law 122 = .ok (.iaload, 1) := by decide +kernel
theorem dL_law_123 : decode cL_law 123 = .ok (.i2l, 1) := by decide +kernel
theorem dL_law_124 : decode cL_law 124 = .ok (.bipush 32, 2) := by decide +kernel
theorem dL_law_126 : decode cL_law 126 = .ok (.lshl, 1) := by decide +kernel
theorem dL_law_127 : decode cL_law 127 = .ok (.aload_n 0, 1) := by decide +kernel
theorem dL_law_128 : decode cL_law 128 = .ok (.iload 4, 2) := by decide +kernel
theorem dL_law_130 : decode cL_law 130 = .ok (.iconst 2, 1) := by decide +kernel
theorem dL_law_131 : decode cL_law 131 = .ok (.iadd, 1) := by decide +kernel
theorem dL_law_132 : decode cL_law 132 = .ok (.iaload, 1) := by decide +kernel
theorem dL_law_133 : decode cL_law 133 = .ok (.i2l, 1) := by decide +kernel
theorem dL_law_134 : decode cL_law 134 = .ok (.ldc2_w 55, 3) := by decide +kernel
theorem dL_law_137 : decode cL_law 137 = .ok (.land, 1) := by decide +kernel
theorem dL_law_138 : decode cL_law 138 = .ok (.lor, 1) := by decide +kernel
theorem dL_law_139 : decode cL_law 139 = .ok (.aload_n 3, 1) := by decide +kernel
theorem dL_law_140 : decode cL_law 140 = .ok (.invokestatic 57, 3) := by decide +kernel
theorem dL_law_143 : decode cL_law 143 = .ok (.istore 5, 2) := by decide +kernel
theorem dL_law_145 : decode cL_law 145 = .ok (.aload_n 2, 1) := by decide +kernel
theorem dL_law_146 : decode cL_law 146 = .ok (.aload_n 0, 1) := by decide +kernel
theorem dL_law_147 : decode cL_law 147 = .ok (.iload 4, 2) := by decide +kernel
theorem dL_law_149 : decode cL_law 149 = .ok (.iconst 1, 1) := by decide +kernel
theorem dL_law_150 : decode cL_law 150 = .ok (.iadd, 1) := by decide +kernel
theorem dL_law_151 : decode cL_law 151 = .ok (.iaload, 1) := by decide +kernel
theorem dL_law_152 : decode cL_law 152 = .ok (.i2l, 1) := by decide +kernel
theorem dL_law_153 : decode cL_law 153 = .ok (.bipush 32, 2) := by decide +kernel
theorem dL_law_155 : decode cL_law 155 = .ok (.lshl, 1) := by decide +kernel
theorem dL_law_156 : decode cL_law 156 = .ok (.aload_n 0, 1) := by decide +kernel
theorem dL_law_157 : decode cL_law 157 = .ok (.iload 4, 2) := by decide +kernel
theorem dL_law_159 : decode cL_law 159 = .ok (.iconst 2, 1) := by decide +kernel
theorem dL_law_160 : decode cL_law 160 = .ok (.iadd, 1) := by decide +kernel
theorem dL_law_161 : decode cL_law 161 = .ok (.iaload, 1) := by decide +kernel
theorem dL_law_162 : decode cL_law 162 = .ok (.i2l, 1) := by decide +kernel
theorem dL_law_163 : decode cL_law 163 = .ok (.ldc2_w 55, 3) := by decide +kernel
theorem dL_law_166 : decode cL_law 166 = .ok (.land, 1) := by decide +kernel
theorem dL_law_167 : decode cL_law 167 = .ok (.lor, 1) := by decide +kernel
theorem dL_law_168 : decode cL_law 168 = .ok (.invokevirtual 62, 3) := by decide +kernel
theorem dL_law_171 : decode cL_law 171 = .ok (.istore 6, 2) := by decide +kernel
theorem dL_law_173 : decode cL_law 173 = .ok (.aload_n 2, 1) := by decide +kernel
theorem dL_law_174 : decode cL_law 174 = .ok (.invokevirtual 63, 3) := by decide +kernel
theorem dL_law_177 : decode cL_law 177 = .ok (.iload 5, 2) := by decide +kernel
theorem dL_law_179 : decode cL_law 179 = .ok (.if_icmp .eq 5, 3) := by decide +kernel
theorem dL_law_182 : decode cL_law 182 = .ok (.iconst 0, 1) := by decide +kernel
theorem dL_law_183 : decode cL_law 183 = .ok (.ireturn, 1) := by decide +kernel
theorem dL_law_184 : decode cL_law 184 = .ok (.iload 5, 2) := by decide +kernel
theorem dL_law_186 : decode cL_law 186 = .ok (.ifCond .ne 15, 3) := by decide +kernel
theorem dL_law_189 : decode cL_law 189 = .ok (.aload_n 3, 1) := by decide +kernel
theorem dL_law_190 : decode cL_law 190 = .ok (.iconst 0, 1) := by decide +kernel
theorem dL_law_191 : decode cL_law 191 = .ok (.laload, 1) := by decide +kernel
theorem dL_law_192 : decode cL_law 192 = .ok (.iload 6, 2) := by decide +kernel
theorem dL_law_194 : decode cL_law 194 = .ok (.i2l, 1) := by decide +kernel
theorem dL_law_195 : decode cL_law 195 = .ok (.lcmp, 1) := by decide +kernel
theorem dL_law_196 : decode cL_law 196 = .ok (.ifCond .eq 5, 3) := by decide +kernel
theorem dL_law_199 : decode cL_law 199 = .ok (.iconst 0, 1) := by decide +kernel
theorem dL_law_200 : decode cL_law 200 = .ok (.ireturn, 1) := by decide +kernel
theorem dL_law_201 : decode cL_law 201 = .ok (.goto 620, 3) := by decide +kernel
theorem dL_law_204 : decode cL_law 204 = .ok (.aload_n 1, 1) := by decide +kernel
theorem dL_law_205 : decode cL_law 205 = .ok (.invokevirtual 67, 3) := by decide +kernel
theorem dL_law_208 : decode cL_law 208 = .ok (.aload_n 2, 1) := by decide +kernel
theorem dL_law_209 : decode cL_law 209 = .ok (.invokevirtual 70, 3) := by decide +kernel
theorem dL_law_212 : decode cL_law 212 = .ok (.if_icmp .eq 609, 3) := by decide +kernel
theorem dL_law_215 : decode cL_law 215 = .ok (.iconst 0, 1) := by decide +kernel
theorem dL_law_216 : decode cL_law 216 = .ok (.ireturn, 1) := by decide +kernel
theorem dL_law_217 : decode cL_law 217 = .ok (.aload_n 1, 1) := by decide +kernel
theorem dL_law_218 : decode cL_law 218 = .ok (.invokevirtual 71, 3) := by decide +kernel
theorem dL_law_221 : decode cL_law 221 = .ok (.aload_n 2, 1) := by decide +kernel
theorem dL_law_222 : decode cL_law 222 = .ok (.invokevirtual 74, 3) := by decide +kernel
theorem dL_law_225 : decode cL_law 225 = .ok (.if_icmp .eq 596, 3) := by decide +kernel
theorem dL_law_228 : decode cL_law 228 = .ok (.iconst 0, 1) := by decide +kernel
theorem dL_law_229 : decode cL_law 229 = .ok (.ireturn, 1) := by decide +kernel
theorem dL_law_230 : decode cL_law 230 = .ok (.aload_n 1, 1) := by decide +kernel
theorem dL_law_231 : decode cL_law 231 = .ok (.invokevirtual 75, 3) := by decide +kernel
theorem dL_law_234 : decode cL_law 234 = .ok (.aload_n 2, 1) := by decide +kernel
theorem dL_law_235 : decode cL_law 235 = .ok (.invokevirtual 78, 3) := by decide +kernel
theorem dL_law_238 : decode cL_law 238 = .ok (.if_icmp .eq 583, 3) := by decide +kernel
theorem dL_law_241 : decode cL_law 241 = .ok (.iconst 0, 1) := by decide +kernel
theorem dL_law_242 : decode cL_law 242 = .ok (.ireturn, 1) := by decide +kernel
theorem dL_law_243 : decode cL_law 243 = .ok (.aload_n 1, 1) := by decide +kernel
theorem dL_law_244 : decode cL_law 244 = .ok (.invokevirtual 79, 3) := by decide +kernel
theorem dL_law_247 : decode cL_law 247 = .ok (.aload_n 2, 1) := by decide +kernel
theorem dL_law_248 : decode cL_law 248 = .ok (.invokevirtual 82, 3) := by decide +kernel
theorem dL_law_251 : decode cL_law 251 = .ok (.if_icmp .eq 570, 3) := by decide +kernel
theorem dL_law_254 : decode cL_law 254 = .ok (.iconst 0, 1) := by decide +kernel
theorem dL_law_255 : decode cL_law 255 = .ok (.ireturn, 1) := by decide +kernel
theorem dL_law_256 : decode cL_law 256 = .ok (.aload_n 1, 1) := by decide +kernel
theorem dL_law_257 : decode cL_law 257 = .ok (.invokevirtual 83, 3) := by decide +kernel
theorem dL_law_260 : decode cL_law 260 = .ok (.aload_n 2, 1) := by decide +kernel
theorem dL_law_261 : decode cL_law 261 = .ok (.invokevirtual 86, 3) := by decide +kernel
theorem dL_law_264 : decode cL_law 264 = .ok (.if_icmp .eq 557, 3) := by decide +kernel
theorem dL_law_267 : decode cL_law 267 = .ok (.iconst 0, 1) := by decide +kernel
theorem dL_law_268 : decode cL_law 268 = .ok (.ireturn, 1) := by decide +kernel
theorem dL_law_269 : decode cL_law 269 = .ok (.aload_n 1, 1) := by decide +kernel
theorem dL_law_270 : decode cL_law 270 = .ok (.invokevirtual 87, 3) := by decide +kernel
theorem dL_law_273 : decode cL_law 273 = .ok (.aload_n 2, 1) := by decide +kernel
theorem dL_law_274 : decode cL_law 274 = .ok (.invokevirtual 90, 3) := by decide +kernel
theorem dL_law_277 : decode cL_law 277 = .ok (.if_icmp .eq 544, 3) := by decide +kernel
theorem dL_law_280 : decode cL_law 280 = .ok (.iconst 0, 1) := by decide +kernel
theorem dL_law_281 : decode cL_law 281 = .ok (.ireturn, 1) := by decide +kernel
theorem dL_law_282 : decode cL_law 282 = .ok (.aload_n 1, 1) := by decide +kernel
theorem dL_law_283 : decode cL_law 283 = .ok (.aload_n 0, 1) := by decide +kernel
theorem dL_law_284 : decode cL_law 284 = .ok (.iload 4, 2) := by decide +kernel
theorem dL_law_286 : decode cL_law 286 = .ok (.iconst 1, 1) := by decide +kernel
theorem dL_law_287 : decode cL_law 287 = .ok (.iadd, 1) := by decide +kernel
theorem dL_law_288 : decode cL_law 288 = .ok (.iaload, 1) := by decide +kernel
theorem dL_law_289 : decode cL_law 289 = .ok (.aload_n 3, 1) := by decide +kernel
theorem dL_law_290 : decode cL_law 290 = .ok (.invokestatic 91, 3) := by decide +kernel
theorem dL_law_293 : decode cL_law 293 = .ok (.istore 5, 2) := by decide +kernel
theorem dL_law_295 : decode cL_law 295 = .ok (.aload_n 2, 1) := by decide +kernel
theorem dL_law_296 : decode cL_law 296 = .ok (.aload_n 0, 1) := by decide +kernel
theorem dL_law_297 : decode cL_law 297 = .ok (.iload 4, 2) := by decide +kernel
theorem dL_law_299 : decode cL_law 299 = .ok (.iconst 1, 1) := by decide +kernel
theorem dL_law_300 : decode cL_law 300 = .ok (.iadd, 1) := by decide +kernel
theorem dL_law_301 : decode cL_law 301 = .ok (.iaload, 1) := by decide +kernel
theorem dL_law_302 : decode cL_law 302 = .ok (.invokevirtual 94, 3) := by decide +kernel
theorem dL_law_305 : decode cL_law 305 = .ok (.istore 6, 2) := by decide +kernel
theorem dL_law_307 : decode cL_law 307 = .ok (.aload_n 2, 1) := by decide +kernel
theorem dL_law_308 : decode cL_law 308 = .ok (.invokevirtual 63, 3) := by decide +kernel
theorem dL_law_311 : decode cL_law 311 = .ok (.iload 5, 2) := by decide +kernel
theorem dL_law_313 : decode cL_law 313 = .ok (.if_icmp .eq 5, 3) := by decide +kernel
theorem dL_law_316 : decode cL_law 316 = .ok (.iconst 0, 1) := by decide +kernel
theorem dL_law_317 : decode cL_law 317 = .ok (.ireturn, 1) := by decide +kernel
theorem dL_law_318 : decode cL_law 318 = .ok (.iload 5, 2) := by decide +kernel
theorem dL_law_320 : decode cL_law 320 = .ok (.ifCond .ne 15, 3) := by decide +kernel
theorem dL_law_323 : decode cL_law 323 = .ok (.aload_n 3, 1) := by decide +kernel
theorem dL_law_324 : decode cL_law 324 = .ok (.iconst 0, 1) := by decide +kernel
theorem dL_law_325 : decode cL_law 325 = .ok (.laload, 1) := by decide +kernel
theorem dL_law_326 : decode cL_law 326 = .ok (.iload 6, 2) := by decide +kernel
theorem dL_law_328 : decode cL_law 328 = .ok (.i2l, 1) := by decide +kernel
theorem dL_law_329 : decode cL_law 329 = .ok (.lcmp, 1) := by decide +kernel
theorem dL_law_330 : decode cL_law 330 = .ok (.ifCond .eq 5, 3) := by decide +kernel
theorem dL_law_333 : decode cL_law 333 = .ok (.iconst 0, 1) := by decide +kernel
theorem dL_law_334 : decode cL_law 334 = .ok (.ireturn, 1) := by decide +kernel
theorem dL_law_335 : decode cL_law 335 = .ok (.goto 486, 3) := by decide +kernel
theorem dL_law_338 : decode cL_law 338 = .ok (.aload_n 1, 1) := by decide +kernel
theorem dL_law_339 : decode cL_law 339 = .ok (.aload_n 0, 1) := by decide +kernel
theorem dL_law_340 : decode cL_law 340 = .ok (.iload 4, 2) := by decide +kernel
theorem dL_law_342 : decode cL_law 342 = .ok (.iconst 1, 1) := by decide +kernel
theorem dL_law_343 : decode cL_law 343 = .ok (.iadd, 1) := by decide +kernel
theorem dL_law_344 : decode cL_law 344 = .ok (.iaload, 1) := by decide +kernel
theorem dL_law_345 : decode cL_law 345 = .ok (.aload_n 0, 1) := by decide +kernel
theorem dL_law_346 : decode cL_law 346 = .ok (.iload 4, 2) := by decide +kernel
theorem dL_law_348 : decode cL_law 348 = .ok (.iconst 2, 1) := by decide +kernel
theorem dL_law_349 : decode cL_law 349 = .ok (.iadd, 1) := by decide +kernel
theorem dL_law_350 : decode cL_law 350 = .ok (.iaload, 1) := by decide +kernel
theorem dL_law_351 : decode cL_law 351 = .ok (.aload_n 3, 1) := by decide +kernel
theorem dL_law_352 : decode cL_law 352 = .ok (.invokestatic 95, 3) := by decide +kernel
theorem dL_law_355 : decode cL_law 355 = .ok (.istore 5, 2) := by decide +kernel
theorem dL_law_357 : decode cL_law 357 = .ok (.aload_n 2, 1) := by decide +kernel
theorem dL_law_358 : decode cL_law 358 = .ok (.aload_n 0, 1) := by decide +kernel
theorem dL_law_359 : decode cL_law 359 = .ok (.iload 4, 2) := by decide +kernel
theorem dL_law_361 : decode cL_law 361 = .ok (.iconst 1, 1) := by decide +kernel
theorem dL_law_362 : decode cL_law 362 = .ok (.iadd, 1) := by decide +kernel
theorem dL_law_363 : decode cL_law 363 = .ok (.iaload, 1) := by decide +kernel
theorem dL_law_364 : decode cL_law 364 = .ok (.aload_n 0, 1) := by decide +kernel
theorem dL_law_365 : decode cL_law 365 = .ok (.iload 4, 2) := by decide +kernel
theorem dL_law_367 : decode cL_law 367 = .ok (.iconst 2, 1) := by decide +kernel
theorem dL_law_368 : decode cL_law 368 = .ok (.iadd, 1) := by decide +kernel
theorem dL_law_369 : decode cL_law 369 = .ok (.iaload, 1) := by decide +kernel
theorem dL_law_370 : decode cL_law 370 = .ok (.invokevirtual 98, 3) := by decide +kernel
theorem dL_law_373 : decode cL_law 373 = .ok (.istore 6, 2) := by decide +kernel
theorem dL_law_375 : decode cL_law 375 = .ok (.aload_n 2, 1) := by decide +kernel
theorem dL_law_376 : decode cL_law 376 = .ok (.invokevirtual 63, 3) := by decide +kernel
theorem dL_law_379 : decode cL_law 379 = .ok (.iload 5, 2) := by decide +kernel
theorem dL_law_381 : decode cL_law 381 = .ok (.if_icmp .eq 5, 3) := by decide +kernel
theorem dL_law_384 : decode cL_law 384 = .ok (.iconst 0, 1) := by decide +kernel
theorem dL_law_385 : decode cL_law 385 = .ok (.ireturn, 1) := by decide +kernel
theorem dL_law_386 : decode cL_law 386 = .ok (.iload 5, 2) := by decide +kernel
theorem dL_law_388 : decode cL_law 388 = .ok (.ifCond .ne 15, 3) := by decide +kernel
theorem dL_law_391 : decode cL_law 391 = .ok (.aload_n 3, 1) := by decide +kernel
theorem dL_law_392 : decode cL_law 392 = .ok (.iconst 0, 1) := by decide +kernel
theorem dL_law_393 : decode cL_law 393 = .ok (.laload, 1) := by decide +kernel
theorem dL_law_394 : decode cL_law 394 = .ok (.iload 6, 2) := by decide +kernel
theorem dL_law_396 : decode cL_law 396 = .ok (.i2l, 1) := by decide +kernel
theorem dL_law_397 : decode cL_law 397 = .ok (.lcmp, 1) := by decide +kernel
theorem dL_law_398 : decode cL_law 398 = .ok (.ifCond .eq 5, 3) := by decide +kernel
theorem dL_law_401 : decode cL_law 401 = .ok (.iconst 0, 1) := by decide +kernel
theorem dL_law_402 : decode cL_law 402 = .ok (.ireturn, 1) := by decide +kernel
theorem dL_law_403 : decode cL_law 403 = .ok (.goto 418, 3) := by decide +kernel
theorem dL_law_406 : decode cL_law 406 = .ok (.aload_n 1, 1) := by decide +kernel
theorem dL_law_407 : decode cL_law 407 = .ok (.aload_n 0, 1) := by decide +kernel
theorem dL_law_408 : decode cL_law 408 = .ok (.iload 4, 2) := by decide +kernel
theorem dL_law_410 : decode cL_law 410 = .ok (.iconst 1, 1) := by decide +kernel
theorem dL_law_411 : decode cL_law 411 = .ok (.iadd, 1) := by decide +kernel
theorem dL_law_412 : decode cL_law 412 = .ok (.iaload, 1) := by decide +kernel
theorem dL_law_413 : decode cL_law 413 = .ok (.aload_n 3, 1) := by decide +kernel
theorem dL_law_414 : decode cL_law 414 = .ok (.invokestatic 99, 3) := by decide +kernel
theorem dL_law_417 : decode cL_law 417 = .ok (.istore 5, 2) := by decide +kernel
theorem dL_law_419 : decode cL_law 419 = .ok (.aload_n 2, 1) := by decide +kernel
theorem dL_law_420 : decode cL_law 420 = .ok (.aload_n 0, 1) := by decide +kernel
theorem dL_law_421 : decode cL_law 421 = .ok (.iload 4, 2) := by decide +kernel
theorem dL_law_423 : decode cL_law 423 = .ok (.iconst 1, 1) := by decide +kernel
theorem dL_law_424 : decode cL_law 424 = .ok (.iadd, 1) := by decide +kernel
theorem dL_law_425 : decode cL_law 425 = .ok (.iaload, 1) := by decide +kernel
theorem dL_law_426 : decode cL_law 426 = .ok (.invokevirtual 101, 3) := by decide +kernel
theorem dL_law_429 : decode cL_law 429 = .ok (.istore 6, 2) := by decide +kernel
theorem dL_law_431 : decode cL_law 431 = .ok (.aload_n 2, 1) := by decide +kernel
theorem dL_law_432 : decode cL_law 432 = .ok (.invokevirtual 63, 3) := by decide +kernel
theorem dL_law_435 : decode cL_law 435 = .ok (.iload 5, 2) := by decide +kernel
theorem dL_law_437 : decode cL_law 437 = .ok (.if_icmp .eq 5, 3) := by decide +kernel
theorem dL_law_440 : decode cL_law 440 = .ok (.iconst 0, 1) := by decide +kernel
theorem dL_law_441 : decode cL_law 441 = .ok (.ireturn, 1) := by decide +kernel
theorem dL_law_442 : decode cL_law 442 = .ok (.iload 5, 2) := by decide +kernel
theorem dL_law_444 : decode cL_law 444 = .ok (.ifCond .ne 22, 3) := by decide +kernel
theorem dL_law_447 : decode cL_law 447 = .ok (.aload_n 3, 1) := by decide +kernel
theorem dL_law_448 : decode cL_law 448 = .ok (.iconst 0, 1) := by decide +kernel
theorem dL_law_449 : decode cL_law 449 = .ok (.laload, 1) := by decide +kernel
theorem dL_law_450 : decode cL_law 450 = .ok (.iload 6, 2) := by decide +kernel
theorem dL_law_452 : decode cL_law 452 = .ok (.ifCond .eq 7, 3) := by decide +kernel
theorem dL_law_455 : decode cL_law 455 = .ok (.lconst 1, 1) := by decide +kernel
theorem dL_law_456 : decode cL_law 456 = .ok (.goto 4, 3) := by decide +kernel
theorem dL_law_459 : decode cL_law 459 = .ok (.lconst 0, 1) := by decide +kernel
theorem dL_law_460 : decode cL_law 460 = .ok (.lcmp, 1) := by decide +kernel
theorem dL_law_461 : decode cL_law 461 = .ok (.ifCond .eq 5, 3) := by decide +kernel
theorem dL_law_464 : decode cL_law 464 = .ok (.iconst 0, 1) := by decide +kernel
theorem dL_law_465 : decode cL_law 465 = .ok (.ireturn, 1) := by decide +kernel
theorem dL_law_466 : decode cL_law 466 = .ok (.goto 355, 3) := by decide +kernel
theorem dL_law_469 : decode cL_law 469 = .ok (.aload_n 1, 1) := by decide +kernel
theorem dL_law_470 : decode cL_law 470 = .ok (.aload_n 0, 1) := by decide +kernel
theorem dL_law_471 : decode cL_law 471 = .ok (.iload 4, 2) := by decide +kernel
theorem dL_law_473 : decode cL_law 473 = .ok (.iconst 1, 1) := by decide +kernel
theorem dL_law_474 : decode cL_law 474 = .ok (.iadd, 1) := by decide +kernel
theorem dL_law_475 : decode cL_law 475 = .ok (.iaload, 1) := by decide +kernel
theorem dL_law_476 : decode cL_law 476 = .ok (.aload_n 3, 1) := by decide +kernel
theorem dL_law_477 : decode cL_law 477 = .ok (.invokestatic 102, 3) := by decide +kernel
theorem dL_law_480 : decode cL_law 480 = .ok (.istore 5, 2) := by decide +kernel
theorem dL_law_482 : decode cL_law 482 = .ok (.aload_n 2, 1) := by decide +kernel
theorem dL_law_483 : decode cL_law 483 = .ok (.aload_n 0, 1) := by decide +kernel
theorem dL_law_484 : decode cL_law 484 = .ok (.iload 4, 2) := by decide +kernel
theorem dL_law_486 : decode cL_law 486 = .ok (.iconst 1, 1) := by decide +kernel
theorem dL_law_487 : decode cL_law 487 = .ok (.iadd, 1) := by decide +kernel
theorem dL_law_488 : decode cL_law 488 = .ok (.iaload, 1) := by decide +kernel
theorem dL_law_489 : decode cL_law 489 = .ok (.invokevirtual 104, 3) := by decide +kernel
theorem dL_law_492 : decode cL_law 492 = .ok (.istore 6, 2) := by decide +kernel
theorem dL_law_494 : decode cL_law 494 = .ok (.aload_n 2, 1) := by decide +kernel
theorem dL_law_495 : decode cL_law 495 = .ok (.invokevirtual 63, 3) := by decide +kernel
theorem dL_law_498 : decode cL_law 498 = .ok (.iload 5, 2) := by decide +kernel
theorem dL_law_500 : decode cL_law 500 = .ok (.if_icmp .eq 5, 3) := by decide +kernel
theorem dL_law_503 : decode cL_law 503 = .ok (.iconst 0, 1) := by decide +kernel
theorem dL_law_504 : decode cL_law 504 = .ok (.ireturn, 1) := by decide +kernel
theorem dL_law_505 : decode cL_law 505 = .ok (.iload 5, 2) := by decide +kernel
theorem dL_law_507 : decode cL_law 507 = .ok (.ifCond .ne 22, 3) := by decide +kernel
theorem dL_law_510 : decode cL_law 510 = .ok (.aload_n 3, 1) := by decide +kernel
theorem dL_law_511 : decode cL_law 511 = .ok (.iconst 0, 1) := by decide +kernel
theorem dL_law_512 : decode cL_law 512 = .ok (.laload, 1) := by decide +kernel
theorem dL_law_513 : decode cL_law 513 = .ok (.iload 6, 2) := by decide +kernel
theorem dL_law_515 : decode cL_law 515 = .ok (.ifCond .eq 7, 3) := by decide +kernel
theorem dL_law_518 : decode cL_law 518 = .ok (.lconst 1, 1) := by decide +kernel
theorem dL_law_519 : decode cL_law 519 = .ok (.goto 4, 3) := by decide +kernel
theorem dL_law_522 : decode cL_law 522 = .ok (.lconst 0, 1) := by decide +kernel
theorem dL_law_523 : decode cL_law 523 = .ok (.lcmp, 1) := by decide +kernel
theorem dL_law_524 : decode cL_law 524 = .ok (.ifCond .eq 5, 3) := by decide +kernel
theorem dL_law_527 : decode cL_law 527 = .ok (.iconst 0, 1) := by decide +kernel
theorem dL_law_528 : decode cL_law 528 = .ok (.ireturn, 1) := by decide +kernel
theorem dL_law_529 : decode cL_law 529 = .ok (.goto 292, 3) := by decide +kernel
theorem dL_law_532 : decode cL_law 532 = .ok (.aload_n 1, 1) := by decide +kernel
theorem dL_law_533 : decode cL_law 533 = .ok (.aload_n 0, 1) := by decide +kernel
theorem dL_law_534 : decode cL_law 534 = .ok (.iload 4, 2) := by decide +kernel
theorem dL_law_536 : decode cL_law 536 = .ok (.iconst 1, 1) := by decide +kernel
theorem dL_law_537 : decode cL_law 537 = .ok (.iadd, 1) := by decide +kernel
theorem dL_law_538 : decode cL_law 538 = .ok (.iaload, 1) := by decide +kernel
theorem dL_law_539 : decode cL_law 539 = .ok (.aload_n 0, 1) := by decide +kernel
theorem dL_law_540 : decode cL_law 540 = .ok (.iload 4, 2) := by decide +kernel
theorem dL_law_542 : decode cL_law 542 = .ok (.iconst 2, 1) := by decide +kernel
theorem dL_law_543 : decode cL_law 543 = .ok (.iadd, 1) := by decide +kernel
theorem dL_law_544 : decode cL_law 544 = .ok (.iaload, 1) := by decide +kernel
theorem dL_law_545 : decode cL_law 545 = .ok (.aload_n 3, 1) := by decide +kernel
theorem dL_law_546 : decode cL_law 546 = .ok (.invokestatic 105, 3) := by decide +kernel
theorem dL_law_549 : decode cL_law 549 = .ok (.istore 5, 2) := by decide +kernel
theorem dL_law_551 : decode cL_law 551 = .ok (.aload_n 2, 1) := by decide +kernel
theorem dL_law_552 : decode cL_law 552 = .ok (.aload_n 0, 1) := by decide +kernel
theorem dL_law_553 : decode cL_law 553 = .ok (.iload 4, 2) := by decide +kernel
theorem dL_law_555 : decode cL_law 555 = .ok (.iconst 1, 1) := by decide +kernel
theorem dL_law_556 : decode cL_law 556 = .ok (.iadd, 1) := by decide +kernel
theorem dL_law_557 : decode cL_law 557 = .ok (.iaload, 1) := by decide +kernel
theorem dL_law_558 : decode cL_law 558 = .ok (.aload_n 0, 1) := by decide +kernel
theorem dL_law_559 : decode cL_law 559 = .ok (.iload 4, 2) := by decide +kernel
theorem dL_law_561 : decode cL_law 561 = .ok (.iconst 2, 1) := by decide +kernel
theorem dL_law_562 : decode cL_law 562 = .ok (.iadd, 1) := by decide +kernel
theorem dL_law_563 : decode cL_law 563 = .ok (.iaload, 1) := by decide +kernel
theorem dL_law_564 : decode cL_law 564 = .ok (.invokevirtual 107, 3) := by decide +kernel
theorem dL_law_567 : decode cL_law 567 = .ok (.lstore 6, 2) := by decide +kernel
theorem dL_law_569 : decode cL_law 569 = .ok (.aload_n 2, 1) := by decide +kernel
theorem dL_law_570 : decode cL_law 570 = .ok (.invokevirtual 63, 3) := by decide +kernel
theorem dL_law_573 : decode cL_law 573 = .ok (.iload 5, 2) := by decide +kernel
theorem dL_law_575 : decode cL_law 575 = .ok (.if_icmp .eq 5, 3) := by decide +kernel
theorem dL_law_578 : decode cL_law 578 = .ok (.iconst 0, 1) := by decide +kernel
theorem dL_law_579 : decode cL_law 579 = .ok (.ireturn, 1) := by decide +kernel
theorem dL_law_580 : decode cL_law 580 = .ok (.iload 5, 2) := by decide +kernel
theorem dL_law_582 : decode cL_law 582 = .ok (.ifCond .ne 14, 3) := by decide +kernel
theorem dL_law_585 : decode cL_law 585 = .ok (.aload_n 3, 1) := by decide +kernel
theorem dL_law_586 : decode cL_law 586 = .ok (.iconst 0, 1) := by decide +kernel
theorem dL_law_587 : decode cL_law 587 = .ok (.laload, 1) := by decide +kernel
theorem dL_law_588 : decode cL_law 588 = .ok (.lload 6, 2) := by decide +kernel
theorem dL_law_590 : decode cL_law 590 = .ok (.lcmp, 1) := by decide +kernel
theorem dL_law_591 : decode cL_law 591 = .ok (.ifCond .eq 5, 3) := by decide +kernel
theorem dL_law_594 : decode cL_law 594 = .ok (.iconst 0, 1) := by decide +kernel
theorem dL_law_595 : decode cL_law 595 = .ok (.ireturn, 1) := by decide +kernel
theorem dL_law_596 : decode cL_law 596 = .ok (.goto 225, 3) := by decide +kernel
theorem dL_law_599 : decode cL_law 599 = .ok (.aload_n 1, 1) := by decide +kernel
theorem dL_law_600 : decode cL_law 600 = .ok (.aload_n 0, 1) := by decide +kernel
theorem dL_law_601 : decode cL_law 601 = .ok (.iload 4, 2) := by decide +kernel
theorem dL_law_603 : decode cL_law 603 = .ok (.iconst 1, 1) := by decide +kernel
theorem dL_law_604 : decode cL_law 604 = .ok (.iadd, 1) := by decide +kernel
theorem dL_law_605 : decode cL_law 605 = .ok (.iaload, 1) := by decide +kernel
theorem dL_law_606 : decode cL_law 606 = .ok (.aload_n 3, 1) := by decide +kernel
theorem dL_law_607 : decode cL_law 607 = .ok (.invokestatic 108, 3) := by decide +kernel
theorem dL_law_610 : decode cL_law 610 = .ok (.istore 5, 2) := by decide +kernel
theorem dL_law_612 : decode cL_law 612 = .ok (.aload_n 2, 1) := by decide +kernel
theorem dL_law_613 : decode cL_law 613 = .ok (.aload_n 0, 1) := by decide +kernel
theorem dL_law_614 : decode cL_law 614 = .ok (.iload 4, 2) := by decide +kernel
theorem dL_law_616 : decode cL_law 616 = .ok (.iconst 1, 1) := by decide +kernel
theorem dL_law_617 : decode cL_law 617 = .ok (.iadd, 1) := by decide +kernel
theorem dL_law_618 : decode cL_law 618 = .ok (.iaload, 1) := by decide +kernel
theorem dL_law_619 : decode cL_law 619 = .ok (.invokevirtual 110, 3) := by decide +kernel
theorem dL_law_622 : decode cL_law 622 = .ok (.lstore 6, 2) := by decide +kernel
theorem dL_law_624 : decode cL_law 624 = .ok (.aload_n 2, 1) := by decide +kernel
theorem dL_law_625 : decode cL_law 625 = .ok (.invokevirtual 63, 3) := by decide +kernel
theorem dL_law_628 : decode cL_law 628 = .ok (.iload 5, 2) := by decide +kernel
theorem dL_law_630 : decode cL_law 630 = .ok (.if_icmp .eq 5, 3) := by decide +kernel
theorem dL_law_633 : decode cL_law 633 = .ok (.iconst 0, 1) := by decide +kernel
theorem dL_law_634 : decode cL_law 634 = .ok (.ireturn, 1) := by decide +kernel
theorem dL_law_635 : decode cL_law 635 = .ok (.iload 5, 2) := by decide +kernel
theorem dL_law_637 : decode cL_law 637 = .ok (.ifCond .ne 14, 3) := by decide +kernel
theorem dL_law_640 : decode cL_law 640 = .ok (.aload_n 3, 1) := by decide +kernel
theorem dL_law_641 : decode cL_law 641 = .ok (.iconst 0, 1) := by decide +kernel
theorem dL_law_642 : decode cL_law 642 = .ok (.laload, 1) := by decide +kernel
theorem dL_law_643 : decode cL_law 643 = .ok (.lload 6, 2) := by decide +kernel
theorem dL_law_645 : decode cL_law 645 = .ok (.lcmp, 1) := by decide +kernel
theorem dL_law_646 : decode cL_law 646 = .ok (.ifCond .eq 5, 3) := by decide +kernel
theorem dL_law_649 : decode cL_law 649 = .ok (.iconst 0, 1) := by decide +kernel
theorem dL_law_650 : decode cL_law 650 = .ok (.ireturn, 1) := by decide +kernel
theorem dL_law_651 : decode cL_law 651 = .ok (.goto 170, 3) := by decide +kernel
theorem dL_law_654 : decode cL_law 654 = .ok (.aload_n 1, 1) := by decide +kernel
theorem dL_law_655 : decode cL_law 655 = .ok (.aload_n 0, 1) := by decide +kernel
theorem dL_law_656 : decode cL_law 656 = .ok (.iload 4, 2) := by decide +kernel
theorem dL_law_658 : decode cL_law 658 = .ok (.iconst 1, 1) := by decide +kernel
theorem dL_law_659 : decode cL_law 659 = .ok (.iadd, 1) := by decide +kernel
theorem dL_law_660 : decode cL_law 660 = .ok (.iaload, 1) := by decide +kernel
theorem dL_law_661 : decode cL_law 661 = .ok (.aload_n 3, 1) := by decide +kernel
theorem dL_law_662 : decode cL_law 662 = .ok (.invokestatic 111, 3) := by decide +kernel
theorem dL_law_665 : decode cL_law 665 = .ok (.istore 5, 2) := by decide +kernel
theorem dL_law_667 : decode cL_law 667 = .ok (.aload_n 2, 1) := by decide +kernel
theorem dL_law_668 : decode cL_law 668 = .ok (.aload_n 0, 1) := by decide +kernel
theorem dL_law_669 : decode cL_law 669 = .ok (.iload 4, 2) := by decide +kernel
theorem dL_law_671 : decode cL_law 671 = .ok (.iconst 1, 1) := by decide +kernel
theorem dL_law_672 : decode cL_law 672 = .ok (.iadd, 1) := by decide +kernel
theorem dL_law_673 : decode cL_law 673 = .ok (.iaload, 1) := by decide +kernel
theorem dL_law_674 : decode cL_law 674 = .ok (.invokevirtual 113, 3) := by decide +kernel
theorem dL_law_677 : decode cL_law 677 = .ok (.istore 6, 2) := by decide +kernel
theorem dL_law_679 : decode cL_law 679 = .ok (.aload_n 2, 1) := by decide +kernel
theorem dL_law_680 : decode cL_law 680 = .ok (.invokevirtual 63, 3) := by decide +kernel
theorem dL_law_683 : decode cL_law 683 = .ok (.iload 5, 2) := by decide +kernel
theorem dL_law_685 : decode cL_law 685 = .ok (.if_icmp .eq 5, 3) := by decide +kernel
theorem dL_law_688 : decode cL_law 688 = .ok (.iconst 0, 1) := by decide +kernel
theorem dL_law_689 : decode cL_law 689 = .ok (.ireturn, 1) := by decide +kernel
theorem dL_law_690 : decode cL_law 690 = .ok (.iload 5, 2) := by decide +kernel
theorem dL_law_692 : decode cL_law 692 = .ok (.ifCond .ne 15, 3) := by decide +kernel
theorem dL_law_695 : decode cL_law 695 = .ok (.aload_n 3, 1) := by decide +kernel
theorem dL_law_696 : decode cL_law 696 = .ok (.iconst 0, 1) := by decide +kernel
theorem dL_law_697 : decode cL_law 697 = .ok (.laload, 1) := by decide +kernel
theorem dL_law_698 : decode cL_law 698 = .ok (.iload 6, 2) := by decide +kernel
theorem dL_law_700 : decode cL_law 700 = .ok (.i2l, 1) := by decide +kernel
theorem dL_law_701 : decode cL_law 701 = .ok (.lcmp, 1) := by decide +kernel
theorem dL_law_702 : decode cL_law 702 = .ok (.ifCond .eq 5, 3) := by decide +kernel
theorem dL_law_705 : decode cL_law 705 = .ok (.iconst 0, 1) := by decide +kernel
theorem dL_law_706 : decode cL_law 706 = .ok (.ireturn, 1) := by decide +kernel
theorem dL_law_707 : decode cL_law 707 = .ok (.goto 114, 3) := by decide +kernel
theorem dL_law_710 : decode cL_law 710 = .ok (.aload_n 1, 1) := by decide +kernel
theorem dL_law_711 : decode cL_law 711 = .ok (.aload_n 0, 1) := by decide +kernel
theorem dL_law_712 : decode cL_law 712 = .ok (.iload 4, 2) := by decide +kernel
theorem dL_law_714 : decode cL_law 714 = .ok (.iconst 1, 1) := by decide +kernel
theorem dL_law_715 : decode cL_law 715 = .ok (.iadd, 1) := by decide +kernel
theorem dL_law_716 : decode cL_law 716 = .ok (.iaload, 1) := by decide +kernel
theorem dL_law_717 : decode cL_law 717 = .ok (.aload_n 0, 1) := by decide +kernel
theorem dL_law_718 : decode cL_law 718 = .ok (.iload 4, 2) := by decide +kernel
theorem dL_law_720 : decode cL_law 720 = .ok (.iconst 2, 1) := by decide +kernel
theorem dL_law_721 : decode cL_law 721 = .ok (.iadd, 1) := by decide +kernel
theorem dL_law_722 : decode cL_law 722 = .ok (.iaload, 1) := by decide +kernel
theorem dL_law_723 : decode cL_law 723 = .ok (.aload_n 0, 1) := by decide +kernel
theorem dL_law_724 : decode cL_law 724 = .ok (.iload 4, 2) := by decide +kernel
theorem dL_law_726 : decode cL_law 726 = .ok (.iconst 3, 1) := by decide +kernel
theorem dL_law_727 : decode cL_law 727 = .ok (.iadd, 1) := by decide +kernel
theorem dL_law_728 : decode cL_law 728 = .ok (.iaload, 1) := by decide +kernel
theorem dL_law_729 : decode cL_law 729 = .ok (.aload_n 0, 1) := by decide +kernel
theorem dL_law_730 : decode cL_law 730 = .ok (.iload 4, 2) := by decide +kernel
theorem dL_law_732 : decode cL_law 732 = .ok (.iconst 4, 1) := by decide +kernel
theorem dL_law_733 : decode cL_law 733 = .ok (.iadd, 1) := by decide +kernel
theorem dL_law_734 : decode cL_law 734 = .ok (.iaload, 1) := by decide +kernel
theorem dL_law_735 : decode cL_law 735 = .ok (.aload_n 0, 1) := by decide +kernel
theorem dL_law_736 : decode cL_law 736 = .ok (.iload 4, 2) := by decide +kernel
theorem dL_law_738 : decode cL_law 738 = .ok (.iconst 5, 1) := by decide +kernel
theorem dL_law_739 : decode cL_law 739 = .ok (.iadd, 1) := by decide +kernel
theorem dL_law_740 : decode cL_law 740 = .ok (.iaload, 1) := by decide +kernel
theorem dL_law_741 : decode cL_law 741 = .ok (.aload_n 3, 1) := by decide +kernel
theorem dL_law_742 : decode cL_law 742 = .ok (.invokestatic 114, 3) := by decide +kernel
theorem dL_law_745 : decode cL_law 745 = .ok (.istore 5, 2) := by decide +kernel
theorem dL_law_747 : decode cL_law 747 = .ok (.aload_n 2, 1) := by decide +kernel
theorem dL_law_748 : decode cL_law 748 = .ok (.aload_n 0, 1) := by decide +kernel
theorem dL_law_749 : decode cL_law 749 = .ok (.iload 4, 2) := by decide +kernel
theorem dL_law_751 : decode cL_law 751 = .ok (.iconst 1, 1) := by decide +kernel
theorem dL_law_752 : decode cL_law 752 = .ok (.iadd, 1) := by decide +kernel
theorem dL_law_753 : decode cL_law 753 = .ok (.iaload, 1) := by decide +kernel
theorem dL_law_754 : decode cL_law 754 = .ok (.aload_n 0, 1) := by decide +kernel
theorem dL_law_755 : decode cL_law 755 = .ok (.iload 4, 2) := by decide +kernel
theorem dL_law_757 : decode cL_law 757 = .ok (.iconst 2, 1) := by decide +kernel
theorem dL_law_758 : decode cL_law 758 = .ok (.iadd, 1) := by decide +kernel
theorem dL_law_759 : decode cL_law 759 = .ok (.iaload, 1) := by decide +kernel
theorem dL_law_760 : decode cL_law 760 = .ok (.aload_n 0, 1) := by decide +kernel
theorem dL_law_761 : decode cL_law 761 = .ok (.iload 4, 2) := by decide +kernel
theorem dL_law_763 : decode cL_law 763 = .ok (.iconst 3, 1) := by decide +kernel
theorem dL_law_764 : decode cL_law 764 = .ok (.iadd, 1) := by decide +kernel
theorem dL_law_765 : decode cL_law 765 = .ok (.iaload, 1) := by decide +kernel
theorem dL_law_766 : decode cL_law 766 = .ok (.aload_n 0, 1) := by decide +kernel
theorem dL_law_767 : decode cL_law 767 = .ok (.iload 4, 2) := by decide +kernel
theorem dL_law_769 : decode cL_law 769 = .ok (.iconst 4, 1) := by decide +kernel
theorem dL_law_770 : decode cL_law 770 = .ok (.iadd, 1) := by decide +kernel
theorem dL_law_771 : decode cL_law 771 = .ok (.iaload, 1) := by decide +kernel
theorem dL_law_772 : decode cL_law 772 = .ok (.aload_n 0, 1) := by decide +kernel
theorem dL_law_773 : decode cL_law 773 = .ok (.iload 4, 2) := by decide +kernel
theorem dL_law_775 : decode cL_law 775 = .ok (.iconst 5, 1) := by decide +kernel
theorem dL_law_776 : decode cL_law 776 = .ok (.iadd, 1) := by decide +kernel
theorem dL_law_777 : decode cL_law 777 = .ok (.iaload, 1) := by decide +kernel
theorem dL_law_778 : decode cL_law 778 = .ok (.invokevirtual 117, 3) := by decide +kernel
theorem dL_law_781 : decode cL_law 781 = .ok (.istore 6, 2) := by decide +kernel
theorem dL_law_783 : decode cL_law 783 = .ok (.aload_n 2, 1) := by decide +kernel
theorem dL_law_784 : decode cL_law 784 = .ok (.invokevirtual 63, 3) := by decide +kernel
theorem dL_law_787 : decode cL_law 787 = .ok (.iload 5, 2) := by decide +kernel
theorem dL_law_789 : decode cL_law 789 = .ok (.if_icmp .eq 5, 3) := by decide +kernel
theorem dL_law_792 : decode cL_law 792 = .ok (.iconst 0, 1) := by decide +kernel
theorem dL_law_793 : decode cL_law 793 = .ok (.ireturn, 1) := by decide +kernel
theorem dL_law_794 : decode cL_law 794 = .ok (.iload 5, 2) := by decide +kernel
theorem dL_law_796 : decode cL_law 796 = .ok (.ifCond .ne 22, 3) := by decide +kernel
theorem dL_law_799 : decode cL_law 799 = .ok (.aload_n 3, 1) := by decide +kernel
theorem dL_law_800 : decode cL_law 800 = .ok (.iconst 0, 1) := by decide +kernel
theorem dL_law_801 : decode cL_law 801 = .ok (.laload, 1) := by decide +kernel
theorem dL_law_802 : decode cL_law 802 = .ok (.iload 6, 2) := by decide +kernel
theorem dL_law_804 : decode cL_law 804 = .ok (.ifCond .eq 7, 3) := by decide +kernel
theorem dL_law_807 : decode cL_law 807 = .ok (.lconst 1, 1) := by decide +kernel
theorem dL_law_808 : decode cL_law 808 = .ok (.goto 4, 3) := by decide +kernel
theorem dL_law_811 : decode cL_law 811 = .ok (.lconst 0, 1) := by decide +kernel
theorem dL_law_812 : decode cL_law 812 = .ok (.lcmp, 1) := by decide +kernel
theorem dL_law_813 : decode cL_law 813 = .ok (.ifCond .eq 5, 3) := by decide +kernel
theorem dL_law_816 : decode cL_law 816 = .ok (.iconst 0, 1) := by decide +kernel
theorem dL_law_817 : decode cL_law 817 = .ok (.ireturn, 1) := by decide +kernel
theorem dL_law_818 : decode cL_law 818 = .ok (.goto 3, 3) := by decide +kernel
theorem dL_law_821 : decode cL_law 821 = .ok (.iinc 4 6, 3) := by decide +kernel
theorem dL_law_824 : decode cL_law 824 = .ok (.goto (-801), 3) := by decide +kernel
theorem dL_law_827 : decode cL_law 827 = .ok (.iconst 1, 1) := by decide +kernel
theorem dL_law_828 : decode cL_law 828 = .ok (.ireturn, 1) := by decide +kernel
theorem dL_law_40 : decode cL_law 40 = .ok (.tableswitch 781 0 14 #[76, 164, 177, 190, 203, 216, 229, 242, 298, 366, 429, 492, 559, 614, 670], 76) := by decide +kernel
/-! One turn of the law, case by case: what the pure functions must answer ('st_j'), and that the law goes on. -/
section KL4
variable {p : Program} {l : Launch} {e : Env} {R : Room} {s : State} {m : MethodId} {args : Array Value} {below : List Frame} {meth : Method} {c : Code} {H : Heap} {locs : List Loc} {Q : State → Prop} {cells slots : Nat}
variable {cc : ByteArray} {pc : Nat} {ls : Array Slot} {rest : List Value} {D : va_G} {cs : Nat → ClassId} {ad am : Nat → Nat} {ao b L n : Nat} {xs : Nat → Int32} {σK σM : vS} {ov : Nat → Int64}
theorem k_sidx {n : Nat} (k : Nat) {x : Int32} (hx : x = nI k) (h : n + k < 2 ^ 31) : (nI n + x).toNatClampNeg = n + k := by rw [hx, nI_add, nI_clamp h]
theorem k_sin {n L : Nat} (k : Nat) {x : Int32} (hx : x = nI k) (h : n + k < L) (hL : L ≤ 3072) : vp_in (nI n + x) L := by
  rw [hx, nI_add]; exact vp_in_nI h (by omega)
theorem k_sval {n : Nat} {xs : Nat → Int32} (k : Nat) {x : Int32} (hx : x = nI k) (h : n + k < 2 ^ 31) : xs (nI n + x).toNatClampNeg = xs (n + k) := by rw [k_sidx k hx h]
theorem k_sld {i v : Int32} (hX : va_X b L xs s s.heap) (hbl : b < s.heap.size) (hL : k_L D cs ad am ao s σK σM ov H locs) (hexec : p.tables.exec = Jvm.exec) (hb : c.code = cc) (hin : vp_in i L) (hv : xs i.toNatClampNeg = v) (hdg : decode cc pc = .ok (.iaload, 1))
    (kk : W p l e R s m args below meth c H locs cells slots Q (F0 m (pc + 1) ls (.int v :: rest))) : W p l e R s m args below meth c H locs cells slots Q (F0 m pc ls (.int i :: .ref b :: rest)) := by
  subst hv
  exact va_sld (A := fun q => s.heap.size ≤ q) (H0 := s.heap) hexec hb hX hbl (by omega) hL.2.2.2 hin hdg kk
theorem k_ldout {v : Int64} (hE : k_EN D cs s) (hL : k_L D cs ad am ao s σK σM ov H locs) (hv : ov 0 = v) (hexec : p.tables.exec = Jvm.exec) (hb : c.code = cc) (hdg : decode cc pc = .ok (.laload, 1))
    (kk : W p l e R s m args below meth c H locs cells slots Q (F0 m (pc + 1) ls (.long v :: rest))) : W p l e R s m args below meth c H locs cells slots Q (F0 m pc ls (.int 0 :: .ref ao :: rest)) := by
  subst hv
  exact va_lald (i := 0) hexec hb hE.1 hL.2.2.1 0 3 rfl rfl (by unfold vp_in; decide) hdg kk
end KL4
def st_0 (N : Nat) (I : vS → vS → Prop) (σK σM : vS) (xs : Nat → Int32) (n : Nat) : Prop := (∃ (r : Int32) (σK' : vS) (σM' : vS), fX5_type N σK ((((xs (n + 1))).toInt64 <<< ((32 : Int32).toInt64 &&& 63)) ||| (((xs (n + 2))).toInt64 &&& (4294967295 : Int64))) = some (.inl (r, σK')) ∧ fX6_type N σM ((((xs (n + 1))).toInt64 <<< ((32 : Int32).toInt64 &&& 63)) ||| (((xs (n + 2))).toInt64 &&& (4294967295 : Int64))) = some (r, σM') ∧ σM'.1 0 = 0 ∧ I σK' σM') ∨ (∃ (b : Int32) (σM' : vS), fX5_type N σK ((((xs (n + 1))).toInt64 <<< ((32 : Int32).toInt64 &&& 63)) ||| (((xs (n + 2))).toInt64 &&& (4294967295 : Int64))) = some (.inr 0) ∧ fX6_type N σM ((((xs (n + 1))).toInt64 <<< ((32 : Int32).toInt64 &&& 63)) ||| (((xs (n + 2))).toInt64 &&& (4294967295 : Int64))) = some (b, σM') ∧ σM'.1 0 = 1 ∧ I σK σM') ∨ (∃ (b : Int32) (σM' : vS), fX5_type N σK ((((xs (n + 1))).toInt64 <<< ((32 : Int32).toInt64 &&& 63)) ||| (((xs (n + 2))).toInt64 &&& (4294967295 : Int64))) = some (.inr 1) ∧ fX6_type N σM ((((xs (n + 1))).toInt64 <<< ((32 : Int32).toInt64 &&& 63)) ||| (((xs (n + 2))).toInt64 &&& (4294967295 : Int64))) = some (b, σM') ∧ σM'.1 0 = 2 ∧ I σK σM')
def st_1 (N : Nat) (I : vS → vS → Prop) (σK σM : vS) (xs : Nat → Int32) (n : Nat) : Prop := ∃ (r : Int32) (σK' σM' : vS), fX5_read N σK = some (r, σK') ∧ fX6_read N σM = some (r, σM') ∧ I σK' σM'
def st_2 (N : Nat) (I : vS → vS → Prop) (σK σM : vS) (xs : Nat → Int32) (n : Nat) : Prop := ∃ (r : Int32) (σM' : vS), fX5_at N σK = some r ∧ fX6_at N σM = some (r, σM') ∧ I σK σM'
def st_3 (N : Nat) (I : vS → vS → Prop) (σK σM : vS) (xs : Nat → Int32) (n : Nat) : Prop := ∃ (r : Int32) (σM' : vS), fX5_state N σK = some r ∧ fX6_state N σM = some (r, σM') ∧ I σK σM'
def st_4 (N : Nat) (I : vS → vS → Prop) (σK σM : vS) (xs : Nat → Int32) (n : Nat) : Prop := ∃ (r : Int32) (σM' : vS), fX5_freedom N σK = some r ∧ fX6_freedom N σM = some (r, σM') ∧ I σK σM'
def st_5 (N : Nat) (I : vS → vS → Prop) (σK σM : vS) (xs : Nat → Int32) (n : Nat) : Prop := ∃ (r : Int32) (σM' : vS), fX5_formulas N σK = some r ∧ fX6_formulas N σM = some (r, σM') ∧ I σK σM'
def st_6 (N : Nat) (I : vS → vS → Prop) (σK σM : vS) (xs : Nat → Int32) (n : Nat) : Prop := ∃ (r : Int32) (σM' : vS), fX5_kinds N σK = some r ∧ fX6_kinds N σM = some (r, σM') ∧ I σK σM'
def st_7 (N : Nat) (I : vS → vS → Prop) (σK σM : vS) (xs : Nat → Int32) (n : Nat) : Prop := (∃ (r : Int32) (σM' : vS), fX5_name N σK (xs (n + 1)) = some (.inl r) ∧ fX6_name N σM (xs (n + 1)) = some (r, σM') ∧ σM'.1 0 = 0 ∧ I σK σM') ∨ (∃ (b : Int32) (σM' : vS), fX5_name N σK (xs (n + 1)) = some (.inr 2) ∧ fX6_name N σM (xs (n + 1)) = some (b, σM') ∧ σM'.1 0 = 1 ∧ I σK σM')
def st_8 (N : Nat) (I : vS → vS → Prop) (σK σM : vS) (xs : Nat → Int32) (n : Nat) : Prop := (∃ (r : Int32) (σM' : vS), fX5_has N σK (xs (n + 1)) (xs (n + 2)) = some (.inl r) ∧ fX6_has N σM (xs (n + 1)) (xs (n + 2)) = some (r, σM') ∧ σM'.1 0 = 0 ∧ I σK σM') ∨ (∃ (b : Int32) (σM' : vS), fX5_has N σK (xs (n + 1)) (xs (n + 2)) = some (.inr 2) ∧ fX6_has N σM (xs (n + 1)) (xs (n + 2)) = some (b, σM') ∧ σM'.1 0 = 1 ∧ I σK σM')
def st_9 (N : Nat) (I : vS → vS → Prop) (σK σM : vS) (xs : Nat → Int32) (n : Nat) : Prop := (∃ (r : Int32) (σM' : vS), fX5_product N σK (xs (n + 1)) = some (.inl r) ∧ fX6_product N σM (xs (n + 1)) = some (r, σM') ∧ σM'.1 0 = 0 ∧ I σK σM') ∨ (∃ (b : Int32) (σM' : vS), fX5_product N σK (xs (n + 1)) = some (.inr 2) ∧ fX6_product N σM (xs (n + 1)) = some (b, σM') ∧ σM'.1 0 = 1 ∧ I σK σM')
def st_10 (N : Nat) (I : vS → vS → Prop) (σK σM : vS) (xs : Nat → Int32) (n : Nat) : Prop := (∃ (r : Int32) (σM' : vS), fX5_free N σK (xs (n + 1)) = some (.inl r) ∧ fX6_free N σM (xs (n + 1)) = some (r, σM') ∧ σM'.1 0 = 0 ∧ I σK σM') ∨ (∃ (b : Int32) (σM' : vS), fX5_free N σK (xs (n + 1)) = some (.inr 2) ∧ fX6_free N σM (xs (n + 1)) = some (b, σM') ∧ σM'.1 0 = 1 ∧ I σK σM')
def st_11 (N : Nat) (I : vS → vS → Prop) (σK σM : vS) (xs : Nat → Int32) (n : Nat) : Prop := (∃ (r : Int64) (σM' : vS), fX5_number N σK (xs (n + 1)) (xs (n + 2)) = some (.inl r) ∧ fX6_number N σM (xs (n + 1)) (xs (n + 2)) = some (r, σM') ∧ σM'.1 0 = 0 ∧ I σK σM') ∨ (∃ (b : Int64) (σM' : vS), fX5_number N σK (xs (n + 1)) (xs (n + 2)) = some (.inr 2) ∧ fX6_number N σM (xs (n + 1)) (xs (n + 2)) = some (b, σM') ∧ σM'.1 0 = 1 ∧ I σK σM')
def st_12 (N : Nat) (I : vS → vS → Prop) (σK σM : vS) (xs : Nat → Int32) (n : Nat) : Prop := (∃ (r : Int64) (σM' : vS), fX5_weight N σK (xs (n + 1)) = some (.inl r) ∧ fX6_weight N σM (xs (n + 1)) = some (r, σM') ∧ σM'.1 0 = 0 ∧ I σK σM') ∨ (∃ (b : Int64) (σM' : vS), fX5_weight N σK (xs (n + 1)) = some (.inr 2) ∧ fX6_weight N σM (xs (n + 1)) = some (b, σM') ∧ σM'.1 0 = 1 ∧ I σK σM') ∨ (∃ (b : Int64) (σM' : vS), fX5_weight N σK (xs (n + 1)) = some (.inr 3) ∧ fX6_weight N σM (xs (n + 1)) = some (b, σM') ∧ σM'.1 0 = 2 ∧ I σK σM')
def st_13 (N : Nat) (I : vS → vS → Prop) (σK σM : vS) (xs : Nat → Int32) (n : Nat) : Prop := (∃ (r : Int32) (σM' : vS), fX5_written N σK (xs (n + 1)) = some (.inl r) ∧ fX6_written N σM (xs (n + 1)) = some (r, σM') ∧ σM'.1 0 = 0 ∧ I σK σM') ∨ (∃ (b : Int32) (σM' : vS), fX5_written N σK (xs (n + 1)) = some (.inr 3) ∧ fX6_written N σM (xs (n + 1)) = some (b, σM') ∧ σM'.1 0 = 1 ∧ I σK σM')
def st_14 (N : Nat) (I : vS → vS → Prop) (σK σM : vS) (xs : Nat → Int32) (n : Nat) : Prop := (∃ (r : Int32) (σM' : vS), fX5_solves N σK (xs (n + 1)) (xs (n + 2)) (xs (n + 3)) (xs (n + 4)) (xs (n + 5)) = some (.inl r) ∧ fX6_solves N σM (xs (n + 1)) (xs (n + 2)) (xs (n + 3)) (xs (n + 4)) (xs (n + 5)) = some (r, σM') ∧ σM'.1 0 = 0 ∧ I σK σM') ∨ (∃ (b : Int32) (σM' : vS), fX5_solves N σK (xs (n + 1)) (xs (n + 2)) (xs (n + 3)) (xs (n + 4)) (xs (n + 5)) = some (.inr 3) ∧ fX6_solves N σM (xs (n + 1)) (xs (n + 2)) (xs (n + 3)) (xs (n + 4)) (xs (n + 5)) = some (b, σM') ∧ σM'.1 0 = 1 ∧ I σK σM')
