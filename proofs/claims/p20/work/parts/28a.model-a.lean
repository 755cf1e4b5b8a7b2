/-! contracts out of the words (model-a), laid by wip/p4/y/gen5.py -/
set_option linter.unusedVariables false
theorem dX12_thrown_0 : decode cX12_thrown 0 = .ok (.aload_n 0, 1) := by decide +kernel
theorem dX12_thrown_1 : decode cX12_thrown 1 = .ok (.getfield 1, 3) := by decide +kernel
theorem dX12_thrown_4 : decode cX12_thrown 4 = .ok (.ireturn, 1) := by decide +kernel
set_option maxHeartbeats 4000000 in
set_option maxRecDepth 100000 in
theorem T_X12_thrown (l : Launch) (hl : l.stackTraces = false) (D : va_G) (cA : Nat → ClassId) {l0 : Option Nat} {x : HS} {Q : Int32 → HS → Prop} {X : String → HS → Prop} (h : w_X12_thrown l0 x Q X) : YI l yX12_thrown wsX12_thrown 0 0 D cA [.q l0] x Q X := by
  refine YI.of (cc := cX12_thrown) (maxL := 1) (ret := (some .int)) hl (by decide) rfl rfl (fun g B fr => ?_)
  have o := B.o
  have hb := B.hb
  have hts := B.hts
  have hown : g.s.vm.findClass RX12 = some g.m.cls := B.hown
  have in12 : ∀ w ∈ u_ws RX12 TX12 57, w ∈ wsX12_thrown := fun w h => (List.mem_cons_of_mem _ (List.mem_append_right _ h))
  unfold w_X12_thrown at h
  show KW g 1 0 [(0, .q l0)] [] x
  refine k_aload_n o hb dX12_thrown_0 rfl 0 rfl ?_
  refine k_getI (C := RX12) (T := TX12) (N := 57) o hb hts in12 hown rfl (by decide) 0 (by decide) rfl (hts (.fieldLink RX12 1 "FactKeeperModel" "thrown" "I") (by decide +kernel)) (fun _ h9 => h9) dX12_thrown_1 h (fun v1 h => ?_)
  exact k_iret o hb B.hr fr dX12_thrown_4 h
theorem dX12_fails_0 : decode cX12_fails 0 = .ok (.aload_n 0, 1) := by decide +kernel
theorem dX12_fails_1 : decode cX12_fails 1 = .ok (.iload_n 1, 1) := by decide +kernel
theorem dX12_fails_2 : decode cX12_fails 2 = .ok (.putfield 1, 3) := by decide +kernel
theorem dX12_fails_5 : decode cX12_fails 5 = .ok (.iload_n 1, 1) := by decide +kernel
theorem dX12_fails_6 : decode cX12_fails 6 = .ok (.ifCond .eq 7, 3) := by decide +kernel
theorem dX12_fails_9 : decode cX12_fails 9 = .ok (.iconst 1, 1) := by decide +kernel
theorem dX12_fails_10 : decode cX12_fails 10 = .ok (.goto 4, 3) := by decide +kernel
theorem dX12_fails_13 : decode cX12_fails 13 = .ok (.iconst 0, 1) := by decide +kernel
theorem dX12_fails_14 : decode cX12_fails 14 = .ok (.ireturn, 1) := by decide +kernel
set_option maxHeartbeats 4000000 in
set_option maxRecDepth 100000 in
theorem T_X12_fails (l : Launch) (hl : l.stackTraces = false) (D : va_G) (cA : Nat → ClassId) {l0 : Option Nat} {l1 : Int32} {x : HS} {Q : Int32 → HS → Prop} {X : String → HS → Prop} (h : w_X12_fails l0 l1 x Q X) : YI l yX12_fails wsX12_fails 0 0 D cA [.q l0, .i l1] x Q X := by
  refine YI.of (cc := cX12_fails) (maxL := 2) (ret := (some .boolean)) hl (by decide) rfl rfl (fun g B fr => ?_)
  have o := B.o
  have hb := B.hb
  have hts := B.hts
  have hown : g.s.vm.findClass RX12 = some g.m.cls := B.hown
  have in12 : ∀ w ∈ u_ws RX12 TX12 57, w ∈ wsX12_fails := fun w h => (List.mem_cons_of_mem _ (List.mem_append_right _ h))
  unfold w_X12_fails at h
  show KW g 2 0 [(0, .q l0), (1, .i l1)] [] x
  refine k_aload_n o hb dX12_fails_0 rfl 0 rfl ?_
  refine k_iload_n o hb dX12_fails_1 rfl 1 rfl ?_
  refine k_putI (C := RX12) (T := TX12) (N := 57) (ty := .int) o hb hts in12 tyX12 tyX12_ok nmX12 hown rfl (by decide) 0 (by decide) rfl (hts (.fieldLink RX12 1 "FactKeeperModel" "thrown" "I") (by decide +kernel)) (fun _ h9 => h9) rfl (by decide +kernel) (fun _ => rfl) (fun _ => rfl) dX12_fails_2 h (fun x1 h => ?_)
  refine k_iload_n o hb dX12_fails_5 rfl 1 rfl ?_
  refine wJoin_elim (M := fun K => ∀ (v4 : Int32) (x3 : HS), K v4 x3 → KW g 2 14 [] [.i v4] x3) h ?_ (fun j2 hj2 h => ?_)
  · skip
    intro v4 x3 h
    exact k_zret o hb B.hr fr dX12_fails_14 h
  · skip
    refine k_if_eq (tgt := 13) o hb dX12_fails_6 (by decide) h (fun h => ?_) (fun h => ?_)
    · skip
      refine k_iconst (v := 0) o hb dX12_fails_13 (by decide) ?_
      exact KW.sub [] rfl (hj2 0 x1 h)
    · skip
      refine k_iconst (v := 1) o hb dX12_fails_9 (by decide) ?_
      refine k_goto (tgt := 14) o hb dX12_fails_10 (by decide) ?_
      exact KW.sub [] rfl (hj2 1 x1 h)
theorem dX12_init_0 : decode cX12_init 0 = .ok (.aload_n 0, 1) := by decide +kernel
theorem dX12_init_1 : decode cX12_init 1 = .ok (.invokespecial 7, 3) := by decide +kernel
theorem dX12_init_4 : decode cX12_init 4 = .ok (.aload_n 0, 1) := by decide +kernel
theorem dX12_init_5 : decode cX12_init 5 = .ok (.sipush 400, 3) := by decide +kernel
theorem dX12_init_8 : decode cX12_init 8 = .ok (.newarray .byte, 2) := by decide +kernel
theorem dX12_init_10 : decode cX12_init 10 = .ok (.putfield 13, 3) := by decide +kernel
theorem dX12_init_13 : decode cX12_init 13 = .ok (.aload_n 0, 1) := by decide +kernel
theorem dX12_init_14 : decode cX12_init 14 = .ok (.iconst 4, 1) := by decide +kernel
theorem dX12_init_15 : decode cX12_init 15 = .ok (.newarray .int, 2) := by decide +kernel
theorem dX12_init_17 : decode cX12_init 17 = .ok (.putfield 17, 3) := by decide +kernel
theorem dX12_init_20 : decode cX12_init 20 = .ok (.aload_n 0, 1) := by decide +kernel
theorem dX12_init_21 : decode cX12_init 21 = .ok (.bipush 12, 2) := by decide +kernel
theorem dX12_init_23 : decode cX12_init 23 = .ok (.newarray .int, 2) := by decide +kernel
theorem dX12_init_25 : decode cX12_init 25 = .ok (.putfield 21, 3) := by decide +kernel
theorem dX12_init_28 : decode cX12_init 28 = .ok (.aload_n 0, 1) := by decide +kernel
theorem dX12_init_29 : decode cX12_init 29 = .ok (.bipush 12, 2) := by decide +kernel
theorem dX12_init_31 : decode cX12_init 31 = .ok (.newarray .int, 2) := by decide +kernel
theorem dX12_init_33 : decode cX12_init 33 = .ok (.putfield 24, 3) := by decide +kernel
theorem dX12_init_36 : decode cX12_init 36 = .ok (.aload_n 0, 1) := by decide +kernel
theorem dX12_init_37 : decode cX12_init 37 = .ok (.bipush 12, 2) := by decide +kernel
theorem dX12_init_39 : decode cX12_init 39 = .ok (.newarray .int, 2) := by decide +kernel
theorem dX12_init_41 : decode cX12_init 41 = .ok (.putfield 27, 3) := by decide +kernel
theorem dX12_init_44 : decode cX12_init 44 = .ok (.aload_n 0, 1) := by decide +kernel
theorem dX12_init_45 : decode cX12_init 45 = .ok (.bipush 12, 2) := by decide +kernel
theorem dX12_init_47 : decode cX12_init 47 = .ok (.newarray .int, 2) := by decide +kernel
theorem dX12_init_49 : decode cX12_init 49 = .ok (.putfield 30, 3) := by decide +kernel
theorem dX12_init_52 : decode cX12_init 52 = .ok (.aload_n 0, 1) := by decide +kernel
theorem dX12_init_53 : decode cX12_init 53 = .ok (.bipush 12, 2) := by decide +kernel
theorem dX12_init_55 : decode cX12_init 55 = .ok (.newarray .int, 2) := by decide +kernel
theorem dX12_init_57 : decode cX12_init 57 = .ok (.putfield 33, 3) := by decide +kernel
theorem dX12_init_60 : decode cX12_init 60 = .ok (.aload_n 0, 1) := by decide +kernel
theorem dX12_init_61 : decode cX12_init 61 = .ok (.bipush 36, 2) := by decide +kernel
theorem dX12_init_63 : decode cX12_init 63 = .ok (.newarray .int, 2) := by decide +kernel
theorem dX12_init_65 : decode cX12_init 65 = .ok (.putfield 36, 3) := by decide +kernel
theorem dX12_init_68 : decode cX12_init 68 = .ok (.aload_n 0, 1) := by decide +kernel
theorem dX12_init_69 : decode cX12_init 69 = .ok (.sipush 3000, 3) := by decide +kernel
theorem dX12_init_72 : decode cX12_init 72 = .ok (.newarray .boolean, 2) := by decide +kernel
theorem dX12_init_74 : decode cX12_init 74 = .ok (.putfield 39, 3) := by decide +kernel
theorem dX12_init_77 : decode cX12_init 77 = .ok (.aload_n 0, 1) := by decide +kernel
theorem dX12_init_78 : decode cX12_init 78 = .ok (.sipush 3000, 3) := by decide +kernel
theorem dX12_init_81 : decode cX12_init 81 = .ok (.newarray .int, 2) := by decide +kernel
theorem dX12_init_83 : decode cX12_init 83 = .ok (.putfield 43, 3) := by decide +kernel
theorem dX12_init_86 : decode cX12_init 86 = .ok (.aload_n 0, 1) := by decide +kernel
theorem dX12_init_87 : decode cX12_init 87 = .ok (.sipush 12000, 3) := by decide +kernel
theorem dX12_init_90 : decode cX12_init 90 = .ok (.newarray .int, 2) := by decide +kernel
theorem dX12_init_92 : decode cX12_init 92 = .ok (.putfield 46, 3) := by decide +kernel
theorem dX12_init_95 : decode cX12_init 95 = .ok (.aload_n 0, 1) := by decide +kernel
theorem dX12_init_96 : decode cX12_init 96 = .ok (.sipush 3000, 3) := by decide +kernel
theorem dX12_init_99 : decode cX12_init 99 = .ok (.newarray .int, 2) := by decide +kernel
theorem dX12_init_101 : decode cX12_init 101 = .ok (.putfield 49, 3) := by decide +kernel
theorem dX12_init_104 : decode cX12_init 104 = .ok (.aload_n 0, 1) := by decide +kernel
theorem dX12_init_105 : decode cX12_init 105 = .ok (.sipush 3000, 3) := by decide +kernel
theorem dX12_init_108 : decode cX12_init 108 = .ok (.newarray .int, 2) := by decide +kernel
theorem dX12_init_110 : decode cX12_init 110 = .ok (.putfield 52, 3) := by decide +kernel
theorem dX12_init_113 : decode cX12_init 113 = .ok (.aload_n 0, 1) := by decide +kernel
theorem dX12_init_114 : decode cX12_init 114 = .ok (.sipush 3000, 3) := by decide +kernel
theorem dX12_init_117 : decode cX12_init 117 = .ok (.newarray .int, 2) := by decide +kernel
theorem dX12_init_119 : decode cX12_init 119 = .ok (.putfield 55, 3) := by decide +kernel
theorem dX12_init_122 : decode cX12_init 122 = .ok (.aload_n 0, 1) := by decide +kernel
theorem dX12_init_123 : decode cX12_init 123 = .ok (.sipush 3000, 3) := by decide +kernel
theorem dX12_init_126 : decode cX12_init 126 = .ok (.newarray .int, 2) := by decide +kernel
theorem dX12_init_128 : decode cX12_init 128 = .ok (.putfield 58, 3) := by decide +kernel
theorem dX12_init_131 : decode cX12_init 131 = .ok (.aload_n 0, 1) := by decide +kernel
theorem dX12_init_132 : decode cX12_init 132 = .ok (.sipush 3000, 3) := by decide +kernel
theorem dX12_init_135 : decode cX12_init 135 = .ok (.newarray .int, 2) := by decide +kernel
theorem dX12_init_137 : decode cX12_init 137 = .ok (.putfield 61, 3) := by decide +kernel
theorem dX12_init_140 : decode cX12_init 140 = .ok (.aload_n 0, 1) := by decide +kernel
theorem dX12_init_141 : decode cX12_init 141 = .ok (.sipush 3000, 3) := by decide +kernel
theorem dX12_init_144 : decode cX12_init 144 = .ok (.newarray .int, 2) := by decide +kernel
theorem dX12_init_146 : decode cX12_init 146 = .ok (.putfield 64, 3) := by decide +kernel
theorem dX12_init_149 : decode cX12_init 149 = .ok (.aload_n 0, 1) := by decide +kernel
theorem dX12_init_150 : decode cX12_init 150 = .ok (.sipush 12000, 3) := by decide +kernel
theorem dX12_init_153 : decode cX12_init 153 = .ok (.newarray .int, 2) := by decide +kernel
theorem dX12_init_155 : decode cX12_init 155 = .ok (.putfield 67, 3) := by decide +kernel
theorem dX12_init_158 : decode cX12_init 158 = .ok (.aload_n 0, 1) := by decide +kernel
theorem dX12_init_159 : decode cX12_init 159 = .ok (.bipush 8, 2) := by decide +kernel
theorem dX12_init_161 : decode cX12_init 161 = .ok (.newarray .int, 2) := by decide +kernel
theorem dX12_init_163 : decode cX12_init 163 = .ok (.putfield 70, 3) := by decide +kernel
theorem dX12_init_166 : decode cX12_init 166 = .ok (.aload_n 0, 1) := by decide +kernel
theorem dX12_init_167 : decode cX12_init 167 = .ok (.bipush 10, 2) := by decide +kernel
theorem dX12_init_169 : decode cX12_init 169 = .ok (.newarray .boolean, 2) := by decide +kernel
theorem dX12_init_171 : decode cX12_init 171 = .ok (.putfield 73, 3) := by decide +kernel
theorem dX12_init_174 : decode cX12_init 174 = .ok (.aload_n 0, 1) := by decide +kernel
theorem dX12_init_175 : decode cX12_init 175 = .ok (.bipush 10, 2) := by decide +kernel
theorem dX12_init_177 : decode cX12_init 177 = .ok (.newarray .boolean, 2) := by decide +kernel
theorem dX12_init_179 : decode cX12_init 179 = .ok (.putfield 76, 3) := by decide +kernel
theorem dX12_init_182 : decode cX12_init 182 = .ok (.aload_n 0, 1) := by decide +kernel
theorem dX12_init_183 : decode cX12_init 183 = .ok (.bipush 10, 2) := by decide +kernel
theorem dX12_init_185 : decode cX12_init 185 = .ok (.newarray .int, 2) := by decide +kernel
theorem dX12_init_187 : decode cX12_init 187 = .ok (.putfield 79, 3) := by decide +kernel
theorem dX12_init_190 : decode cX12_init 190 = .ok (.aload_n 0, 1) := by decide +kernel
theorem dX12_init_191 : decode cX12_init 191 = .ok (.bipush 10, 2) := by decide +kernel
theorem dX12_init_193 : decode cX12_init 193 = .ok (.newarray .int, 2) := by decide +kernel
theorem dX12_init_195 : decode cX12_init 195 = .ok (.putfield 82, 3) := by decide +kernel
theorem dX12_init_198 : decode cX12_init 198 = .ok (.aload_n 0, 1) := by decide +kernel
theorem dX12_init_199 : decode cX12_init 199 = .ok (.bipush 10, 2) := by decide +kernel
theorem dX12_init_201 : decode cX12_init 201 = .ok (.newarray .int, 2) := by decide +kernel
theorem dX12_init_203 : decode cX12_init 203 = .ok (.putfield 85, 3) := by decide +kernel
theorem dX12_init_206 : decode cX12_init 206 = .ok (.aload_n 0, 1) := by decide +kernel
theorem dX12_init_207 : decode cX12_init 207 = .ok (.bipush 10, 2) := by decide +kernel
theorem dX12_init_209 : decode cX12_init 209 = .ok (.newarray .int, 2) := by decide +kernel
theorem dX12_init_211 : decode cX12_init 211 = .ok (.putfield 88, 3) := by decide +kernel
theorem dX12_init_214 : decode cX12_init 214 = .ok (.aload_n 0, 1) := by decide +kernel
theorem dX12_init_215 : decode cX12_init 215 = .ok (.bipush 10, 2) := by decide +kernel
theorem dX12_init_217 : decode cX12_init 217 = .ok (.newarray .int, 2) := by decide +kernel
theorem dX12_init_219 : decode cX12_init 219 = .ok (.putfield 91, 3) := by decide +kernel
theorem dX12_init_222 : decode cX12_init 222 = .ok (.aload_n 0, 1) := by decide +kernel
theorem dX12_init_223 : decode cX12_init 223 = .ok (.bipush 40, 2) := by decide +kernel
theorem dX12_init_225 : decode cX12_init 225 = .ok (.newarray .int, 2) := by decide +kernel
theorem dX12_init_227 : decode cX12_init 227 = .ok (.putfield 94, 3) := by decide +kernel
theorem dX12_init_230 : decode cX12_init 230 = .ok (.aload_n 0, 1) := by decide +kernel
theorem dX12_init_231 : decode cX12_init 231 = .ok (.sipush 6000, 3) := by decide +kernel
theorem dX12_init_234 : decode cX12_init 234 = .ok (.newarray .int, 2) := by decide +kernel
theorem dX12_init_236 : decode cX12_init 236 = .ok (.putfield 97, 3) := by decide +kernel
theorem dX12_init_239 : decode cX12_init 239 = .ok (.aload_n 0, 1) := by decide +kernel
theorem dX12_init_240 : decode cX12_init 240 = .ok (.iconst (-1), 1) := by decide +kernel
theorem dX12_init_241 : decode cX12_init 241 = .ok (.putfield 100, 3) := by decide +kernel
theorem dX12_init_244 : decode cX12_init 244 = .ok (.aload_n 0, 1) := by decide +kernel
theorem dX12_init_245 : decode cX12_init 245 = .ok (.bipush 11, 2) := by decide +kernel
theorem dX12_init_247 : decode cX12_init 247 = .ok (.newarray .int, 2) := by decide +kernel
theorem dX12_init_249 : decode cX12_init 249 = .ok (.putfield 103, 3) := by decide +kernel
theorem dX12_init_252 : decode cX12_init 252 = .ok (.aload_n 0, 1) := by decide +kernel
theorem dX12_init_253 : decode cX12_init 253 = .ok (.bipush 11, 2) := by decide +kernel
theorem dX12_init_255 : decode cX12_init 255 = .ok (.newarray .int, 2) := by decide +kernel
theorem dX12_init_257 : decode cX12_init 257 = .ok (.putfield 106, 3) := by decide +kernel
theorem dX12_init_260 : decode cX12_init 260 = .ok (.aload_n 0, 1) := by decide +kernel
theorem dX12_init_261 : decode cX12_init 261 = .ok (.bipush 55, 2) := by decide +kernel
theorem dX12_init_263 : decode cX12_init 263 = .ok (.newarray .int, 2) := by decide +kernel
theorem dX12_init_265 : decode cX12_init 265 = .ok (.putfield 109, 3) := by decide +kernel
theorem dX12_init_268 : decode cX12_init 268 = .ok (.aload_n 0, 1) := by decide +kernel
theorem dX12_init_269 : decode cX12_init 269 = .ok (.bipush 55, 2) := by decide +kernel
theorem dX12_init_271 : decode cX12_init 271 = .ok (.newarray .int, 2) := by decide +kernel
theorem dX12_init_273 : decode cX12_init 273 = .ok (.putfield 112, 3) := by decide +kernel
theorem dX12_init_276 : decode cX12_init 276 = .ok (.aload_n 0, 1) := by decide +kernel
theorem dX12_init_277 : decode cX12_init 277 = .ok (.bipush 12, 2) := by decide +kernel
theorem dX12_init_279 : decode cX12_init 279 = .ok (.newarray .int, 2) := by decide +kernel
theorem dX12_init_281 : decode cX12_init 281 = .ok (.putfield 115, 3) := by decide +kernel
theorem dX12_init_284 : decode cX12_init 284 = .ok (.aload_n 0, 1) := by decide +kernel
theorem dX12_init_285 : decode cX12_init 285 = .ok (.bipush 8, 2) := by decide +kernel
theorem dX12_init_287 : decode cX12_init 287 = .ok (.newarray .int, 2) := by decide +kernel
theorem dX12_init_289 : decode cX12_init 289 = .ok (.putfield 118, 3) := by decide +kernel
theorem dX12_init_292 : decode cX12_init 292 = .ok (.aload_n 0, 1) := by decide +kernel
theorem dX12_init_293 : decode cX12_init 293 = .ok (.bipush 11, 2) := by decide +kernel
theorem dX12_init_295 : decode cX12_init 295 = .ok (.newarray .int, 2) := by decide +kernel
theorem dX12_init_297 : decode cX12_init 297 = .ok (.putfield 121, 3) := by decide +kernel
theorem dX12_init_300 : decode cX12_init 300 = .ok (.aload_n 0, 1) := by decide +kernel
theorem dX12_init_301 : decode cX12_init 301 = .ok (.iconst 5, 1) := by decide +kernel
theorem dX12_init_302 : decode cX12_init 302 = .ok (.newarray .int, 2) := by decide +kernel
theorem dX12_init_304 : decode cX12_init 304 = .ok (.putfield 124, 3) := by decide +kernel
theorem dX12_init_307 : decode cX12_init 307 = .ok (.aload_n 0, 1) := by decide +kernel
theorem dX12_init_308 : decode cX12_init 308 = .ok (.sipush 800, 3) := by decide +kernel
theorem dX12_init_311 : decode cX12_init 311 = .ok (.newarray .int, 2) := by decide +kernel
theorem dX12_init_313 : decode cX12_init 313 = .ok (.putfield 127, 3) := by decide +kernel
theorem dX12_init_316 : decode cX12_init 316 = .ok (.aload_n 0, 1) := by decide +kernel
theorem dX12_init_317 : decode cX12_init 317 = .ok (.sipush 800, 3) := by decide +kernel
theorem dX12_init_320 : decode cX12_init 320 = .ok (.newarray .int, 2) := by decide +kernel
theorem dX12_init_322 : decode cX12_init 322 = .ok (.putfield 130, 3) := by decide +kernel
theorem dX12_init_325 : decode cX12_init 325 = .ok (.return_, 1) := by decide +kernel
set_option maxHeartbeats 4000000 in
set_option maxRecDepth 100000 in
theorem T_X12_init (l : Launch) (hl : l.stackTraces = false) (D : va_G) (cA : Nat → ClassId) {l0 : Option Nat} {x : HS} {Q : HS → Prop} {X : String → HS → Prop} (h : w_X12_init l0 x Q X) : YV l yX12_init wsX12_init 1 12 D cA [.q l0] x Q X := by
  refine YV.of (cc := cX12_init) (maxL := 1) (ret := none) hl (by decide) rfl rfl (fun g B fr => ?_)
  have o := B.o
  have hb := B.hb
  have hts := B.hts
  have hown : g.s.vm.findClass RX12 = some g.m.cls := B.hown
  have in12 : ∀ w ∈ u_ws RX12 TX12 57, w ∈ wsX12_init := fun w h => (List.mem_cons_of_mem _ (List.mem_append_right _ h))
  unfold w_X12_init at h
  show KW g 1 0 [(0, .q l0)] [] x
  refine k_aload_n o hb dX12_init_0 rfl 0 rfl ?_
  refine k_objInit o hb B.hml hown (hts (.methodLink RX12 7 objectInit) (by decide +kernel)) (hts (.instanceMethod objectInit) (by decide +kernel)) (hts (.code objectInit ⟨#[0xb1]⟩ 1 none) (by decide +kernel)) (yle B.hR1 rfl) (yle B.hR2 rfl) dX12_init_1 h.1 ?_
  have h := h.2
  refine k_aload_n o hb dX12_init_4 rfl 0 rfl ?_
  refine k_sipush (v := 400) o hb dX12_init_5 (by decide) ?_
  refine k_newJ (atype := .byte) (ty := .byte) (kd := 21) (t0 := 1) o hb (hts (.arrayClass .byte) (by decide +kernel)) rfl (by decide) (by decide) rfl (fun _ _ => rfl) (by decide) dX12_init_8 h (fun q1 x2 h => ?_)
  refine k_putFF (C := RX12) (T := TX12) (N := 57) (ty := (tyX12 1)) o hb hts in12 tyX12 tyX12_ok nmX12 hown rfl (by decide) 1 (by decide) rfl (hts (.fieldLink RX12 13 "FactKeeperModel" "tape" "[B") (by decide +kernel)) (fun _ h9 => h9) rfl B.hnm rfl (by decide +kernel) (fun r => by cases r <;> rfl) (fun r => by cases r <;> rfl) dX12_init_10 h (fun x3 h => ?_)
  refine k_aload_n o hb dX12_init_13 rfl 0 rfl ?_
  refine k_iconst (v := 4) o hb dX12_init_14 (by decide) ?_
  refine k_newJ (atype := .int) (ty := .int) (kd := 20) (t0 := 0) o hb (hts (.arrayClass .int) (by decide +kernel)) rfl (by decide) (by decide) rfl (fun _ _ => rfl) (by decide) dX12_init_15 h (fun q4 x5 h => ?_)
  refine k_putFF (C := RX12) (T := TX12) (N := 57) (ty := (tyX12 3)) o hb hts in12 tyX12 tyX12_ok nmX12 hown rfl (by decide) 3 (by decide) rfl (hts (.fieldLink RX12 17 "FactKeeperModel" "values" "[I") (by decide +kernel)) (fun _ h9 => h9) rfl B.hnm rfl (by decide +kernel) (fun r => by cases r <;> rfl) (fun r => by cases r <;> rfl) dX12_init_17 h (fun x6 h => ?_)
  refine k_aload_n o hb dX12_init_20 rfl 0 rfl ?_
  refine k_bipush (v := 12) o hb dX12_init_21 (by decide) ?_
  refine k_newJ (atype := .int) (ty := .int) (kd := 20) (t0 := 0) o hb (hts (.arrayClass .int) (by decide +kernel)) rfl (by decide) (by decide) rfl (fun _ _ => rfl) (by decide) dX12_init_23 h (fun q7 x8 h => ?_)
  refine k_putFF (C := RX12) (T := TX12) (N := 57) (ty := (tyX12 4)) o hb hts in12 tyX12 tyX12_ok nmX12 hown rfl (by decide) 4 (by decide) rfl (hts (.fieldLink RX12 21 "FactKeeperModel" "columns" "[I") (by decide +kernel)) (fun _ h9 => h9) rfl B.hnm rfl (by decide +kernel) (fun r => by cases r <;> rfl) (fun r => by cases r <;> rfl) dX12_init_25 h (fun x9 h => ?_)
  refine k_aload_n o hb dX12_init_28 rfl 0 rfl ?_
  refine k_bipush (v := 12) o hb dX12_init_29 (by decide) ?_
  refine k_newJ (atype := .int) (ty := .int) (kd := 20) (t0 := 0) o hb (hts (.arrayClass .int) (by decide +kernel)) rfl (by decide) (by decide) rfl (fun _ _ => rfl) (by decide) dX12_init_31 h (fun q10 x11 h => ?_)
  refine k_putFF (C := RX12) (T := TX12) (N := 57) (ty := (tyX12 5)) o hb hts in12 tyX12 tyX12_ok nmX12 hown rfl (by decide) 5 (by decide) rfl (hts (.fieldLink RX12 24 "FactKeeperModel" "indexes" "[I") (by decide +kernel)) (fun _ h9 => h9) rfl B.hnm rfl (by decide +kernel) (fun r => by cases r <;> rfl) (fun r => by cases r <;> rfl) dX12_init_33 h (fun x12 h => ?_)
  refine k_aload_n o hb dX12_init_36 rfl 0 rfl ?_
  refine k_bipush (v := 12) o hb dX12_init_37 (by decide) ?_
  refine k_newJ (atype := .int) (ty := .int) (kd := 20) (t0 := 0) o hb (hts (.arrayClass .int) (by decide +kernel)) rfl (by decide) (by decide) rfl (fun _ _ => rfl) (by decide) dX12_init_39 h (fun q13 x14 h => ?_)
  refine k_putFF (C := RX12) (T := TX12) (N := 57) (ty := (tyX12 6)) o hb hts in12 tyX12 tyX12_ok nmX12 hown rfl (by decide) 6 (by decide) rfl (hts (.fieldLink RX12 27 "FactKeeperModel" "keyMany" "[I") (by decide +kernel)) (fun _ h9 => h9) rfl B.hnm rfl (by decide +kernel) (fun r => by cases r <;> rfl) (fun r => by cases r <;> rfl) dX12_init_41 h (fun x15 h => ?_)
  refine k_aload_n o hb dX12_init_44 rfl 0 rfl ?_
  refine k_bipush (v := 12) o hb dX12_init_45 (by decide) ?_
  refine k_newJ (atype := .int) (ty := .int) (kd := 20) (t0 := 0) o hb (hts (.arrayClass .int) (by decide +kernel)) rfl (by decide) (by decide) rfl (fun _ _ => rfl) (by decide) dX12_init_47 h (fun q16 x17 h => ?_)
  refine k_putFF (C := RX12) (T := TX12) (N := 57) (ty := (tyX12 7)) o hb hts in12 tyX12 tyX12_ok nmX12 hown rfl (by decide) 7 (by decide) rfl (hts (.fieldLink RX12 30 "FactKeeperModel" "first" "[I") (by decide +kernel)) (fun _ h9 => h9) rfl B.hnm rfl (by decide +kernel) (fun r => by cases r <;> rfl) (fun r => by cases r <;> rfl) dX12_init_49 h (fun x18 h => ?_)
  refine k_aload_n o hb dX12_init_52 rfl 0 rfl ?_
  refine k_bipush (v := 12) o hb dX12_init_53 (by decide) ?_
  refine k_newJ (atype := .int) (ty := .int) (kd := 20) (t0 := 0) o hb (hts (.arrayClass .int) (by decide +kernel)) rfl (by decide) (by decide) rfl (fun _ _ => rfl) (by decide) dX12_init_55 h (fun q19 x20 h => ?_)
  refine k_putFF (C := RX12) (T := TX12) (N := 57) (ty := (tyX12 8)) o hb hts in12 tyX12 tyX12_ok nmX12 hown rfl (by decide) 8 (by decide) rfl (hts (.fieldLink RX12 33 "FactKeeperModel" "last" "[I") (by decide +kernel)) (fun _ h9 => h9) rfl B.hnm rfl (by decide +kernel) (fun r => by cases r <;> rfl) (fun r => by cases r <;> rfl) dX12_init_57 h (fun x21 h => ?_)
  refine k_aload_n o hb dX12_init_60 rfl 0 rfl ?_
  refine k_bipush (v := 36) o hb dX12_init_61 (by decide) ?_
  refine k_newJ (atype := .int) (ty := .int) (kd := 20) (t0 := 0) o hb (hts (.arrayClass .int) (by decide +kernel)) rfl (by decide) (by decide) rfl (fun _ _ => rfl) (by decide) dX12_init_63 h (fun q22 x23 h => ?_)
  refine k_putFF (C := RX12) (T := TX12) (N := 57) (ty := (tyX12 9)) o hb hts in12 tyX12 tyX12_ok nmX12 hown rfl (by decide) 9 (by decide) rfl (hts (.fieldLink RX12 36 "FactKeeperModel" "keys" "[I") (by decide +kernel)) (fun _ h9 => h9) rfl B.hnm rfl (by decide +kernel) (fun r => by cases r <;> rfl) (fun r => by cases r <;> rfl) dX12_init_65 h (fun x24 h => ?_)
  refine k_aload_n o hb dX12_init_68 rfl 0 rfl ?_
  refine k_sipush (v := 3000) o hb dX12_init_69 (by decide) ?_
  refine k_newJ (atype := .boolean) (ty := .boolean) (kd := 22) (t0 := 2) o hb (hts (.arrayClass .boolean) (by decide +kernel)) rfl (by decide) (by decide) rfl (fun _ _ => rfl) (by decide) dX12_init_72 h (fun q25 x26 h => ?_)
  refine k_putFF (C := RX12) (T := TX12) (N := 57) (ty := (tyX12 11)) o hb hts in12 tyX12 tyX12_ok nmX12 hown rfl (by decide) 11 (by decide) rfl (hts (.fieldLink RX12 39 "FactKeeperModel" "used" "[Z") (by decide +kernel)) (fun _ h9 => h9) rfl B.hnm rfl (by decide +kernel) (fun r => by cases r <;> rfl) (fun r => by cases r <;> rfl) dX12_init_74 h (fun x27 h => ?_)
  refine k_aload_n o hb dX12_init_77 rfl 0 rfl ?_
  refine k_sipush (v := 3000) o hb dX12_init_78 (by decide) ?_
  refine k_newJ (atype := .int) (ty := .int) (kd := 20) (t0 := 0) o hb (hts (.arrayClass .int) (by decide +kernel)) rfl (by decide) (by decide) rfl (fun _ _ => rfl) (by decide) dX12_init_81 h (fun q28 x29 h => ?_)
  refine k_putFF (C := RX12) (T := TX12) (N := 57) (ty := (tyX12 12)) o hb hts in12 tyX12 tyX12_ok nmX12 hown rfl (by decide) 12 (by decide) rfl (hts (.fieldLink RX12 43 "FactKeeperModel" "table" "[I") (by decide +kernel)) (fun _ h9 => h9) rfl B.hnm rfl (by decide +kernel) (fun r => by cases r <;> rfl) (fun r => by cases r <;> rfl) dX12_init_83 h (fun x30 h => ?_)
  refine k_aload_n o hb dX12_init_86 rfl 0 rfl ?_
  refine k_sipush (v := 12000) o hb dX12_init_87 (by decide) ?_
  refine k_newJ (atype := .int) (ty := .int) (kd := 20) (t0 := 0) o hb (hts (.arrayClass .int) (by decide +kernel)) rfl (by decide) (by decide) rfl (fun _ _ => rfl) (by decide) dX12_init_90 h (fun q31 x32 h => ?_)
  refine k_putFF (C := RX12) (T := TX12) (N := 57) (ty := (tyX12 13)) o hb hts in12 tyX12 tyX12_ok nmX12 hown rfl (by decide) 13 (by decide) rfl (hts (.fieldLink RX12 46 "FactKeeperModel" "column" "[I") (by decide +kernel)) (fun _ h9 => h9) rfl B.hnm rfl (by decide +kernel) (fun r => by cases r <;> rfl) (fun r => by cases r <;> rfl) dX12_init_92 h (fun x33 h => ?_)
  refine k_aload_n o hb dX12_init_95 rfl 0 rfl ?_
  refine k_sipush (v := 3000) o hb dX12_init_96 (by decide) ?_
  refine k_newJ (atype := .int) (ty := .int) (kd := 20) (t0 := 0) o hb (hts (.arrayClass .int) (by decide +kernel)) rfl (by decide) (by decide) rfl (fun _ _ => rfl) (by decide) dX12_init_99 h (fun q34 x35 h => ?_)
  refine k_putFF (C := RX12) (T := TX12) (N := 57) (ty := (tyX12 14)) o hb hts in12 tyX12 tyX12_ok nmX12 hown rfl (by decide) 14 (by decide) rfl (hts (.fieldLink RX12 49 "FactKeeperModel" "number" "[I") (by decide +kernel)) (fun _ h9 => h9) rfl B.hnm rfl (by decide +kernel) (fun r => by cases r <;> rfl) (fun r => by cases r <;> rfl) dX12_init_101 h (fun x36 h => ?_)
  refine k_aload_n o hb dX12_init_104 rfl 0 rfl ?_
  refine k_sipush (v := 3000) o hb dX12_init_105 (by decide) ?_
  refine k_newJ (atype := .int) (ty := .int) (kd := 20) (t0 := 0) o hb (hts (.arrayClass .int) (by decide +kernel)) rfl (by decide) (by decide) rfl (fun _ _ => rfl) (by decide) dX12_init_108 h (fun q37 x38 h => ?_)
  refine k_putFF (C := RX12) (T := TX12) (N := 57) (ty := (tyX12 15)) o hb hts in12 tyX12 tyX12_ok nmX12 hown rfl (by decide) 15 (by decide) rfl (hts (.fieldLink RX12 52 "FactKeeperModel" "born" "[I") (by decide +kernel)) (fun _ h9 => h9) rfl B.hnm rfl (by decide +kernel) (fun r => by cases r <;> rfl) (fun r => by cases r <;> rfl) dX12_init_110 h (fun x39 h => ?_)
  refine k_aload_n o hb dX12_init_113 rfl 0 rfl ?_
  refine k_sipush (v := 3000) o hb dX12_init_114 (by decide) ?_
  refine k_newJ (atype := .int) (ty := .int) (kd := 20) (t0 := 0) o hb (hts (.arrayClass .int) (by decide +kernel)) rfl (by decide) (by decide) rfl (fun _ _ => rfl) (by decide) dX12_init_117 h (fun q40 x41 h => ?_)
  refine k_putFF (C := RX12) (T := TX12) (N := 57) (ty := (tyX12 16)) o hb hts in12 tyX12 tyX12_ok nmX12 hown rfl (by decide) 16 (by decide) rfl (hts (.fieldLink RX12 55 "FactKeeperModel" "died" "[I") (by decide +kernel)) (fun _ h9 => h9) rfl B.hnm rfl (by decide +kernel) (fun r => by cases r <;> rfl) (fun r => by cases r <;> rfl) dX12_init_119 h (fun x42 h => ?_)
  refine k_aload_n o hb dX12_init_122 rfl 0 rfl ?_
  refine k_sipush (v := 3000) o hb dX12_init_123 (by decide) ?_
  refine k_newJ (atype := .int) (ty := .int) (kd := 20) (t0 := 0) o hb (hts (.arrayClass .int) (by decide +kernel)) rfl (by decide) (by decide) rfl (fun _ _ => rfl) (by decide) dX12_init_126 h (fun q43 x44 h => ?_)
  refine k_putFF (C := RX12) (T := TX12) (N := 57) (ty := (tyX12 17)) o hb hts in12 tyX12 tyX12_ok nmX12 hown rfl (by decide) 17 (by decide) rfl (hts (.fieldLink RX12 58 "FactKeeperModel" "before" "[I") (by decide +kernel)) (fun _ h9 => h9) rfl B.hnm rfl (by decide +kernel) (fun r => by cases r <;> rfl) (fun r => by cases r <;> rfl) dX12_init_128 h (fun x45 h => ?_)
  refine k_aload_n o hb dX12_init_131 rfl 0 rfl ?_
  refine k_sipush (v := 3000) o hb dX12_init_132 (by decide) ?_
  refine k_newJ (atype := .int) (ty := .int) (kd := 20) (t0 := 0) o hb (hts (.arrayClass .int) (by decide +kernel)) rfl (by decide) (by decide) rfl (fun _ _ => rfl) (by decide) dX12_init_135 h (fun q46 x47 h => ?_)
  refine k_putFF (C := RX12) (T := TX12) (N := 57) (ty := (tyX12 18)) o hb hts in12 tyX12 tyX12_ok nmX12 hown rfl (by decide) 18 (by decide) rfl (hts (.fieldLink RX12 61 "FactKeeperModel" "behind" "[I") (by decide +kernel)) (fun _ h9 => h9) rfl B.hnm rfl (by decide +kernel) (fun r => by cases r <;> rfl) (fun r => by cases r <;> rfl) dX12_init_137 h (fun x48 h => ?_)
  refine k_aload_n o hb dX12_init_140 rfl 0 rfl ?_
  refine k_sipush (v := 3000) o hb dX12_init_141 (by decide) ?_
  refine k_newJ (atype := .int) (ty := .int) (kd := 20) (t0 := 0) o hb (hts (.arrayClass .int) (by decide +kernel)) rfl (by decide) (by decide) rfl (fun _ _ => rfl) (by decide) dX12_init_144 h (fun q49 x50 h => ?_)
  refine k_putFF (C := RX12) (T := TX12) (N := 57) (ty := (tyX12 19)) o hb hts in12 tyX12 tyX12_ok nmX12 hown rfl (by decide) 19 (by decide) rfl (hts (.fieldLink RX12 64 "FactKeeperModel" "stand" "[I") (by decide +kernel)) (fun _ h9 => h9) rfl B.hnm rfl (by decide +kernel) (fun r => by cases r <;> rfl) (fun r => by cases r <;> rfl) dX12_init_146 h (fun x51 h => ?_)
  refine k_aload_n o hb dX12_init_149 rfl 0 rfl ?_
  refine k_sipush (v := 12000) o hb dX12_init_150 (by decide) ?_
  refine k_newJ (atype := .int) (ty := .int) (kd := 20) (t0 := 0) o hb (hts (.arrayClass .int) (by decide +kernel)) rfl (by decide) (by decide) rfl (fun _ _ => rfl) (by decide) dX12_init_153 h (fun q52 x53 h => ?_)
  refine k_putFF (C := RX12) (T := TX12) (N := 57) (ty := (tyX12 24)) o hb hts in12 tyX12 tyX12_ok nmX12 hown rfl (by decide) 24 (by decide) rfl (hts (.fieldLink RX12 67 "FactKeeperModel" "change" "[I") (by decide +kernel)) (fun _ h9 => h9) rfl B.hnm rfl (by decide +kernel) (fun r => by cases r <;> rfl) (fun r => by cases r <;> rfl) dX12_init_155 h (fun x54 h => ?_)
  refine k_aload_n o hb dX12_init_158 rfl 0 rfl ?_
  refine k_bipush (v := 8) o hb dX12_init_159 (by decide) ?_
  refine k_newJ (atype := .int) (ty := .int) (kd := 20) (t0 := 0) o hb (hts (.arrayClass .int) (by decide +kernel)) rfl (by decide) (by decide) rfl (fun _ _ => rfl) (by decide) dX12_init_161 h (fun q55 x56 h => ?_)
  refine k_putFF (C := RX12) (T := TX12) (N := 57) (ty := (tyX12 26)) o hb hts in12 tyX12 tyX12_ok nmX12 hown rfl (by decide) 26 (by decide) rfl (hts (.fieldLink RX12 70 "FactKeeperModel" "mark" "[I") (by decide +kernel)) (fun _ h9 => h9) rfl B.hnm rfl (by decide +kernel) (fun r => by cases r <;> rfl) (fun r => by cases r <;> rfl) dX12_init_163 h (fun x57 h => ?_)
  refine k_aload_n o hb dX12_init_166 rfl 0 rfl ?_
  refine k_bipush (v := 10) o hb dX12_init_167 (by decide) ?_
  refine k_newJ (atype := .boolean) (ty := .boolean) (kd := 22) (t0 := 2) o hb (hts (.arrayClass .boolean) (by decide +kernel)) rfl (by decide) (by decide) rfl (fun _ _ => rfl) (by decide) dX12_init_169 h (fun q58 x59 h => ?_)
  refine k_putFF (C := RX12) (T := TX12) (N := 57) (ty := (tyX12 28)) o hb hts in12 tyX12 tyX12_ok nmX12 hown rfl (by decide) 28 (by decide) rfl (hts (.fieldLink RX12 73 "FactKeeperModel" "isOpen" "[Z") (by decide +kernel)) (fun _ h9 => h9) rfl B.hnm rfl (by decide +kernel) (fun r => by cases r <;> rfl) (fun r => by cases r <;> rfl) dX12_init_171 h (fun x60 h => ?_)
  refine k_aload_n o hb dX12_init_174 rfl 0 rfl ?_
  refine k_bipush (v := 10) o hb dX12_init_175 (by decide) ?_
  refine k_newJ (atype := .boolean) (ty := .boolean) (kd := 22) (t0 := 2) o hb (hts (.arrayClass .boolean) (by decide +kernel)) rfl (by decide) (by decide) rfl (fun _ _ => rfl) (by decide) dX12_init_177 h (fun q61 x62 h => ?_)
  refine k_putFF (C := RX12) (T := TX12) (N := 57) (ty := (tyX12 29)) o hb hts in12 tyX12 tyX12_ok nmX12 hown rfl (by decide) 29 (by decide) rfl (hts (.fieldLink RX12 76 "FactKeeperModel" "isOver" "[Z") (by decide +kernel)) (fun _ h9 => h9) rfl B.hnm rfl (by decide +kernel) (fun r => by cases r <;> rfl) (fun r => by cases r <;> rfl) dX12_init_179 h (fun x63 h => ?_)
  refine k_aload_n o hb dX12_init_182 rfl 0 rfl ?_
  refine k_bipush (v := 10) o hb dX12_init_183 (by decide) ?_
  refine k_newJ (atype := .int) (ty := .int) (kd := 20) (t0 := 0) o hb (hts (.arrayClass .int) (by decide +kernel)) rfl (by decide) (by decide) rfl (fun _ _ => rfl) (by decide) dX12_init_185 h (fun q64 x65 h => ?_)
  refine k_putFF (C := RX12) (T := TX12) (N := 57) (ty := (tyX12 30)) o hb hts in12 tyX12 tyX12_ok nmX12 hown rfl (by decide) 30 (by decide) rfl (hts (.fieldLink RX12 79 "FactKeeperModel" "cursorTable" "[I") (by decide +kernel)) (fun _ h9 => h9) rfl B.hnm rfl (by decide +kernel) (fun r => by cases r <;> rfl) (fun r => by cases r <;> rfl) dX12_init_187 h (fun x66 h => ?_)
  refine k_aload_n o hb dX12_init_190 rfl 0 rfl ?_
  refine k_bipush (v := 10) o hb dX12_init_191 (by decide) ?_
  refine k_newJ (atype := .int) (ty := .int) (kd := 20) (t0 := 0) o hb (hts (.arrayClass .int) (by decide +kernel)) rfl (by decide) (by decide) rfl (fun _ _ => rfl) (by decide) dX12_init_193 h (fun q67 x68 h => ?_)
  refine k_putFF (C := RX12) (T := TX12) (N := 57) (ty := (tyX12 31)) o hb hts in12 tyX12 tyX12_ok nmX12 hown rfl (by decide) 31 (by decide) rfl (hts (.fieldLink RX12 82 "FactKeeperModel" "cursorMask" "[I") (by decide +kernel)) (fun _ h9 => h9) rfl B.hnm rfl (by decide +kernel) (fun r => by cases r <;> rfl) (fun r => by cases r <;> rfl) dX12_init_195 h (fun x69 h => ?_)
  refine k_aload_n o hb dX12_init_198 rfl 0 rfl ?_
  refine k_bipush (v := 10) o hb dX12_init_199 (by decide) ?_
  refine k_newJ (atype := .int) (ty := .int) (kd := 20) (t0 := 0) o hb (hts (.arrayClass .int) (by decide +kernel)) rfl (by decide) (by decide) rfl (fun _ _ => rfl) (by decide) dX12_init_201 h (fun q70 x71 h => ?_)
  refine k_putFF (C := RX12) (T := TX12) (N := 57) (ty := (tyX12 32)) o hb hts in12 tyX12 tyX12_ok nmX12 hown rfl (by decide) 32 (by decide) rfl (hts (.fieldLink RX12 85 "FactKeeperModel" "cursorTime" "[I") (by decide +kernel)) (fun _ h9 => h9) rfl B.hnm rfl (by decide +kernel) (fun r => by cases r <;> rfl) (fun r => by cases r <;> rfl) dX12_init_203 h (fun x72 h => ?_)
  refine k_aload_n o hb dX12_init_206 rfl 0 rfl ?_
  refine k_bipush (v := 10) o hb dX12_init_207 (by decide) ?_
  refine k_newJ (atype := .int) (ty := .int) (kd := 20) (t0 := 0) o hb (hts (.arrayClass .int) (by decide +kernel)) rfl (by decide) (by decide) rfl (fun _ _ => rfl) (by decide) dX12_init_209 h (fun q73 x74 h => ?_)
  refine k_putFF (C := RX12) (T := TX12) (N := 57) (ty := (tyX12 33)) o hb hts in12 tyX12 tyX12_ok nmX12 hown rfl (by decide) 33 (by decide) rfl (hts (.fieldLink RX12 88 "FactKeeperModel" "cursorLast" "[I") (by decide +kernel)) (fun _ h9 => h9) rfl B.hnm rfl (by decide +kernel) (fun r => by cases r <;> rfl) (fun r => by cases r <;> rfl) dX12_init_211 h (fun x75 h => ?_)
  refine k_aload_n o hb dX12_init_214 rfl 0 rfl ?_
  refine k_bipush (v := 10) o hb dX12_init_215 (by decide) ?_
  refine k_newJ (atype := .int) (ty := .int) (kd := 20) (t0 := 0) o hb (hts (.arrayClass .int) (by decide +kernel)) rfl (by decide) (by decide) rfl (fun _ _ => rfl) (by decide) dX12_init_217 h (fun q76 x77 h => ?_)
  refine k_putFF (C := RX12) (T := TX12) (N := 57) (ty := (tyX12 34)) o hb hts in12 tyX12 tyX12_ok nmX12 hown rfl (by decide) 34 (by decide) rfl (hts (.fieldLink RX12 91 "FactKeeperModel" "cursorTold" "[I") (by decide +kernel)) (fun _ h9 => h9) rfl B.hnm rfl (by decide +kernel) (fun r => by cases r <;> rfl) (fun r => by cases r <;> rfl) dX12_init_219 h (fun x78 h => ?_)
  refine k_aload_n o hb dX12_init_222 rfl 0 rfl ?_
  refine k_bipush (v := 40) o hb dX12_init_223 (by decide) ?_
  refine k_newJ (atype := .int) (ty := .int) (kd := 20) (t0 := 0) o hb (hts (.arrayClass .int) (by decide +kernel)) rfl (by decide) (by decide) rfl (fun _ _ => rfl) (by decide) dX12_init_225 h (fun q79 x80 h => ?_)
  refine k_putFF (C := RX12) (T := TX12) (N := 57) (ty := (tyX12 35)) o hb hts in12 tyX12 tyX12_ok nmX12 hown rfl (by decide) 35 (by decide) rfl (hts (.fieldLink RX12 94 "FactKeeperModel" "cursorValues" "[I") (by decide +kernel)) (fun _ h9 => h9) rfl B.hnm rfl (by decide +kernel) (fun r => by cases r <;> rfl) (fun r => by cases r <;> rfl) dX12_init_227 h (fun x81 h => ?_)
  refine k_aload_n o hb dX12_init_230 rfl 0 rfl ?_
  refine k_sipush (v := 6000) o hb dX12_init_231 (by decide) ?_
  refine k_newJ (atype := .int) (ty := .int) (kd := 20) (t0 := 0) o hb (hts (.arrayClass .int) (by decide +kernel)) rfl (by decide) (by decide) rfl (fun _ _ => rfl) (by decide) dX12_init_234 h (fun q82 x83 h => ?_)
  refine k_putFF (C := RX12) (T := TX12) (N := 57) (ty := (tyX12 36)) o hb hts in12 tyX12 tyX12_ok nmX12 hown rfl (by decide) 36 (by decide) rfl (hts (.fieldLink RX12 97 "FactKeeperModel" "found" "[I") (by decide +kernel)) (fun _ h9 => h9) rfl B.hnm rfl (by decide +kernel) (fun r => by cases r <;> rfl) (fun r => by cases r <;> rfl) dX12_init_236 h (fun x84 h => ?_)
  refine k_aload_n o hb dX12_init_239 rfl 0 rfl ?_
  refine k_iconst (v := (-1)) o hb dX12_init_240 (by decide) ?_
  refine k_putI (C := RX12) (T := TX12) (N := 57) (ty := .int) o hb hts in12 tyX12 tyX12_ok nmX12 hown rfl (by decide) 42 (by decide) rfl (hts (.fieldLink RX12 100 "FactKeeperModel" "broken" "I") (by decide +kernel)) (fun _ h9 => h9) rfl (by decide +kernel) (fun _ => rfl) (fun _ => rfl) dX12_init_241 h (fun x85 h => ?_)
  refine k_aload_n o hb dX12_init_244 rfl 0 rfl ?_
  refine k_bipush (v := 11) o hb dX12_init_245 (by decide) ?_
  refine k_newJ (atype := .int) (ty := .int) (kd := 20) (t0 := 0) o hb (hts (.arrayClass .int) (by decide +kernel)) rfl (by decide) (by decide) rfl (fun _ _ => rfl) (by decide) dX12_init_247 h (fun q86 x87 h => ?_)
  refine k_putFF (C := RX12) (T := TX12) (N := 57) (ty := (tyX12 44)) o hb hts in12 tyX12 tyX12_ok nmX12 hown rfl (by decide) 44 (by decide) rfl (hts (.fieldLink RX12 103 "FactKeeperModel" "goal" "[I") (by decide +kernel)) (fun _ h9 => h9) rfl B.hnm rfl (by decide +kernel) (fun r => by cases r <;> rfl) (fun r => by cases r <;> rfl) dX12_init_249 h (fun x88 h => ?_)
  refine k_aload_n o hb dX12_init_252 rfl 0 rfl ?_
  refine k_bipush (v := 11) o hb dX12_init_253 (by decide) ?_
  refine k_newJ (atype := .int) (ty := .int) (kd := 20) (t0 := 0) o hb (hts (.arrayClass .int) (by decide +kernel)) rfl (by decide) (by decide) rfl (fun _ _ => rfl) (by decide) dX12_init_255 h (fun q89 x90 h => ?_)
  refine k_putFF (C := RX12) (T := TX12) (N := 57) (ty := (tyX12 45)) o hb hts in12 tyX12 tyX12_ok nmX12 hown rfl (by decide) 45 (by decide) rfl (hts (.fieldLink RX12 106 "FactKeeperModel" "goalTable" "[I") (by decide +kernel)) (fun _ h9 => h9) rfl B.hnm rfl (by decide +kernel) (fun r => by cases r <;> rfl) (fun r => by cases r <;> rfl) dX12_init_257 h (fun x91 h => ?_)
  refine k_aload_n o hb dX12_init_260 rfl 0 rfl ?_
  refine k_bipush (v := 55) o hb dX12_init_261 (by decide) ?_
  refine k_newJ (atype := .int) (ty := .int) (kd := 20) (t0 := 0) o hb (hts (.arrayClass .int) (by decide +kernel)) rfl (by decide) (by decide) rfl (fun _ _ => rfl) (by decide) dX12_init_263 h (fun q92 x93 h => ?_)
  refine k_putFF (C := RX12) (T := TX12) (N := 57) (ty := (tyX12 46)) o hb hts in12 tyX12 tyX12_ok nmX12 hown rfl (by decide) 46 (by decide) rfl (hts (.fieldLink RX12 109 "FactKeeperModel" "sort" "[I") (by decide +kernel)) (fun _ h9 => h9) rfl B.hnm rfl (by decide +kernel) (fun r => by cases r <;> rfl) (fun r => by cases r <;> rfl) dX12_init_265 h (fun x94 h => ?_)
  refine k_aload_n o hb dX12_init_268 rfl 0 rfl ?_
  refine k_bipush (v := 55) o hb dX12_init_269 (by decide) ?_
  refine k_newJ (atype := .int) (ty := .int) (kd := 20) (t0 := 0) o hb (hts (.arrayClass .int) (by decide +kernel)) rfl (by decide) (by decide) rfl (fun _ _ => rfl) (by decide) dX12_init_271 h (fun q95 x96 h => ?_)
  refine k_putFF (C := RX12) (T := TX12) (N := 57) (ty := (tyX12 47)) o hb hts in12 tyX12 tyX12_ok nmX12 hown rfl (by decide) 47 (by decide) rfl (hts (.fieldLink RX12 112 "FactKeeperModel" "argument" "[I") (by decide +kernel)) (fun _ h9 => h9) rfl B.hnm rfl (by decide +kernel) (fun r => by cases r <;> rfl) (fun r => by cases r <;> rfl) dX12_init_273 h (fun x97 h => ?_)
  refine k_aload_n o hb dX12_init_276 rfl 0 rfl ?_
  refine k_bipush (v := 12) o hb dX12_init_277 (by decide) ?_
  refine k_newJ (atype := .int) (ty := .int) (kd := 20) (t0 := 0) o hb (hts (.arrayClass .int) (by decide +kernel)) rfl (by decide) (by decide) rfl (fun _ _ => rfl) (by decide) dX12_init_279 h (fun q98 x99 h => ?_)
  refine k_putFF (C := RX12) (T := TX12) (N := 57) (ty := (tyX12 48)) o hb hts in12 tyX12 tyX12_ok nmX12 hown rfl (by decide) 48 (by decide) rfl (hts (.fieldLink RX12 115 "FactKeeperModel" "known" "[I") (by decide +kernel)) (fun _ h9 => h9) rfl B.hnm rfl (by decide +kernel) (fun r => by cases r <;> rfl) (fun r => by cases r <;> rfl) dX12_init_281 h (fun x100 h => ?_)
  refine k_aload_n o hb dX12_init_284 rfl 0 rfl ?_
  refine k_bipush (v := 8) o hb dX12_init_285 (by decide) ?_
  refine k_newJ (atype := .int) (ty := .int) (kd := 20) (t0 := 0) o hb (hts (.arrayClass .int) (by decide +kernel)) rfl (by decide) (by decide) rfl (fun _ _ => rfl) (by decide) dX12_init_287 h (fun q101 x102 h => ?_)
  refine k_putFF (C := RX12) (T := TX12) (N := 57) (ty := (tyX12 50)) o hb hts in12 tyX12 tyX12_ok nmX12 hown rfl (by decide) 50 (by decide) rfl (hts (.fieldLink RX12 118 "FactKeeperModel" "variable" "[I") (by decide +kernel)) (fun _ h9 => h9) rfl B.hnm rfl (by decide +kernel) (fun r => by cases r <;> rfl) (fun r => by cases r <;> rfl) dX12_init_289 h (fun x103 h => ?_)
  refine k_aload_n o hb dX12_init_292 rfl 0 rfl ?_
  refine k_bipush (v := 11) o hb dX12_init_293 (by decide) ?_
  refine k_newJ (atype := .int) (ty := .int) (kd := 20) (t0 := 0) o hb (hts (.arrayClass .int) (by decide +kernel)) rfl (by decide) (by decide) rfl (fun _ _ => rfl) (by decide) dX12_init_295 h (fun q104 x105 h => ?_)
  refine k_putFF (C := RX12) (T := TX12) (N := 57) (ty := (tyX12 51)) o hb hts in12 tyX12 tyX12_ok nmX12 hown rfl (by decide) 51 (by decide) rfl (hts (.fieldLink RX12 121 "FactKeeperModel" "standing" "[I") (by decide +kernel)) (fun _ h9 => h9) rfl B.hnm rfl (by decide +kernel) (fun r => by cases r <;> rfl) (fun r => by cases r <;> rfl) dX12_init_297 h (fun x106 h => ?_)
  refine k_aload_n o hb dX12_init_300 rfl 0 rfl ?_
  refine k_iconst (v := 5) o hb dX12_init_301 (by decide) ?_
  refine k_newJ (atype := .int) (ty := .int) (kd := 20) (t0 := 0) o hb (hts (.arrayClass .int) (by decide +kernel)) rfl (by decide) (by decide) rfl (fun _ _ => rfl) (by decide) dX12_init_302 h (fun q107 x108 h => ?_)
  refine k_putFF (C := RX12) (T := TX12) (N := 57) (ty := (tyX12 52)) o hb hts in12 tyX12 tyX12_ok nmX12 hown rfl (by decide) 52 (by decide) rfl (hts (.fieldLink RX12 124 "FactKeeperModel" "by" "[I") (by decide +kernel)) (fun _ h9 => h9) rfl B.hnm rfl (by decide +kernel) (fun r => by cases r <;> rfl) (fun r => by cases r <;> rfl) dX12_init_304 h (fun x109 h => ?_)
  refine k_aload_n o hb dX12_init_307 rfl 0 rfl ?_
  refine k_sipush (v := 800) o hb dX12_init_308 (by decide) ?_
  refine k_newJ (atype := .int) (ty := .int) (kd := 20) (t0 := 0) o hb (hts (.arrayClass .int) (by decide +kernel)) rfl (by decide) (by decide) rfl (fun _ _ => rfl) (by decide) dX12_init_311 h (fun q110 x111 h => ?_)
  refine k_putFF (C := RX12) (T := TX12) (N := 57) (ty := (tyX12 53)) o hb hts in12 tyX12 tyX12_ok nmX12 hown rfl (by decide) 53 (by decide) rfl (hts (.fieldLink RX12 127 "FactKeeperModel" "told" "[I") (by decide +kernel)) (fun _ h9 => h9) rfl B.hnm rfl (by decide +kernel) (fun r => by cases r <;> rfl) (fun r => by cases r <;> rfl) dX12_init_313 h (fun x112 h => ?_)
  refine k_aload_n o hb dX12_init_316 rfl 0 rfl ?_
  refine k_sipush (v := 800) o hb dX12_init_317 (by decide) ?_
  refine k_newJ (atype := .int) (ty := .int) (kd := 20) (t0 := 0) o hb (hts (.arrayClass .int) (by decide +kernel)) rfl (by decide) (by decide) rfl (fun _ _ => rfl) (by decide) dX12_init_320 h (fun q113 x114 h => ?_)
  refine k_putFF (C := RX12) (T := TX12) (N := 57) (ty := (tyX12 54)) o hb hts in12 tyX12 tyX12_ok nmX12 hown rfl (by decide) 54 (by decide) rfl (hts (.fieldLink RX12 130 "FactKeeperModel" "newTold" "[I") (by decide +kernel)) (fun _ h9 => h9) rfl B.hnm rfl (by decide +kernel) (fun r => by cases r <;> rfl) (fun r => by cases r <;> rfl) dX12_init_322 h (fun x115 h => ?_)
  exact k_vret o hb B.hr fr dX12_init_325 h
theorem dX12_four_0 : decode cX12_four 0 = .ok (.bipush 24, 2) := by decide +kernel
theorem dX12_four_2 : decode cX12_four 2 = .ok (.istore_n 2, 1) := by decide +kernel
theorem dX12_four_3 : decode cX12_four 3 = .ok (.iload_n 2, 1) := by decide +kernel
theorem dX12_four_4 : decode cX12_four 4 = .ok (.ifCond .lt 32, 3) := by decide +kernel
theorem dX12_four_7 : decode cX12_four 7 = .ok (.aload_n 0, 1) := by decide +kernel
theorem dX12_four_8 : decode cX12_four 8 = .ok (.getfield 13, 3) := by decide +kernel
theorem dX12_four_11 : decode cX12_four 11 = .ok (.aload_n 0, 1) := by decide +kernel
theorem dX12_four_12 : decode cX12_four 12 = .ok (.getfield 133, 3) := by decide +kernel
theorem dX12_four_15 : decode cX12_four 15 = .ok (.iload_n 1, 1) := by decide +kernel
theorem dX12_four_16 : decode cX12_four 16 = .ok (.iload_n 2, 1) := by decide +kernel
theorem dX12_four_17 : decode cX12_four 17 = .ok (.ishr, 1) := by decide +kernel
theorem dX12_four_18 : decode cX12_four 18 = .ok (.i2b, 1) := by decide +kernel
theorem dX12_four_19 : decode cX12_four 19 = .ok (.bastore, 1) := by decide +kernel
theorem dX12_four_20 : decode cX12_four 20 = .ok (.aload_n 0, 1) := by decide +kernel
theorem dX12_four_21 : decode cX12_four 21 = .ok (.dup, 1) := by decide +kernel
theorem dX12_four_22 : decode cX12_four 22 = .ok (.getfield 133, 3) := by decide +kernel
theorem dX12_four_25 : decode cX12_four 25 = .ok (.iconst 1, 1) := by decide +kernel
theorem dX12_four_26 : decode cX12_four 26 = .ok (.iadd, 1) := by decide +kernel
theorem dX12_four_27 : decode cX12_four 27 = .ok (.putfield 133, 3) := by decide +kernel
theorem dX12_four_30 : decode cX12_four 30 = .ok (.iinc 2 (-8), 3) := by decide +kernel
theorem dX12_four_33 : decode cX12_four 33 = .ok (.goto (-30), 3) := by decide +kernel
theorem dX12_four_36 : decode cX12_four 36 = .ok (.return_, 1) := by decide +kernel
set_option maxHeartbeats 4000000 in
set_option maxRecDepth 100000 in
theorem T_X12_four (l : Launch) (hl : l.stackTraces = false) (D : va_G) (cA : Nat → ClassId) {l0 : Option Nat} {l1 : Int32} {x : HS} {Q : HS → Prop} {X : String → HS → Prop} (h : w_X12_four l0 l1 x Q X) : YV l yX12_four wsX12_four 0 0 D cA [.q l0, .i l1] x Q X := by
  refine YV.of (cc := cX12_four) (maxL := 3) (ret := none) hl (by decide) rfl rfl (fun g B fr => ?_)
  have o := B.o
  have hb := B.hb
  have hts := B.hts
  have hown : g.s.vm.findClass RX12 = some g.m.cls := B.hown
  have in12 : ∀ w ∈ u_ws RX12 TX12 57, w ∈ wsX12_four := fun w h => (List.mem_cons_of_mem _ (List.mem_append_right _ h))
  unfold w_X12_four at h
  show KW g 3 0 [(0, .q l0), (1, .i l1)] [] x
  refine k_bipush (v := 24) o hb dX12_four_0 (by decide) ?_
  refine k_istore_n o hb dX12_four_2 rfl rfl ?_
  refine KW.sub [1, 2, 0] rfl ?_
  refine wLoop_elim (M := fun (v4 : Int32) (x3 : HS) => KW g 3 3 [(0, .q l0), (1, .i l1), (2, .i v4)] [] x3) h ?_
  intro v4 x3 again1 ih2 h
  refine k_iload_n o hb dX12_four_3 rfl 2 rfl ?_
  refine k_if_lt (tgt := 36) o hb dX12_four_4 (by decide) h (fun h => ?_) (fun h => ?_)
  · skip
    exact k_vret o hb B.hr fr dX12_four_36 h
  · skip
    refine k_aload_n o hb dX12_four_7 rfl 0 rfl ?_
    refine k_getF (C := RX12) (T := TX12) (N := 57) o hb hts in12 hown rfl (by decide) 1 (by decide) rfl (hts (.fieldLink RX12 13 "FactKeeperModel" "tape" "[B") (by decide +kernel)) (fun _ h9 => h9) dX12_four_8 h (fun v5 h => ?_)
    refine k_aload_n o hb dX12_four_11 rfl 0 rfl ?_
    refine k_getI (C := RX12) (T := TX12) (N := 57) o hb hts in12 hown rfl (by decide) 2 (by decide) rfl (hts (.fieldLink RX12 133 "FactKeeperModel" "taped" "I") (by decide +kernel)) (fun _ h9 => h9) dX12_four_12 h (fun v6 h => ?_)
    refine k_iload_n o hb dX12_four_15 rfl 1 rfl ?_
    refine k_iload_n o hb dX12_four_16 rfl 2 rfl ?_
    refine k_ishr o hb dX12_four_17 ?_
    refine k_i2b o hb dX12_four_18 ?_
    refine k_bast o hb dX12_four_19 h (fun x7 h => ?_)
    refine k_aload_n o hb dX12_four_20 rfl 0 rfl ?_
    refine k_dup o hb dX12_four_21 ?_
    refine k_getI (C := RX12) (T := TX12) (N := 57) o hb hts in12 hown rfl (by decide) 2 (by decide) rfl (hts (.fieldLink RX12 133 "FactKeeperModel" "taped" "I") (by decide +kernel)) (fun _ h9 => h9) dX12_four_22 h (fun v8 h => ?_)
    refine k_iconst (v := 1) o hb dX12_four_25 (by decide) ?_
    refine k_iadd o hb dX12_four_26 ?_
    refine k_putI (C := RX12) (T := TX12) (N := 57) (ty := .int) o hb hts in12 tyX12 tyX12_ok nmX12 hown rfl (by decide) 2 (by decide) rfl (hts (.fieldLink RX12 133 "FactKeeperModel" "taped" "I") (by decide +kernel)) (fun _ h9 => h9) rfl (by decide +kernel) (fun _ => rfl) (fun _ => rfl) dX12_four_27 h (fun x9 h => ?_)
    refine k_iinc (w := (-8)) o hb dX12_four_30 2 rfl (by decide) rfl ?_
    refine k_goto (tgt := 3) o hb dX12_four_33 (by decide) ?_
    exact KW.sub [1, 2, 0] rfl (ih2 (v4 + (-8)) x9 h)
theorem dX12_feed_0 : decode cX12_feed 0 = .ok (.aload_n 0, 1) := by decide +kernel
theorem dX12_feed_1 : decode cX12_feed 1 = .ok (.aload_n 0, 1) := by decide +kernel
theorem dX12_feed_2 : decode cX12_feed 2 = .ok (.getfield 133, 3) := by decide +kernel
theorem dX12_feed_5 : decode cX12_feed 5 = .ok (.bipush 20, 2) := by decide +kernel
theorem dX12_feed_7 : decode cX12_feed 7 = .ok (.iadd, 1) := by decide +kernel
theorem dX12_feed_8 : decode cX12_feed 8 = .ok (.sipush 400, 3) := by decide +kernel
theorem dX12_feed_11 : decode cX12_feed 11 = .ok (.if_icmp .le 7, 3) := by decide +kernel
theorem dX12_feed_14 : decode cX12_feed 14 = .ok (.iconst 1, 1) := by decide +kernel
theorem dX12_feed_15 : decode cX12_feed 15 = .ok (.goto 4, 3) := by decide +kernel
theorem dX12_feed_18 : decode cX12_feed 18 = .ok (.iconst 0, 1) := by decide +kernel
theorem dX12_feed_19 : decode cX12_feed 19 = .ok (.invokevirtual 136, 3) := by decide +kernel
theorem dX12_feed_22 : decode cX12_feed 22 = .ok (.ifCond .eq 5, 3) := by decide +kernel
theorem dX12_feed_25 : decode cX12_feed 25 = .ok (.iconst 0, 1) := by decide +kernel
theorem dX12_feed_26 : decode cX12_feed 26 = .ok (.ireturn, 1) := by decide +kernel
theorem dX12_feed_27 : decode cX12_feed 27 = .ok (.aload_n 0, 1) := by decide +kernel
theorem dX12_feed_28 : decode cX12_feed 28 = .ok (.iload_n 1, 1) := by decide +kernel
theorem dX12_feed_29 : decode cX12_feed 29 = .ok (.invokevirtual 140, 3) := by decide +kernel
theorem dX12_feed_32 : decode cX12_feed 32 = .ok (.aload_n 0, 1) := by decide +kernel
theorem dX12_feed_33 : decode cX12_feed 33 = .ok (.iload_n 2, 1) := by decide +kernel
theorem dX12_feed_34 : decode cX12_feed 34 = .ok (.invokevirtual 140, 3) := by decide +kernel
theorem dX12_feed_37 : decode cX12_feed 37 = .ok (.aload_n 0, 1) := by decide +kernel
theorem dX12_feed_38 : decode cX12_feed 38 = .ok (.iload_n 3, 1) := by decide +kernel
theorem dX12_feed_39 : decode cX12_feed 39 = .ok (.invokevirtual 140, 3) := by decide +kernel
theorem dX12_feed_42 : decode cX12_feed 42 = .ok (.aload_n 0, 1) := by decide +kernel
theorem dX12_feed_43 : decode cX12_feed 43 = .ok (.iload 4, 2) := by decide +kernel
theorem dX12_feed_45 : decode cX12_feed 45 = .ok (.invokevirtual 140, 3) := by decide +kernel
theorem dX12_feed_48 : decode cX12_feed 48 = .ok (.aload_n 0, 1) := by decide +kernel
theorem dX12_feed_49 : decode cX12_feed 49 = .ok (.iload 5, 2) := by decide +kernel
theorem dX12_feed_51 : decode cX12_feed 51 = .ok (.invokevirtual 140, 3) := by decide +kernel
theorem dX12_feed_54 : decode cX12_feed 54 = .ok (.aload_n 0, 1) := by decide +kernel
theorem dX12_feed_55 : decode cX12_feed 55 = .ok (.getfield 133, 3) := by decide +kernel
theorem dX12_feed_58 : decode cX12_feed 58 = .ok (.ireturn, 1) := by decide +kernel
theorem i9wsX12_feed_0 : ∀ w ∈ ([.fieldLink RX12 133 "FactKeeperModel" "taped" "I", .methodLink RX12 136 yX12_fails, .instanceMethod yX12_fails, .selects RX12 yX12_fails yX12_fails, .initialized RX12, .code yX12_fails cX12_fails 2 (some .boolean), .fieldLink RX12 1 "FactKeeperModel" "thrown" "I", .methodLink RX12 140 yX12_four, .instanceMethod yX12_four, .selects RX12 yX12_four yX12_four, .code yX12_four cX12_four 3 none, .fieldLink RX12 13 "FactKeeperModel" "tape" "[B"] : List Cond), w ∈ wsX12_feed := fun _ h => (List.mem_cons_of_mem _ (List.mem_append_left _ h))
theorem i9wsX12_feed_1 : ∀ w ∈ wsX120, w ∈ wsX12_feed := fun _ h => (List.mem_cons_of_mem _ (List.mem_append_right _ h))
set_option maxRecDepth 20000 in
theorem ggX12_feed_X12_fails : GoodIn wsX12_feed wsX12_fails := (gin_c (mem_at i9wsX12_feed_0 5 rfl) rfl (goodIn_app (gin_c (mem_at i9wsX12_feed_0 6 rfl) rfl gin_n) (goodIn_sub i9wsX12_feed_1 g9_16)))
set_option maxRecDepth 20000 in
theorem gX12_feed_X12_fails : GoodIn wsX12_feed (wsV RX12 136 RX12 yX12_fails wsX12_fails) := goodIn_app (gin_c (mem_at i9wsX12_feed_0 1 rfl) rfl (gin_c (mem_at i9wsX12_feed_0 2 rfl) rfl (gin_c (mem_at i9wsX12_feed_0 3 rfl) rfl (gin_c (mem_at i9wsX12_feed_0 4 rfl) rfl gin_n)))) ggX12_feed_X12_fails
set_option maxRecDepth 20000 in
theorem ggX12_feed_X12_four : GoodIn wsX12_feed wsX12_four := (gin_c (mem_at i9wsX12_feed_0 10 rfl) rfl (goodIn_app (gin_c (mem_at i9wsX12_feed_0 11 rfl) rfl (gin_c (mem_at i9wsX12_feed_0 0 rfl) rfl gin_n)) (goodIn_sub i9wsX12_feed_1 g9_16)))
set_option maxRecDepth 20000 in
theorem gX12_feed_X12_four : GoodIn wsX12_feed (wsV RX12 140 RX12 yX12_four wsX12_four) := goodIn_app (gin_c (mem_at i9wsX12_feed_0 7 rfl) rfl (gin_c (mem_at i9wsX12_feed_0 8 rfl) rfl (gin_c (mem_at i9wsX12_feed_0 9 rfl) rfl (gin_c (mem_at i9wsX12_feed_0 4 rfl) rfl gin_n)))) ggX12_feed_X12_four
set_option maxHeartbeats 4000000 in
set_option maxRecDepth 100000 in
theorem T_X12_feed (l : Launch) (hl : l.stackTraces = false) (D : va_G) (cA : Nat → ClassId) {l0 : Option Nat} {l1 : Int32} {l2 : Int32} {l3 : Int32} {l4 : Int32} {l5 : Int32} {x : HS} {Q : Int32 → HS → Prop} {X : String → HS → Prop} (h : w_X12_feed l0 l1 l2 l3 l4 l5 x Q X) : YI l yX12_feed wsX12_feed 1 22 D cA [.q l0, .i l1, .i l2, .i l3, .i l4, .i l5] x Q X := by
  refine YI.of (cc := cX12_feed) (maxL := 6) (ret := (some .int)) hl (by decide) rfl rfl (fun g B fr => ?_)
  have o := B.o
  have hb := B.hb
  have hts := B.hts
  have hown : g.s.vm.findClass RX12 = some g.m.cls := B.hown
  have in12 : ∀ w ∈ u_ws RX12 TX12 57, w ∈ wsX12_feed := fun w h => (List.mem_cons_of_mem _ (List.mem_append_right _ h))
  unfold w_X12_feed at h
  show KW g 6 0 [(0, .q l0), (1, .i l1), (2, .i l2), (3, .i l3), (4, .i l4), (5, .i l5)] [] x
  refine k_aload_n o hb dX12_feed_0 rfl 0 rfl ?_
  refine k_aload_n o hb dX12_feed_1 rfl 0 rfl ?_
  refine k_getI (C := RX12) (T := TX12) (N := 57) o hb hts in12 hown rfl (by decide) 2 (by decide) rfl (hts (.fieldLink RX12 133 "FactKeeperModel" "taped" "I") (by decide +kernel)) (fun _ h9 => h9) dX12_feed_2 h (fun v1 h => ?_)
  refine k_bipush (v := 20) o hb dX12_feed_5 (by decide) ?_
  refine k_iadd o hb dX12_feed_7 ?_
  refine k_sipush (v := 400) o hb dX12_feed_8 (by decide) ?_
  refine wJoin_elim (M := fun K => ∀ (v4 : Int32) (x3 : HS), K v4 x3 → KW g 6 19 [(0, .q l0), (1, .i l1), (2, .i l2), (3, .i l3), (4, .i l4), (5, .i l5)] [.i v4, .q l0] x3) h ?_ (fun j2 hj2 h => ?_)
  · skip
    intro v4 x3 h
    refine k_run_i o (fun _ _ q => q) (k_runV (ci := 12) (rc := (RX12, TX12, 57)) o hb B.hml hown hts rfl (by decide) (T_X12_fails g.l o.hl g.D g.cA h.2) (cwV 1 hts gX12_feed_X12_fails rfl rfl rfl (by decide +kernel) ⟨yle B.hR1 rfl, yle B.hR2 rfl⟩) h.1 rfl rfl (Nat.le_of_ble_eq_true rfl) dX12_feed_19) (fun v6 x5 h => ?_)
    refine k_if_eq (tgt := 27) o hb dX12_feed_22 (by decide) h (fun h => ?_) (fun h => ?_)
    · skip
      refine k_aload_n o hb dX12_feed_27 rfl 0 rfl ?_
      refine k_iload_n o hb dX12_feed_28 rfl 1 rfl ?_
      refine k_run_v o (fun _ _ q => q) (k_runV (ci := 12) (rc := (RX12, TX12, 57)) o hb B.hml hown hts rfl (by decide) (T_X12_four g.l o.hl g.D g.cA h.2) (cwV 1 hts gX12_feed_X12_four rfl rfl rfl (by decide +kernel) ⟨yle B.hR1 rfl, yle B.hR2 rfl⟩) h.1 rfl rfl (Nat.le_of_ble_eq_true rfl) dX12_feed_29) (fun x7 h => ?_)
      refine k_aload_n o hb dX12_feed_32 rfl 0 rfl ?_
      refine k_iload_n o hb dX12_feed_33 rfl 2 rfl ?_
      refine k_run_v o (fun _ _ q => q) (k_runV (ci := 12) (rc := (RX12, TX12, 57)) o hb B.hml hown hts rfl (by decide) (T_X12_four g.l o.hl g.D g.cA h.2) (cwV 1 hts gX12_feed_X12_four rfl rfl rfl (by decide +kernel) ⟨yle B.hR1 rfl, yle B.hR2 rfl⟩) h.1 rfl rfl (Nat.le_of_ble_eq_true rfl) dX12_feed_34) (fun x9 h => ?_)
      refine k_aload_n o hb dX12_feed_37 rfl 0 rfl ?_
      refine k_iload_n o hb dX12_feed_38 rfl 3 rfl ?_
      refine k_run_v o (fun _ _ q => q) (k_runV (ci := 12) (rc := (RX12, TX12, 57)) o hb B.hml hown hts rfl (by decide) (T_X12_four g.l o.hl g.D g.cA h.2) (cwV 1 hts gX12_feed_X12_four rfl rfl rfl (by decide +kernel) ⟨yle B.hR1 rfl, yle B.hR2 rfl⟩) h.1 rfl rfl (Nat.le_of_ble_eq_true rfl) dX12_feed_39) (fun x11 h => ?_)
      refine k_aload_n o hb dX12_feed_42 rfl 0 rfl ?_
      refine k_iload o hb dX12_feed_43 4 rfl ?_
      refine k_run_v o (fun _ _ q => q) (k_runV (ci := 12) (rc := (RX12, TX12, 57)) o hb B.hml hown hts rfl (by decide) (T_X12_four g.l o.hl g.D g.cA h.2) (cwV 1 hts gX12_feed_X12_four rfl rfl rfl (by decide +kernel) ⟨yle B.hR1 rfl, yle B.hR2 rfl⟩) h.1 rfl rfl (Nat.le_of_ble_eq_true rfl) dX12_feed_45) (fun x13 h => ?_)
      refine k_aload_n o hb dX12_feed_48 rfl 0 rfl ?_
      refine k_iload o hb dX12_feed_49 5 rfl ?_
      refine k_run_v o (fun _ _ q => q) (k_runV (ci := 12) (rc := (RX12, TX12, 57)) o hb B.hml hown hts rfl (by decide) (T_X12_four g.l o.hl g.D g.cA h.2) (cwV 1 hts gX12_feed_X12_four rfl rfl rfl (by decide +kernel) ⟨yle B.hR1 rfl, yle B.hR2 rfl⟩) h.1 rfl rfl (Nat.le_of_ble_eq_true rfl) dX12_feed_51) (fun x15 h => ?_)
      refine k_aload_n o hb dX12_feed_54 rfl 0 rfl ?_
      refine k_getI (C := RX12) (T := TX12) (N := 57) o hb hts in12 hown rfl (by decide) 2 (by decide) rfl (hts (.fieldLink RX12 133 "FactKeeperModel" "taped" "I") (by decide +kernel)) (fun _ h9 => h9) dX12_feed_55 h (fun v17 h => ?_)
      exact k_iret o hb B.hr fr dX12_feed_58 h
    · skip
      refine k_iconst (v := 0) o hb dX12_feed_25 (by decide) ?_
      exact k_iret o hb B.hr fr dX12_feed_26 h
  · skip
    refine k_icmp_le (tgt := 18) o hb dX12_feed_11 (by decide) h (fun h => ?_) (fun h => ?_)
    · skip
      refine k_iconst (v := 0) o hb dX12_feed_18 (by decide) ?_
      exact KW.sub [0, 1, 2, 3, 4, 5] rfl (hj2 0 x h)
    · skip
      refine k_iconst (v := 1) o hb dX12_feed_14 (by decide) ?_
      refine k_goto (tgt := 19) o hb dX12_feed_15 (by decide) ?_
      exact KW.sub [0, 1, 2, 3, 4, 5] rfl (hj2 1 x h)
theorem dX12_end_0 : decode cX12_end 0 = .ok (.aload_n 0, 1) := by decide +kernel
theorem dX12_end_1 : decode cX12_end 1 = .ok (.iload_n 1, 1) := by decide +kernel
theorem dX12_end_2 : decode cX12_end 2 = .ok (.ifCond .lt 11, 3) := by decide +kernel
theorem dX12_end_5 : decode cX12_end 5 = .ok (.iload_n 1, 1) := by decide +kernel
theorem dX12_end_6 : decode cX12_end 6 = .ok (.aload_n 0, 1) := by decide +kernel
theorem dX12_end_7 : decode cX12_end 7 = .ok (.getfield 133, 3) := by decide +kernel
theorem dX12_end_10 : decode cX12_end 10 = .ok (.if_icmp .le 7, 3) := by decide +kernel
theorem dX12_end_13 : decode cX12_end 13 = .ok (.iconst 1, 1) := by decide +kernel
theorem dX12_end_14 : decode cX12_end 14 = .ok (.goto 4, 3) := by decide +kernel
theorem dX12_end_17 : decode cX12_end 17 = .ok (.iconst 0, 1) := by decide +kernel
theorem dX12_end_18 : decode cX12_end 18 = .ok (.invokevirtual 136, 3) := by decide +kernel
theorem dX12_end_21 : decode cX12_end 21 = .ok (.ifCond .eq 5, 3) := by decide +kernel
theorem dX12_end_24 : decode cX12_end 24 = .ok (.iconst 0, 1) := by decide +kernel
theorem dX12_end_25 : decode cX12_end 25 = .ok (.ireturn, 1) := by decide +kernel
theorem dX12_end_26 : decode cX12_end 26 = .ok (.aload_n 0, 1) := by decide +kernel
theorem dX12_end_27 : decode cX12_end 27 = .ok (.iload_n 1, 1) := by decide +kernel
theorem dX12_end_28 : decode cX12_end 28 = .ok (.putfield 133, 3) := by decide +kernel
theorem dX12_end_31 : decode cX12_end 31 = .ok (.iload_n 1, 1) := by decide +kernel
theorem dX12_end_32 : decode cX12_end 32 = .ok (.ireturn, 1) := by decide +kernel
theorem i9wsX12_end_0 : ∀ w ∈ ([.fieldLink RX12 133 "FactKeeperModel" "taped" "I", .methodLink RX12 136 yX12_fails, .instanceMethod yX12_fails, .selects RX12 yX12_fails yX12_fails, .initialized RX12, .code yX12_fails cX12_fails 2 (some .boolean), .fieldLink RX12 1 "FactKeeperModel" "thrown" "I"] : List Cond), w ∈ wsX12_end := fun _ h => (List.mem_cons_of_mem _ (List.mem_append_left _ h))
theorem i9wsX12_end_1 : ∀ w ∈ wsX120, w ∈ wsX12_end := fun _ h => (List.mem_cons_of_mem _ (List.mem_append_right _ h))
set_option maxRecDepth 20000 in
theorem ggX12_end_X12_fails : GoodIn wsX12_end wsX12_fails := (gin_c (mem_at i9wsX12_end_0 5 rfl) rfl (goodIn_app (gin_c (mem_at i9wsX12_end_0 6 rfl) rfl gin_n) (goodIn_sub i9wsX12_end_1 g9_16)))
set_option maxRecDepth 20000 in
theorem gX12_end_X12_fails : GoodIn wsX12_end (wsV RX12 136 RX12 yX12_fails wsX12_fails) := goodIn_app (gin_c (mem_at i9wsX12_end_0 1 rfl) rfl (gin_c (mem_at i9wsX12_end_0 2 rfl) rfl (gin_c (mem_at i9wsX12_end_0 3 rfl) rfl (gin_c (mem_at i9wsX12_end_0 4 rfl) rfl gin_n)))) ggX12_end_X12_fails
set_option maxHeartbeats 4000000 in
set_option maxRecDepth 100000 in
theorem T_X12_end (l : Launch) (hl : l.stackTraces = false) (D : va_G) (cA : Nat → ClassId) {l0 : Option Nat} {l1 : Int32} {x : HS} {Q : Int32 → HS → Prop} {X : String → HS → Prop} (h : w_X12_end l0 l1 x Q X) : YI l yX12_end wsX12_end 1 21 D cA [.q l0, .i l1] x Q X := by
  refine YI.of (cc := cX12_end) (maxL := 2) (ret := (some .int)) hl (by decide) rfl rfl (fun g B fr => ?_)
  have o := B.o
  have hb := B.hb
  have hts := B.hts
  have hown : g.s.vm.findClass RX12 = some g.m.cls := B.hown
  have in12 : ∀ w ∈ u_ws RX12 TX12 57, w ∈ wsX12_end := fun w h => (List.mem_cons_of_mem _ (List.mem_append_right _ h))
  unfold w_X12_end at h
  show KW g 2 0 [(0, .q l0), (1, .i l1)] [] x
  refine k_aload_n o hb dX12_end_0 rfl 0 rfl ?_
  refine k_iload_n o hb dX12_end_1 rfl 1 rfl ?_
  refine wJoin_elim (M := fun K => ∀ (v3 : Int32) (x2 : HS), K v3 x2 → KW g 2 18 [(0, .q l0), (1, .i l1)] [.i v3, .q l0] x2) h ?_ (fun j1 hj1 h => ?_)
  · skip
    intro v3 x2 h
    refine k_run_i o (fun _ _ q => q) (k_runV (ci := 12) (rc := (RX12, TX12, 57)) o hb B.hml hown hts rfl (by decide) (T_X12_fails g.l o.hl g.D g.cA h.2) (cwV 1 hts gX12_end_X12_fails rfl rfl rfl (by decide +kernel) ⟨yle B.hR1 rfl, yle B.hR2 rfl⟩) h.1 rfl rfl (Nat.le_of_ble_eq_true rfl) dX12_end_18) (fun v5 x4 h => ?_)
    refine k_if_eq (tgt := 26) o hb dX12_end_21 (by decide) h (fun h => ?_) (fun h => ?_)
    · skip
      refine k_aload_n o hb dX12_end_26 rfl 0 rfl ?_
      refine k_iload_n o hb dX12_end_27 rfl 1 rfl ?_
      refine k_putI (C := RX12) (T := TX12) (N := 57) (ty := .int) o hb hts in12 tyX12 tyX12_ok nmX12 hown rfl (by decide) 2 (by decide) rfl (hts (.fieldLink RX12 133 "FactKeeperModel" "taped" "I") (by decide +kernel)) (fun _ h9 => h9) rfl (by decide +kernel) (fun _ => rfl) (fun _ => rfl) dX12_end_28 h (fun x6 h => ?_)
      refine k_iload_n o hb dX12_end_31 rfl 1 rfl ?_
      exact k_iret o hb B.hr fr dX12_end_32 h
    · skip
      refine k_iconst (v := 0) o hb dX12_end_24 (by decide) ?_
      exact k_iret o hb B.hr fr dX12_end_25 h
  · skip
    refine wJoin_elim (M := fun K => ∀  (x8 : HS), K  x8 → KW g 2 13 [(0, .q l0), (1, .i l1)] [.q l0] x8) h ?_ (fun j7 hj7 h => ?_)
    · skip
      intro  x8 h
      refine k_iconst (v := 1) o hb dX12_end_13 (by decide) ?_
      refine k_goto (tgt := 18) o hb dX12_end_14 (by decide) ?_
      exact KW.sub [0, 1] rfl (hj1 1 x8 h)
    · skip
      refine k_if_lt (tgt := 13) o hb dX12_end_2 (by decide) h (fun h => ?_) (fun h => ?_)
      · skip
        exact KW.sub [0, 1] rfl (hj7 x h)
      · skip
        refine k_iload_n o hb dX12_end_5 rfl 1 rfl ?_
        refine k_aload_n o hb dX12_end_6 rfl 0 rfl ?_
        refine k_getI (C := RX12) (T := TX12) (N := 57) o hb hts in12 hown rfl (by decide) 2 (by decide) rfl (hts (.fieldLink RX12 133 "FactKeeperModel" "taped" "I") (by decide +kernel)) (fun _ h9 => h9) dX12_end_7 h (fun v9 h => ?_)
        refine k_icmp_le (tgt := 17) o hb dX12_end_10 (by decide) h (fun h => ?_) (fun h => ?_)
        · skip
          refine k_iconst (v := 0) o hb dX12_end_17 (by decide) ?_
          exact KW.sub [0, 1] rfl (hj1 0 x h)
        · skip
          exact KW.sub [0, 1] rfl (hj7 x h)
theorem dX12_value_0 : decode cX12_value 0 = .ok (.aload_n 0, 1) := by decide +kernel
theorem dX12_value_1 : decode cX12_value 1 = .ok (.iload_n 1, 1) := by decide +kernel
theorem dX12_value_2 : decode cX12_value 2 = .ok (.ifCond .lt 8, 3) := by decide +kernel
theorem dX12_value_5 : decode cX12_value 5 = .ok (.iload_n 1, 1) := by decide +kernel
theorem dX12_value_6 : decode cX12_value 6 = .ok (.iconst 3, 1) := by decide +kernel
theorem dX12_value_7 : decode cX12_value 7 = .ok (.if_icmp .le 7, 3) := by decide +kernel
theorem dX12_value_10 : decode cX12_value 10 = .ok (.iconst 1, 1) := by decide +kernel
theorem dX12_value_11 : decode cX12_value 11 = .ok (.goto 4, 3) := by decide +kernel
theorem dX12_value_14 : decode cX12_value 14 = .ok (.iconst 0, 1) := by decide +kernel
theorem dX12_value_15 : decode cX12_value 15 = .ok (.invokevirtual 136, 3) := by decide +kernel
theorem dX12_value_18 : decode cX12_value 18 = .ok (.ifCond .eq 5, 3) := by decide +kernel
theorem dX12_value_21 : decode cX12_value 21 = .ok (.iconst 0, 1) := by decide +kernel
theorem dX12_value_22 : decode cX12_value 22 = .ok (.ireturn, 1) := by decide +kernel
theorem dX12_value_23 : decode cX12_value 23 = .ok (.aload_n 0, 1) := by decide +kernel
theorem dX12_value_24 : decode cX12_value 24 = .ok (.getfield 17, 3) := by decide +kernel
theorem dX12_value_27 : decode cX12_value 27 = .ok (.iload_n 1, 1) := by decide +kernel
theorem dX12_value_28 : decode cX12_value 28 = .ok (.iaload, 1) := by decide +kernel
theorem dX12_value_29 : decode cX12_value 29 = .ok (.istore_n 3, 1) := by decide +kernel
theorem dX12_value_30 : decode cX12_value 30 = .ok (.aload_n 0, 1) := by decide +kernel
theorem dX12_value_31 : decode cX12_value 31 = .ok (.getfield 17, 3) := by decide +kernel
theorem dX12_value_34 : decode cX12_value 34 = .ok (.iload_n 1, 1) := by decide +kernel
theorem dX12_value_35 : decode cX12_value 35 = .ok (.iload_n 2, 1) := by decide +kernel
theorem dX12_value_36 : decode cX12_value 36 = .ok (.iastore, 1) := by decide +kernel
theorem dX12_value_37 : decode cX12_value 37 = .ok (.iload_n 3, 1) := by decide +kernel
theorem dX12_value_38 : decode cX12_value 38 = .ok (.ireturn, 1) := by decide +kernel
theorem i9wsX12_value_0 : ∀ w ∈ ([.fieldLink RX12 17 "FactKeeperModel" "values" "[I", .methodLink RX12 136 yX12_fails, .instanceMethod yX12_fails, .selects RX12 yX12_fails yX12_fails, .initialized RX12, .code yX12_fails cX12_fails 2 (some .boolean), .fieldLink RX12 1 "FactKeeperModel" "thrown" "I"] : List Cond), w ∈ wsX12_value := fun _ h => (List.mem_cons_of_mem _ (List.mem_append_left _ h))
theorem i9wsX12_value_1 : ∀ w ∈ wsX120, w ∈ wsX12_value := fun _ h => (List.mem_cons_of_mem _ (List.mem_append_right _ h))
set_option maxRecDepth 20000 in
theorem ggX12_value_X12_fails : GoodIn wsX12_value wsX12_fails := (gin_c (mem_at i9wsX12_value_0 5 rfl) rfl (goodIn_app (gin_c (mem_at i9wsX12_value_0 6 rfl) rfl gin_n) (goodIn_sub i9wsX12_value_1 g9_16)))
set_option maxRecDepth 20000 in
theorem gX12_value_X12_fails : GoodIn wsX12_value (wsV RX12 136 RX12 yX12_fails wsX12_fails) := goodIn_app (gin_c (mem_at i9wsX12_value_0 1 rfl) rfl (gin_c (mem_at i9wsX12_value_0 2 rfl) rfl (gin_c (mem_at i9wsX12_value_0 3 rfl) rfl (gin_c (mem_at i9wsX12_value_0 4 rfl) rfl gin_n)))) ggX12_value_X12_fails
set_option maxHeartbeats 4000000 in
set_option maxRecDepth 100000 in
theorem T_X12_value (l : Launch) (hl : l.stackTraces = false) (D : va_G) (cA : Nat → ClassId) {l0 : Option Nat} {l1 : Int32} {l2 : Int32} {x : HS} {Q : Int32 → HS → Prop} {X : String → HS → Prop} (h : w_X12_value l0 l1 l2 x Q X) : YI l yX12_value wsX12_value 1 21 D cA [.q l0, .i l1, .i l2] x Q X := by
  refine YI.of (cc := cX12_value) (maxL := 4) (ret := (some .int)) hl (by decide) rfl rfl (fun g B fr => ?_)
  have o := B.o
  have hb := B.hb
  have hts := B.hts
  have hown : g.s.vm.findClass RX12 = some g.m.cls := B.hown
  have in12 : ∀ w ∈ u_ws RX12 TX12 57, w ∈ wsX12_value := fun w h => (List.mem_cons_of_mem _ (List.mem_append_right _ h))
  unfold w_X12_value at h
  show KW g 4 0 [(0, .q l0), (1, .i l1), (2, .i l2)] [] x
  refine k_aload_n o hb dX12_value_0 rfl 0 rfl ?_
  refine k_iload_n o hb dX12_value_1 rfl 1 rfl ?_
  refine wJoin_elim (M := fun K => ∀ (v3 : Int32) (x2 : HS), K v3 x2 → KW g 4 15 [(0, .q l0), (1, .i l1), (2, .i l2)] [.i v3, .q l0] x2) h ?_ (fun j1 hj1 h => ?_)
  · skip
    intro v3 x2 h
    refine k_run_i o (fun _ _ q => q) (k_runV (ci := 12) (rc := (RX12, TX12, 57)) o hb B.hml hown hts rfl (by decide) (T_X12_fails g.l o.hl g.D g.cA h.2) (cwV 1 hts gX12_value_X12_fails rfl rfl rfl (by decide +kernel) ⟨yle B.hR1 rfl, yle B.hR2 rfl⟩) h.1 rfl rfl (Nat.le_of_ble_eq_true rfl) dX12_value_15) (fun v5 x4 h => ?_)
    refine k_if_eq (tgt := 23) o hb dX12_value_18 (by decide) h (fun h => ?_) (fun h => ?_)
    · skip
      refine k_aload_n o hb dX12_value_23 rfl 0 rfl ?_
      refine k_getF (C := RX12) (T := TX12) (N := 57) o hb hts in12 hown rfl (by decide) 3 (by decide) rfl (hts (.fieldLink RX12 17 "FactKeeperModel" "values" "[I") (by decide +kernel)) (fun _ h9 => h9) dX12_value_24 h (fun v6 h => ?_)
      refine k_iload_n o hb dX12_value_27 rfl 1 rfl ?_
      refine k_iald o hb dX12_value_28 h (fun v7 h => ?_)
      refine k_istore_n o hb dX12_value_29 rfl rfl ?_
      refine k_aload_n o hb dX12_value_30 rfl 1 rfl ?_
      refine k_getF (C := RX12) (T := TX12) (N := 57) o hb hts in12 hown rfl (by decide) 3 (by decide) rfl (hts (.fieldLink RX12 17 "FactKeeperModel" "values" "[I") (by decide +kernel)) (fun _ h9 => h9) dX12_value_31 h (fun v8 h => ?_)
      refine k_iload_n o hb dX12_value_34 rfl 2 rfl ?_
      refine k_iload_n o hb dX12_value_35 rfl 3 rfl ?_
      refine k_iast o hb dX12_value_36 h (fun x9 h => ?_)
      refine k_iload_n o hb dX12_value_37 rfl 0 rfl ?_
      exact k_iret o hb B.hr fr dX12_value_38 h
    · skip
      refine k_iconst (v := 0) o hb dX12_value_21 (by decide) ?_
      exact k_iret o hb B.hr fr dX12_value_22 h
  · skip
    refine wJoin_elim (M := fun K => ∀  (x11 : HS), K  x11 → KW g 4 10 [(0, .q l0), (1, .i l1), (2, .i l2)] [.q l0] x11) h ?_ (fun j10 hj10 h => ?_)
    · skip
      intro  x11 h
      refine k_iconst (v := 1) o hb dX12_value_10 (by decide) ?_
      refine k_goto (tgt := 15) o hb dX12_value_11 (by decide) ?_
      exact KW.sub [0, 1, 2] rfl (hj1 1 x11 h)
    · skip
      refine k_if_lt (tgt := 10) o hb dX12_value_2 (by decide) h (fun h => ?_) (fun h => ?_)
      · skip
        exact KW.sub [0, 1, 2] rfl (hj10 x h)
      · skip
        refine k_iload_n o hb dX12_value_5 rfl 1 rfl ?_
        refine k_iconst (v := 3) o hb dX12_value_6 (by decide) ?_
        refine k_icmp_le (tgt := 14) o hb dX12_value_7 (by decide) h (fun h => ?_) (fun h => ?_)
        · skip
          refine k_iconst (v := 0) o hb dX12_value_14 (by decide) ?_
          exact KW.sub [0, 1, 2] rfl (hj1 0 x h)
        · skip
          exact KW.sub [0, 1, 2] rfl (hj10 x h)
theorem dX12_isTable_0 : decode cX12_isTable 0 = .ok (.iload_n 1, 1) := by decide +kernel
theorem dX12_isTable_1 : decode cX12_isTable 1 = .ok (.ifCond .lt 15, 3) := by decide +kernel
theorem dX12_isTable_4 : decode cX12_isTable 4 = .ok (.iload_n 1, 1) := by decide +kernel
theorem dX12_isTable_5 : decode cX12_isTable 5 = .ok (.aload_n 0, 1) := by decide +kernel
theorem dX12_isTable_6 : decode cX12_isTable 6 = .ok (.getfield 144, 3) := by decide +kernel
theorem dX12_isTable_9 : decode cX12_isTable 9 = .ok (.if_icmp .ge 7, 3) := by decide +kernel
theorem dX12_isTable_12 : decode cX12_isTable 12 = .ok (.iconst 1, 1) := by decide +kernel
theorem dX12_isTable_13 : decode cX12_isTable 13 = .ok (.goto 4, 3) := by decide +kernel
theorem dX12_isTable_16 : decode cX12_isTable 16 = .ok (.iconst 0, 1) := by decide +kernel
theorem dX12_isTable_17 : decode cX12_isTable 17 = .ok (.ireturn, 1) := by decide +kernel
set_option maxHeartbeats 4000000 in
set_option maxRecDepth 100000 in
theorem T_X12_isTable (l : Launch) (hl : l.stackTraces = false) (D : va_G) (cA : Nat → ClassId) {l0 : Option Nat} {l1 : Int32} {x : HS} {Q : Int32 → HS → Prop} {X : String → HS → Prop} (h : w_X12_isTable l0 l1 x Q X) : YI l yX12_isTable wsX12_isTable 0 0 D cA [.q l0, .i l1] x Q X := by
  refine YI.of (cc := cX12_isTable) (maxL := 2) (ret := (some .boolean)) hl (by decide) rfl rfl (fun g B fr => ?_)
  have o := B.o
  have hb := B.hb
  have hts := B.hts
  have hown : g.s.vm.findClass RX12 = some g.m.cls := B.hown
  have in12 : ∀ w ∈ u_ws RX12 TX12 57, w ∈ wsX12_isTable := fun w h => (List.mem_cons_of_mem _ (List.mem_append_right _ h))
  unfold w_X12_isTable at h
  show KW g 2 0 [(0, .q l0), (1, .i l1)] [] x
  refine k_iload_n o hb dX12_isTable_0 rfl 1 rfl ?_
  refine wJoin_elim (M := fun K => ∀ (v3 : Int32) (x2 : HS), K v3 x2 → KW g 2 17 [] [.i v3] x2) h ?_ (fun j1 hj1 h => ?_)
  · skip
    intro v3 x2 h
    exact k_zret o hb B.hr fr dX12_isTable_17 h
  · skip
    refine wJoin_elim (M := fun K => ∀  (x5 : HS), K  x5 → KW g 2 16 [] [] x5) h ?_ (fun j4 hj4 h => ?_)
    · skip
      intro  x5 h
      refine k_iconst (v := 0) o hb dX12_isTable_16 (by decide) ?_
      exact KW.sub [] rfl (hj1 0 x5 h)
    · skip
      refine k_if_lt (tgt := 16) o hb dX12_isTable_1 (by decide) h (fun h => ?_) (fun h => ?_)
      · skip
        exact KW.sub [] rfl (hj4 x h)
      · skip
        refine k_iload_n o hb dX12_isTable_4 rfl 1 rfl ?_
        refine k_aload_n o hb dX12_isTable_5 rfl 0 rfl ?_
        refine k_getI (C := RX12) (T := TX12) (N := 57) o hb hts in12 hown rfl (by decide) 10 (by decide) rfl (hts (.fieldLink RX12 144 "FactKeeperModel" "tables" "I") (by decide +kernel)) (fun _ h9 => h9) dX12_isTable_6 h (fun v6 h => ?_)
        refine k_icmp_ge (tgt := 16) o hb dX12_isTable_9 (by decide) h (fun h => ?_) (fun h => ?_)
        · skip
          exact KW.sub [] rfl (hj4 x h)
        · skip
          refine k_iconst (v := 1) o hb dX12_isTable_12 (by decide) ?_
          refine k_goto (tgt := 17) o hb dX12_isTable_13 (by decide) ?_
          exact KW.sub [] rfl (hj1 1 x h)
theorem dX12_isMask_0 : decode cX12_isMask 0 = .ok (.iload_n 1, 1) := by decide +kernel
theorem dX12_isMask_1 : decode cX12_isMask 1 = .ok (.ifCond .lt 13, 3) := by decide +kernel
theorem dX12_isMask_4 : decode cX12_isMask 4 = .ok (.iload_n 1, 1) := by decide +kernel
theorem dX12_isMask_5 : decode cX12_isMask 5 = .ok (.bipush 15, 2) := by decide +kernel
theorem dX12_isMask_7 : decode cX12_isMask 7 = .ok (.if_icmp .gt 7, 3) := by decide +kernel
theorem dX12_isMask_10 : decode cX12_isMask 10 = .ok (.iconst 1, 1) := by decide +kernel
theorem dX12_isMask_11 : decode cX12_isMask 11 = .ok (.goto 4, 3) := by decide +kernel
theorem dX12_isMask_14 : decode cX12_isMask 14 = .ok (.iconst 0, 1) := by decide +kernel
theorem dX12_isMask_15 : decode cX12_isMask 15 = .ok (.ireturn, 1) := by decide +kernel
set_option maxHeartbeats 4000000 in
set_option maxRecDepth 100000 in
theorem T_X12_isMask (l : Launch) (hl : l.stackTraces = false) (D : va_G) (cA : Nat → ClassId) {l0 : Option Nat} {l1 : Int32} {x : HS} {Q : Int32 → HS → Prop} {X : String → HS → Prop} (h : w_X12_isMask l0 l1 x Q X) : YI l yX12_isMask wsX12_isMask 0 0 D cA [.q l0, .i l1] x Q X := by
  refine YI.of (cc := cX12_isMask) (maxL := 2) (ret := (some .boolean)) hl (by decide) rfl rfl (fun g B fr => ?_)
  have o := B.o
  have hb := B.hb
  have hts := B.hts
  have hown : g.s.vm.findClass RX12 = some g.m.cls := B.hown
  unfold w_X12_isMask at h
  show KW g 2 0 [(0, .q l0), (1, .i l1)] [] x
  refine k_iload_n o hb dX12_isMask_0 rfl 1 rfl ?_
  refine wJoin_elim (M := fun K => ∀ (v3 : Int32) (x2 : HS), K v3 x2 → KW g 2 15 [] [.i v3] x2) h ?_ (fun j1 hj1 h => ?_)
  · skip
    intro v3 x2 h
    exact k_zret o hb B.hr fr dX12_isMask_15 h
  · skip
    refine wJoin_elim (M := fun K => ∀  (x5 : HS), K  x5 → KW g 2 14 [] [] x5) h ?_ (fun j4 hj4 h => ?_)
    · skip
      intro  x5 h
      refine k_iconst (v := 0) o hb dX12_isMask_14 (by decide) ?_
      exact KW.sub [] rfl (hj1 0 x5 h)
    · skip
      refine k_if_lt (tgt := 14) o hb dX12_isMask_1 (by decide) h (fun h => ?_) (fun h => ?_)
      · skip
        exact KW.sub [] rfl (hj4 x h)
      · skip
        refine k_iload_n o hb dX12_isMask_4 rfl 1 rfl ?_
        refine k_bipush (v := 15) o hb dX12_isMask_5 (by decide) ?_
        refine k_icmp_gt (tgt := 14) o hb dX12_isMask_7 (by decide) h (fun h => ?_) (fun h => ?_)
        · skip
          exact KW.sub [] rfl (hj4 x h)
        · skip
          refine k_iconst (v := 1) o hb dX12_isMask_10 (by decide) ?_
          refine k_goto (tgt := 15) o hb dX12_isMask_11 (by decide) ?_
          exact KW.sub [] rfl (hj1 1 x h)
theorem dX12_isTime_0 : decode cX12_isTime 0 = .ok (.iload_n 1, 1) := by decide +kernel
theorem dX12_isTime_1 : decode cX12_isTime 1 = .ok (.iconst (-1), 1) := by decide +kernel
theorem dX12_isTime_2 : decode cX12_isTime 2 = .ok (.if_icmp .eq 19, 3) := by decide +kernel
theorem dX12_isTime_5 : decode cX12_isTime 5 = .ok (.iload_n 1, 1) := by decide +kernel
theorem dX12_isTime_6 : decode cX12_isTime 6 = .ok (.aload_n 0, 1) := by decide +kernel
theorem dX12_isTime_7 : decode cX12_isTime 7 = .ok (.getfield 147, 3) := by decide +kernel
theorem dX12_isTime_10 : decode cX12_isTime 10 = .ok (.if_icmp .lt 15, 3) := by decide +kernel
theorem dX12_isTime_13 : decode cX12_isTime 13 = .ok (.iload_n 1, 1) := by decide +kernel
theorem dX12_isTime_14 : decode cX12_isTime 14 = .ok (.aload_n 0, 1) := by decide +kernel
theorem dX12_isTime_15 : decode cX12_isTime 15 = .ok (.getfield 150, 3) := by decide +kernel
theorem dX12_isTime_18 : decode cX12_isTime 18 = .ok (.if_icmp .gt 7, 3) := by decide +kernel
theorem dX12_isTime_21 : decode cX12_isTime 21 = .ok (.iconst 1, 1) := by decide +kernel
theorem dX12_isTime_22 : decode cX12_isTime 22 = .ok (.goto 4, 3) := by decide +kernel
theorem dX12_isTime_25 : decode cX12_isTime 25 = .ok (.iconst 0, 1) := by decide +kernel
theorem dX12_isTime_26 : decode cX12_isTime 26 = .ok (.ireturn, 1) := by decide +kernel
set_option maxHeartbeats 4000000 in
set_option maxRecDepth 100000 in
theorem T_X12_isTime (l : Launch) (hl : l.stackTraces = false) (D : va_G) (cA : Nat → ClassId) {l0 : Option Nat} {l1 : Int32} {x : HS} {Q : Int32 → HS → Prop} {X : String → HS → Prop} (h : w_X12_isTime l0 l1 x Q X) : YI l yX12_isTime wsX12_isTime 0 0 D cA [.q l0, .i l1] x Q X := by
  refine YI.of (cc := cX12_isTime) (maxL := 2) (ret := (some .boolean)) hl (by decide) rfl rfl (fun g B fr => ?_)
  have o := B.o
  have hb := B.hb
  have hts := B.hts
  have hown : g.s.vm.findClass RX12 = some g.m.cls := B.hown
  have in12 : ∀ w ∈ u_ws RX12 TX12 57, w ∈ wsX12_isTime := fun w h => (List.mem_cons_of_mem _ (List.mem_append_right _ h))
  unfold w_X12_isTime at h
  show KW g 2 0 [(0, .q l0), (1, .i l1)] [] x
  refine k_iload_n o hb dX12_isTime_0 rfl 1 rfl ?_
  refine k_iconst (v := (-1)) o hb dX12_isTime_1 (by decide) ?_
  refine wJoin_elim (M := fun K => ∀ (v3 : Int32) (x2 : HS), K v3 x2 → KW g 2 26 [] [.i v3] x2) h ?_ (fun j1 hj1 h => ?_)
  · skip
    intro v3 x2 h
    exact k_zret o hb B.hr fr dX12_isTime_26 h
  · skip
    refine wJoin_elim (M := fun K => ∀  (x5 : HS), K  x5 → KW g 2 21 [] [] x5) h ?_ (fun j4 hj4 h => ?_)
    · skip
      intro  x5 h
      refine k_iconst (v := 1) o hb dX12_isTime_21 (by decide) ?_
      refine k_goto (tgt := 26) o hb dX12_isTime_22 (by decide) ?_
      exact KW.sub [] rfl (hj1 1 x5 h)
    · skip
      refine k_icmp_eq (tgt := 21) o hb dX12_isTime_2 (by decide) h (fun h => ?_) (fun h => ?_)
      · skip
        exact KW.sub [] rfl (hj4 x h)
      · skip
        refine k_iload_n o hb dX12_isTime_5 rfl 1 rfl ?_
        refine k_aload_n o hb dX12_isTime_6 rfl 0 rfl ?_
        refine k_getI (C := RX12) (T := TX12) (N := 57) o hb hts in12 hown rfl (by decide) 23 (by decide) rfl (hts (.fieldLink RX12 147 "FactKeeperModel" "horizon" "I") (by decide +kernel)) (fun _ h9 => h9) dX12_isTime_7 h (fun v6 h => ?_)
        refine wJoin_elim (M := fun K => ∀  (x8 : HS), K  x8 → KW g 2 25 [] [] x8) h ?_ (fun j7 hj7 h => ?_)
        · skip
          intro  x8 h
          refine k_iconst (v := 0) o hb dX12_isTime_25 (by decide) ?_
          exact KW.sub [] rfl (hj1 0 x8 h)
        · skip
          refine k_icmp_lt (tgt := 25) o hb dX12_isTime_10 (by decide) h (fun h => ?_) (fun h => ?_)
          · skip
            exact KW.sub [] rfl (hj7 x h)
          · skip
            refine k_iload_n o hb dX12_isTime_13 rfl 1 rfl ?_
            refine k_aload_n o hb dX12_isTime_14 rfl 0 rfl ?_
            refine k_getI (C := RX12) (T := TX12) (N := 57) o hb hts in12 hown rfl (by decide) 22 (by decide) rfl (hts (.fieldLink RX12 150 "FactKeeperModel" "time" "I") (by decide +kernel)) (fun _ h9 => h9) dX12_isTime_15 h (fun v9 h => ?_)
            refine k_icmp_gt (tgt := 25) o hb dX12_isTime_18 (by decide) h (fun h => ?_) (fun h => ?_)
            · skip
              exact KW.sub [] rfl (hj7 x h)
            · skip
              exact KW.sub [] rfl (hj4 x h)
theorem dX12_timeOf_0 : decode cX12_timeOf 0 = .ok (.iload_n 1, 1) := by decide +kernel
theorem dX12_timeOf_1 : decode cX12_timeOf 1 = .ok (.iconst (-1), 1) := by decide +kernel
theorem dX12_timeOf_2 : decode cX12_timeOf 2 = .ok (.if_icmp .ne 10, 3) := by decide +kernel
theorem dX12_timeOf_5 : decode cX12_timeOf 5 = .ok (.aload_n 0, 1) := by decide +kernel
theorem dX12_timeOf_6 : decode cX12_timeOf 6 = .ok (.getfield 150, 3) := by decide +kernel
theorem dX12_timeOf_9 : decode cX12_timeOf 9 = .ok (.goto 4, 3) := by decide +kernel
theorem dX12_timeOf_12 : decode cX12_timeOf 12 = .ok (.iload_n 1, 1) := by decide +kernel
theorem dX12_timeOf_13 : decode cX12_timeOf 13 = .ok (.ireturn, 1) := by decide +kernel
set_option maxHeartbeats 4000000 in
set_option maxRecDepth 100000 in
theorem T_X12_timeOf (l : Launch) (hl : l.stackTraces = false) (D : va_G) (cA : Nat → ClassId) {l0 : Option Nat} {l1 : Int32} {x : HS} {Q : Int32 → HS → Prop} {X : String → HS → Prop} (h : w_X12_timeOf l0 l1 x Q X) : YI l yX12_timeOf wsX12_timeOf 0 0 D cA [.q l0, .i l1] x Q X := by
  refine YI.of (cc := cX12_timeOf) (maxL := 2) (ret := (some .int)) hl (by decide) rfl rfl (fun g B fr => ?_)
  have o := B.o
  have hb := B.hb
  have hts := B.hts
  have hown : g.s.vm.findClass RX12 = some g.m.cls := B.hown
  have in12 : ∀ w ∈ u_ws RX12 TX12 57, w ∈ wsX12_timeOf := fun w h => (List.mem_cons_of_mem _ (List.mem_append_right _ h))
  unfold w_X12_timeOf at h
  show KW g 2 0 [(0, .q l0), (1, .i l1)] [] x
  refine k_iload_n o hb dX12_timeOf_0 rfl 1 rfl ?_
  refine k_iconst (v := (-1)) o hb dX12_timeOf_1 (by decide) ?_
  refine wJoin_elim (M := fun K => ∀ (v3 : Int32) (x2 : HS), K v3 x2 → KW g 2 13 [] [.i v3] x2) h ?_ (fun j1 hj1 h => ?_)
  · skip
    intro v3 x2 h
    exact k_iret o hb B.hr fr dX12_timeOf_13 h
  · skip
    refine k_icmp_ne (tgt := 12) o hb dX12_timeOf_2 (by decide) h (fun h => ?_) (fun h => ?_)
    · skip
      refine k_aload_n o hb dX12_timeOf_5 rfl 0 rfl ?_
      refine k_getI (C := RX12) (T := TX12) (N := 57) o hb hts in12 hown rfl (by decide) 22 (by decide) rfl (hts (.fieldLink RX12 150 "FactKeeperModel" "time" "I") (by decide +kernel)) (fun _ h9 => h9) dX12_timeOf_6 h (fun v4 h => ?_)
      refine k_goto (tgt := 13) o hb dX12_timeOf_9 (by decide) ?_
      exact KW.sub [] rfl (hj1 v4 x h)
    · skip
      refine k_iload_n o hb dX12_timeOf_12 rfl 1 rfl ?_
      exact KW.sub [] rfl (hj1 l1 x h)
theorem dX12_isThere_0 : decode cX12_isThere 0 = .ok (.aload_n 0, 1) := by decide +kernel
theorem dX12_isThere_1 : decode cX12_isThere 1 = .ok (.getfield 52, 3) := by decide +kernel
theorem dX12_isThere_4 : decode cX12_isThere 4 = .ok (.iload_n 1, 1) := by decide +kernel
theorem dX12_isThere_5 : decode cX12_isThere 5 = .ok (.iaload, 1) := by decide +kernel
theorem dX12_isThere_6 : decode cX12_isThere 6 = .ok (.iload_n 2, 1) := by decide +kernel
theorem dX12_isThere_7 : decode cX12_isThere 7 = .ok (.if_icmp .gt 26, 3) := by decide +kernel
theorem dX12_isThere_10 : decode cX12_isThere 10 = .ok (.aload_n 0, 1) := by decide +kernel
theorem dX12_isThere_11 : decode cX12_isThere 11 = .ok (.getfield 55, 3) := by decide +kernel
theorem dX12_isThere_14 : decode cX12_isThere 14 = .ok (.iload_n 1, 1) := by decide +kernel
theorem dX12_isThere_15 : decode cX12_isThere 15 = .ok (.iaload, 1) := by decide +kernel
theorem dX12_isThere_16 : decode cX12_isThere 16 = .ok (.ifCond .lt 13, 3) := by decide +kernel
theorem dX12_isThere_19 : decode cX12_isThere 19 = .ok (.iload_n 2, 1) := by decide +kernel
theorem dX12_isThere_20 : decode cX12_isThere 20 = .ok (.aload_n 0, 1) := by decide +kernel
theorem dX12_isThere_21 : decode cX12_isThere 21 = .ok (.getfield 55, 3) := by decide +kernel
theorem dX12_isThere_24 : decode cX12_isThere 24 = .ok (.iload_n 1, 1) := by decide +kernel
theorem dX12_isThere_25 : decode cX12_isThere 25 = .ok (.iaload, 1) := by decide +kernel
theorem dX12_isThere_26 : decode cX12_isThere 26 = .ok (.if_icmp .ge 7, 3) := by decide +kernel
theorem dX12_isThere_29 : decode cX12_isThere 29 = .ok (.iconst 1, 1) := by decide +kernel
theorem dX12_isThere_30 : decode cX12_isThere 30 = .ok (.goto 4, 3) := by decide +kernel
theorem dX12_isThere_33 : decode cX12_isThere 33 = .ok (.iconst 0, 1) := by decide +kernel
theorem dX12_isThere_34 : decode cX12_isThere 34 = .ok (.ireturn, 1) := by decide +kernel
set_option maxHeartbeats 4000000 in
set_option maxRecDepth 100000 in
theorem T_X12_isThere (l : Launch) (hl : l.stackTraces = false) (D : va_G) (cA : Nat → ClassId) {l0 : Option Nat} {l1 : Int32} {l2 : Int32} {x : HS} {Q : Int32 → HS → Prop} {X : String → HS → Prop} (h : w_X12_isThere l0 l1 l2 x Q X) : YI l yX12_isThere wsX12_isThere 0 0 D cA [.q l0, .i l1, .i l2] x Q X := by
  refine YI.of (cc := cX12_isThere) (maxL := 3) (ret := (some .boolean)) hl (by decide) rfl rfl (fun g B fr => ?_)
  have o := B.o
  have hb := B.hb
  have hts := B.hts
  have hown : g.s.vm.findClass RX12 = some g.m.cls := B.hown
  have in12 : ∀ w ∈ u_ws RX12 TX12 57, w ∈ wsX12_isThere := fun w h => (List.mem_cons_of_mem _ (List.mem_append_right _ h))
  unfold w_X12_isThere at h
  show KW g 3 0 [(0, .q l0), (1, .i l1), (2, .i l2)] [] x
  refine k_aload_n o hb dX12_isThere_0 rfl 0 rfl ?_
  refine k_getF (C := RX12) (T := TX12) (N := 57) o hb hts in12 hown rfl (by decide) 15 (by decide) rfl (hts (.fieldLink RX12 52 "FactKeeperModel" "born" "[I") (by decide +kernel)) (fun _ h9 => h9) dX12_isThere_1 h (fun v1 h => ?_)
  refine k_iload_n o hb dX12_isThere_4 rfl 1 rfl ?_
  refine k_iald o hb dX12_isThere_5 h (fun v2 h => ?_)
  refine k_iload_n o hb dX12_isThere_6 rfl 2 rfl ?_
  refine wJoin_elim (M := fun K => ∀ (v5 : Int32) (x4 : HS), K v5 x4 → KW g 3 34 [] [.i v5] x4) h ?_ (fun j3 hj3 h => ?_)
  · skip
    intro v5 x4 h
    exact k_zret o hb B.hr fr dX12_isThere_34 h
  · skip
    refine wJoin_elim (M := fun K => ∀  (x7 : HS), K  x7 → KW g 3 33 [] [] x7) h ?_ (fun j6 hj6 h => ?_)
    · skip
      intro  x7 h
      refine k_iconst (v := 0) o hb dX12_isThere_33 (by decide) ?_
      exact KW.sub [] rfl (hj3 0 x7 h)
    · skip
      refine k_icmp_gt (tgt := 33) o hb dX12_isThere_7 (by decide) h (fun h => ?_) (fun h => ?_)
      · skip
        exact KW.sub [] rfl (hj6 x h)
      · skip
        refine k_aload_n o hb dX12_isThere_10 rfl 0 rfl ?_
        refine k_getF (C := RX12) (T := TX12) (N := 57) o hb hts in12 hown rfl (by decide) 16 (by decide) rfl (hts (.fieldLink RX12 55 "FactKeeperModel" "died" "[I") (by decide +kernel)) (fun _ h9 => h9) dX12_isThere_11 h (fun v8 h => ?_)
        refine k_iload_n o hb dX12_isThere_14 rfl 1 rfl ?_
        refine k_iald o hb dX12_isThere_15 h (fun v9 h => ?_)
        refine wJoin_elim (M := fun K => ∀  (x11 : HS), K  x11 → KW g 3 29 [] [] x11) h ?_ (fun j10 hj10 h => ?_)
        · skip
          intro  x11 h
          refine k_iconst (v := 1) o hb dX12_isThere_29 (by decide) ?_
          refine k_goto (tgt := 34) o hb dX12_isThere_30 (by decide) ?_
          exact KW.sub [] rfl (hj3 1 x11 h)
        · skip
          refine k_if_lt (tgt := 29) o hb dX12_isThere_16 (by decide) h (fun h => ?_) (fun h => ?_)
          · skip
            exact KW.sub [] rfl (hj10 x h)
          · skip
            refine k_iload_n o hb dX12_isThere_19 rfl 2 rfl ?_
            refine k_aload_n o hb dX12_isThere_20 rfl 0 rfl ?_
            refine k_getF (C := RX12) (T := TX12) (N := 57) o hb hts in12 hown rfl (by decide) 16 (by decide) rfl (hts (.fieldLink RX12 55 "FactKeeperModel" "died" "[I") (by decide +kernel)) (fun _ h9 => h9) dX12_isThere_21 h (fun v12 h => ?_)
            refine k_iload_n o hb dX12_isThere_24 rfl 1 rfl ?_
            refine k_iald o hb dX12_isThere_25 h (fun v13 h => ?_)
            refine k_icmp_ge (tgt := 33) o hb dX12_isThere_26 (by decide) h (fun h => ?_) (fun h => ?_)
            · skip
              exact KW.sub [] rfl (hj6 x h)
            · skip
              exact KW.sub [] rfl (hj10 x h)
theorem dX12_table_0 : decode cX12_table 0 = .ok (.aload_n 0, 1) := by decide +kernel
theorem dX12_table_1 : decode cX12_table 1 = .ok (.iload_n 1, 1) := by decide +kernel
theorem dX12_table_2 : decode cX12_table 2 = .ok (.iconst 1, 1) := by decide +kernel
theorem dX12_table_3 : decode cX12_table 3 = .ok (.if_icmp .lt 8, 3) := by decide +kernel
theorem dX12_table_6 : decode cX12_table 6 = .ok (.iload_n 1, 1) := by decide +kernel
theorem dX12_table_7 : decode cX12_table 7 = .ok (.iconst 4, 1) := by decide +kernel
theorem dX12_table_8 : decode cX12_table 8 = .ok (.if_icmp .le 7, 3) := by decide +kernel
theorem dX12_table_11 : decode cX12_table 11 = .ok (.iconst 1, 1) := by decide +kernel
theorem dX12_table_12 : decode cX12_table 12 = .ok (.goto 17, 3) := by decide +kernel
theorem dX12_table_15 : decode cX12_table 15 = .ok (.aload_n 0, 1) := by decide +kernel
theorem dX12_table_16 : decode cX12_table 16 = .ok (.getfield 144, 3) := by decide +kernel
theorem dX12_table_19 : decode cX12_table 19 = .ok (.bipush 12, 2) := by decide +kernel
theorem dX12_table_21 : decode cX12_table 21 = .ok (.if_icmp .ne 7, 3) := by decide +kernel
theorem dX12_table_24 : decode cX12_table 24 = .ok (.iconst 2, 1) := by decide +kernel
theorem dX12_table_25 : decode cX12_table 25 = .ok (.goto 4, 3) := by decide +kernel
theorem dX12_table_28 : decode cX12_table 28 = .ok (.iconst 0, 1) := by decide +kernel
theorem dX12_table_29 : decode cX12_table 29 = .ok (.invokevirtual 136, 3) := by decide +kernel
theorem dX12_table_32 : decode cX12_table 32 = .ok (.ifCond .eq 5, 3) := by decide +kernel
theorem dX12_table_35 : decode cX12_table 35 = .ok (.iconst 0, 1) := by decide +kernel
theorem dX12_table_36 : decode cX12_table 36 = .ok (.ireturn, 1) := by decide +kernel
theorem dX12_table_37 : decode cX12_table 37 = .ok (.aload_n 0, 1) := by decide +kernel
theorem dX12_table_38 : decode cX12_table 38 = .ok (.getfield 21, 3) := by decide +kernel
theorem dX12_table_41 : decode cX12_table 41 = .ok (.aload_n 0, 1) := by decide +kernel
theorem dX12_table_42 : decode cX12_table 42 = .ok (.getfield 144, 3) := by decide +kernel
theorem dX12_table_45 : decode cX12_table 45 = .ok (.iload_n 1, 1) := by decide +kernel
theorem dX12_table_46 : decode cX12_table 46 = .ok (.iastore, 1) := by decide +kernel
theorem dX12_table_47 : decode cX12_table 47 = .ok (.aload_n 0, 1) := by decide +kernel
theorem dX12_table_48 : decode cX12_table 48 = .ok (.getfield 24, 3) := by decide +kernel
theorem dX12_table_51 : decode cX12_table 51 = .ok (.aload_n 0, 1) := by decide +kernel
theorem dX12_table_52 : decode cX12_table 52 = .ok (.getfield 144, 3) := by decide +kernel
theorem dX12_table_55 : decode cX12_table 55 = .ok (.iconst 0, 1) := by decide +kernel
theorem dX12_table_56 : decode cX12_table 56 = .ok (.iastore, 1) := by decide +kernel
theorem dX12_table_57 : decode cX12_table 57 = .ok (.aload_n 0, 1) := by decide +kernel
theorem dX12_table_58 : decode cX12_table 58 = .ok (.getfield 27, 3) := by decide +kernel
theorem dX12_table_61 : decode cX12_table 61 = .ok (.aload_n 0, 1) := by decide +kernel
theorem dX12_table_62 : decode cX12_table 62 = .ok (.getfield 144, 3) := by decide +kernel
theorem dX12_table_65 : decode cX12_table 65 = .ok (.iconst 0, 1) := by decide +kernel
theorem dX12_table_66 : decode cX12_table 66 = .ok (.iastore, 1) := by decide +kernel
theorem dX12_table_67 : decode cX12_table 67 = .ok (.aload_n 0, 1) := by decide +kernel
theorem dX12_table_68 : decode cX12_table 68 = .ok (.getfield 30, 3) := by decide +kernel
theorem dX12_table_71 : decode cX12_table 71 = .ok (.aload_n 0, 1) := by decide +kernel
theorem dX12_table_72 : decode cX12_table 72 = .ok (.getfield 144, 3) := by decide +kernel
theorem dX12_table_75 : decode cX12_table 75 = .ok (.iconst (-1), 1) := by decide +kernel
theorem dX12_table_76 : decode cX12_table 76 = .ok (.iastore, 1) := by decide +kernel
theorem dX12_table_77 : decode cX12_table 77 = .ok (.aload_n 0, 1) := by decide +kernel
theorem dX12_table_78 : decode cX12_table 78 = .ok (.getfield 33, 3) := by decide +kernel
theorem dX12_table_81 : decode cX12_table 81 = .ok (.aload_n 0, 1) := by decide +kernel
theorem dX12_table_82 : decode cX12_table 82 = .ok (.getfield 144, 3) := by decide +kernel
theorem dX12_table_85 : decode cX12_table 85 = .ok (.iconst (-1), 1) := by decide +kernel
theorem dX12_table_86 : decode cX12_table 86 = .ok (.iastore, 1) := by decide +kernel
theorem dX12_table_87 : decode cX12_table 87 = .ok (.aload_n 0, 1) := by decide +kernel
theorem dX12_table_88 : decode cX12_table 88 = .ok (.dup, 1) := by decide +kernel
theorem dX12_table_89 : decode cX12_table 89 = .ok (.getfield 144, 3) := by decide +kernel
theorem dX12_table_92 : decode cX12_table 92 = .ok (.iconst 1, 1) := by decide +kernel
theorem dX12_table_93 : decode cX12_table 93 = .ok (.iadd, 1) := by decide +kernel
theorem dX12_table_94 : decode cX12_table 94 = .ok (.putfield 144, 3) := by decide +kernel
theorem dX12_table_97 : decode cX12_table 97 = .ok (.aload_n 0, 1) := by decide +kernel
theorem dX12_table_98 : decode cX12_table 98 = .ok (.getfield 144, 3) := by decide +kernel
theorem dX12_table_101 : decode cX12_table 101 = .ok (.iconst 1, 1) := by decide +kernel
theorem dX12_table_102 : decode cX12_table 102 = .ok (.isub, 1) := by decide +kernel
theorem dX12_table_103 : decode cX12_table 103 = .ok (.ireturn, 1) := by decide +kernel
theorem i9wsX12_table_0 : ∀ w ∈ ([.fieldLink RX12 144 "FactKeeperModel" "tables" "I", .fieldLink RX12 21 "FactKeeperModel" "columns" "[I", .fieldLink RX12 24 "FactKeeperModel" "indexes" "[I", .fieldLink RX12 27 "FactKeeperModel" "keyMany" "[I", .fieldLink RX12 30 "FactKeeperModel" "first" "[I", .fieldLink RX12 33 "FactKeeperModel" "last" "[I", .methodLink RX12 136 yX12_fails, .instanceMethod yX12_fails, .selects RX12 yX12_fails yX12_fails, .initialized RX12, .code yX12_fails cX12_fails 2 (some .boolean), .fieldLink RX12 1 "FactKeeperModel" "thrown" "I"] : List Cond), w ∈ wsX12_table := fun _ h => (List.mem_cons_of_mem _ (List.mem_append_left _ h))
theorem i9wsX12_table_1 : ∀ w ∈ wsX120, w ∈ wsX12_table := fun _ h => (List.mem_cons_of_mem _ (List.mem_append_right _ h))
set_option maxRecDepth 20000 in
theorem ggX12_table_X12_fails : GoodIn wsX12_table wsX12_fails := (gin_c (mem_at i9wsX12_table_0 10 rfl) rfl (goodIn_app (gin_c (mem_at i9wsX12_table_0 11 rfl) rfl gin_n) (goodIn_sub i9wsX12_table_1 g9_16)))
set_option maxRecDepth 20000 in
theorem gX12_table_X12_fails : GoodIn wsX12_table (wsV RX12 136 RX12 yX12_fails wsX12_fails) := goodIn_app (gin_c (mem_at i9wsX12_table_0 6 rfl) rfl (gin_c (mem_at i9wsX12_table_0 7 rfl) rfl (gin_c (mem_at i9wsX12_table_0 8 rfl) rfl (gin_c (mem_at i9wsX12_table_0 9 rfl) rfl gin_n)))) ggX12_table_X12_fails
set_option maxHeartbeats 4000000 in
set_option maxRecDepth 100000 in
theorem T_X12_table (l : Launch) (hl : l.stackTraces = false) (D : va_G) (cA : Nat → ClassId) {l0 : Option Nat} {l1 : Int32} {x : HS} {Q : Int32 → HS → Prop} {X : String → HS → Prop} (h : w_X12_table l0 l1 x Q X) : YI l yX12_table wsX12_table 1 21 D cA [.q l0, .i l1] x Q X := by
  refine YI.of (cc := cX12_table) (maxL := 2) (ret := (some .int)) hl (by decide) rfl rfl (fun g B fr => ?_)
  have o := B.o
  have hb := B.hb
  have hts := B.hts
  have hown : g.s.vm.findClass RX12 = some g.m.cls := B.hown
  have in12 : ∀ w ∈ u_ws RX12 TX12 57, w ∈ wsX12_table := fun w h => (List.mem_cons_of_mem _ (List.mem_append_right _ h))
  unfold w_X12_table at h
  show KW g 2 0 [(0, .q l0), (1, .i l1)] [] x
  refine k_aload_n o hb dX12_table_0 rfl 0 rfl ?_
  refine k_iload_n o hb dX12_table_1 rfl 1 rfl ?_
  refine k_iconst (v := 1) o hb dX12_table_2 (by decide) ?_
  refine wJoin_elim (M := fun K => ∀ (v3 : Int32) (x2 : HS), K v3 x2 → KW g 2 29 [(0, .q l0), (1, .i l1)] [.i v3, .q l0] x2) h ?_ (fun j1 hj1 h => ?_)
  · skip
    intro v3 x2 h
    refine k_run_i o (fun _ _ q => q) (k_runV (ci := 12) (rc := (RX12, TX12, 57)) o hb B.hml hown hts rfl (by decide) (T_X12_fails g.l o.hl g.D g.cA h.2) (cwV 1 hts gX12_table_X12_fails rfl rfl rfl (by decide +kernel) ⟨yle B.hR1 rfl, yle B.hR2 rfl⟩) h.1 rfl rfl (Nat.le_of_ble_eq_true rfl) dX12_table_29) (fun v5 x4 h => ?_)
    refine k_if_eq (tgt := 37) o hb dX12_table_32 (by decide) h (fun h => ?_) (fun h => ?_)
    · skip
      refine k_aload_n o hb dX12_table_37 rfl 0 rfl ?_
      refine k_getF (C := RX12) (T := TX12) (N := 57) o hb hts in12 hown rfl (by decide) 4 (by decide) rfl (hts (.fieldLink RX12 21 "FactKeeperModel" "columns" "[I") (by decide +kernel)) (fun _ h9 => h9) dX12_table_38 h (fun v6 h => ?_)
      refine k_aload_n o hb dX12_table_41 rfl 0 rfl ?_
      refine k_getI (C := RX12) (T := TX12) (N := 57) o hb hts in12 hown rfl (by decide) 10 (by decide) rfl (hts (.fieldLink RX12 144 "FactKeeperModel" "tables" "I") (by decide +kernel)) (fun _ h9 => h9) dX12_table_42 h (fun v7 h => ?_)
      refine k_iload_n o hb dX12_table_45 rfl 1 rfl ?_
      refine k_iast o hb dX12_table_46 h (fun x8 h => ?_)
      refine k_aload_n o hb dX12_table_47 rfl 0 rfl ?_
      refine k_getF (C := RX12) (T := TX12) (N := 57) o hb hts in12 hown rfl (by decide) 5 (by decide) rfl (hts (.fieldLink RX12 24 "FactKeeperModel" "indexes" "[I") (by decide +kernel)) (fun _ h9 => h9) dX12_table_48 h (fun v9 h => ?_)
      refine k_aload_n o hb dX12_table_51 rfl 0 rfl ?_
      refine k_getI (C := RX12) (T := TX12) (N := 57) o hb hts in12 hown rfl (by decide) 10 (by decide) rfl (hts (.fieldLink RX12 144 "FactKeeperModel" "tables" "I") (by decide +kernel)) (fun _ h9 => h9) dX12_table_52 h (fun v10 h => ?_)
      refine k_iconst (v := 0) o hb dX12_table_55 (by decide) ?_
      refine k_iast o hb dX12_table_56 h (fun x11 h => ?_)
      refine k_aload_n o hb dX12_table_57 rfl 0 rfl ?_
      refine k_getF (C := RX12) (T := TX12) (N := 57) o hb hts in12 hown rfl (by decide) 6 (by decide) rfl (hts (.fieldLink RX12 27 "FactKeeperModel" "keyMany" "[I") (by decide +kernel)) (fun _ h9 => h9) dX12_table_58 h (fun v12 h => ?_)
      refine k_aload_n o hb dX12_table_61 rfl 0 rfl ?_
      refine k_getI (C := RX12) (T := TX12) (N := 57) o hb hts in12 hown rfl (by decide) 10 (by decide) rfl (hts (.fieldLink RX12 144 "FactKeeperModel" "tables" "I") (by decide +kernel)) (fun _ h9 => h9) dX12_table_62 h (fun v13 h => ?_)
      refine k_iconst (v := 0) o hb dX12_table_65 (by decide) ?_
      refine k_iast o hb dX12_table_66 h (fun x14 h => ?_)
      refine k_aload_n o hb dX12_table_67 rfl 0 rfl ?_
      refine k_getF (C := RX12) (T := TX12) (N := 57) o hb hts in12 hown rfl (by decide) 7 (by decide) rfl (hts (.fieldLink RX12 30 "FactKeeperModel" "first" "[I") (by decide +kernel)) (fun _ h9 => h9) dX12_table_68 h (fun v15 h => ?_)
      refine k_aload_n o hb dX12_table_71 rfl 0 rfl ?_
      refine k_getI (C := RX12) (T := TX12) (N := 57) o hb hts in12 hown rfl (by decide) 10 (by decide) rfl (hts (.fieldLink RX12 144 "FactKeeperModel" "tables" "I") (by decide +kernel)) (fun _ h9 => h9) dX12_table_72 h (fun v16 h => ?_)
      refine k_iconst (v := (-1)) o hb dX12_table_75 (by decide) ?_
      refine k_iast o hb dX12_table_76 h (fun x17 h => ?_)
      refine k_aload_n o hb dX12_table_77 rfl 0 rfl ?_
      refine k_getF (C := RX12) (T := TX12) (N := 57) o hb hts in12 hown rfl (by decide) 8 (by decide) rfl (hts (.fieldLink RX12 33 "FactKeeperModel" "last" "[I") (by decide +kernel)) (fun _ h9 => h9) dX12_table_78 h (fun v18 h => ?_)
      refine k_aload_n o hb dX12_table_81 rfl 0 rfl ?_
      refine k_getI (C := RX12) (T := TX12) (N := 57) o hb hts in12 hown rfl (by decide) 10 (by decide) rfl (hts (.fieldLink RX12 144 "FactKeeperModel" "tables" "I") (by decide +kernel)) (fun _ h9 => h9) dX12_table_82 h (fun v19 h => ?_)
      refine k_iconst (v := (-1)) o hb dX12_table_85 (by decide) ?_
      refine k_iast o hb dX12_table_86 h (fun x20 h => ?_)
      refine k_aload_n o hb dX12_table_87 rfl 0 rfl ?_
      refine k_dup o hb dX12_table_88 ?_
      refine k_getI (C := RX12) (T := TX12) (N := 57) o hb hts in12 hown rfl (by decide) 10 (by decide) rfl (hts (.fieldLink RX12 144 "FactKeeperModel" "tables" "I") (by decide +kernel)) (fun _ h9 => h9) dX12_table_89 h (fun v21 h => ?_)
      refine k_iconst (v := 1) o hb dX12_table_92 (by decide) ?_
      refine k_iadd o hb dX12_table_93 ?_
      refine k_putI (C := RX12) (T := TX12) (N := 57) (ty := .int) o hb hts in12 tyX12 tyX12_ok nmX12 hown rfl (by decide) 10 (by decide) rfl (hts (.fieldLink RX12 144 "FactKeeperModel" "tables" "I") (by decide +kernel)) (fun _ h9 => h9) rfl (by decide +kernel) (fun _ => rfl) (fun _ => rfl) dX12_table_94 h (fun x22 h => ?_)
      refine k_aload_n o hb dX12_table_97 rfl 0 rfl ?_
      refine k_getI (C := RX12) (T := TX12) (N := 57) o hb hts in12 hown rfl (by decide) 10 (by decide) rfl (hts (.fieldLink RX12 144 "FactKeeperModel" "tables" "I") (by decide +kernel)) (fun _ h9 => h9) dX12_table_98 h (fun v23 h => ?_)
      refine k_iconst (v := 1) o hb dX12_table_101 (by decide) ?_
      refine k_isub o hb dX12_table_102 ?_
      exact k_iret o hb B.hr fr dX12_table_103 h
    · skip
      refine k_iconst (v := 0) o hb dX12_table_35 (by decide) ?_
      exact k_iret o hb B.hr fr dX12_table_36 h
  · skip
    refine wJoin_elim (M := fun K => ∀  (x25 : HS), K  x25 → KW g 2 11 [(0, .q l0), (1, .i l1)] [.q l0] x25) h ?_ (fun j24 hj24 h => ?_)
    · skip
      intro  x25 h
      refine k_iconst (v := 1) o hb dX12_table_11 (by decide) ?_
      refine k_goto (tgt := 29) o hb dX12_table_12 (by decide) ?_
      exact KW.sub [0, 1] rfl (hj1 1 x25 h)
    · skip
      refine k_icmp_lt (tgt := 11) o hb dX12_table_3 (by decide) h (fun h => ?_) (fun h => ?_)
      · skip
        exact KW.sub [0, 1] rfl (hj24 x h)
      · skip
        refine k_iload_n o hb dX12_table_6 rfl 1 rfl ?_
        refine k_iconst (v := 4) o hb dX12_table_7 (by decide) ?_
        refine k_icmp_le (tgt := 15) o hb dX12_table_8 (by decide) h (fun h => ?_) (fun h => ?_)
        · skip
          refine k_aload_n o hb dX12_table_15 rfl 0 rfl ?_
          refine k_getI (C := RX12) (T := TX12) (N := 57) o hb hts in12 hown rfl (by decide) 10 (by decide) rfl (hts (.fieldLink RX12 144 "FactKeeperModel" "tables" "I") (by decide +kernel)) (fun _ h9 => h9) dX12_table_16 h (fun v26 h => ?_)
          refine k_bipush (v := 12) o hb dX12_table_19 (by decide) ?_
          refine k_icmp_ne (tgt := 28) o hb dX12_table_21 (by decide) h (fun h => ?_) (fun h => ?_)
          · skip
            refine k_iconst (v := 2) o hb dX12_table_24 (by decide) ?_
            refine k_goto (tgt := 29) o hb dX12_table_25 (by decide) ?_
            exact KW.sub [0, 1] rfl (hj1 2 x h)
          · skip
            refine k_iconst (v := 0) o hb dX12_table_28 (by decide) ?_
            exact KW.sub [0, 1] rfl (hj1 0 x h)
        · skip
          exact KW.sub [0, 1] rfl (hj24 x h)
theorem dX12_index_0 : decode cX12_index 0 = .ok (.aload_n 0, 1) := by decide +kernel
theorem dX12_index_1 : decode cX12_index 1 = .ok (.aload_n 0, 1) := by decide +kernel
theorem dX12_index_2 : decode cX12_index 2 = .ok (.iload_n 1, 1) := by decide +kernel
theorem dX12_index_3 : decode cX12_index 3 = .ok (.invokevirtual 153, 3) := by decide +kernel
theorem dX12_index_6 : decode cX12_index 6 = .ok (.ifCond .ne 7, 3) := by decide +kernel
theorem dX12_index_9 : decode cX12_index 9 = .ok (.iconst 1, 1) := by decide +kernel
theorem dX12_index_10 : decode cX12_index 10 = .ok (.goto 22, 3) := by decide +kernel
theorem dX12_index_13 : decode cX12_index 13 = .ok (.iload_n 2, 1) := by decide +kernel
theorem dX12_index_14 : decode cX12_index 14 = .ok (.ifCond .lt 13, 3) := by decide +kernel
theorem dX12_index_17 : decode cX12_index 17 = .ok (.iload_n 2, 1) := by decide +kernel
theorem dX12_index_18 : decode cX12_index 18 = .ok (.aload_n 0, 1) := by decide +kernel
theorem dX12_index_19 : decode cX12_index 19 = .ok (.getfield 21, 3) := by decide +kernel
theorem dX12_index_22 : decode cX12_index 22 = .ok (.iload_n 1, 1) := by decide +kernel
theorem dX12_index_23 : decode cX12_index 23 = .ok (.iaload, 1) := by decide +kernel
theorem dX12_index_24 : decode cX12_index 24 = .ok (.if_icmp .lt 7, 3) := by decide +kernel
theorem dX12_index_27 : decode cX12_index 27 = .ok (.iconst 2, 1) := by decide +kernel
theorem dX12_index_28 : decode cX12_index 28 = .ok (.goto 4, 3) := by decide +kernel
theorem dX12_index_31 : decode cX12_index 31 = .ok (.iconst 0, 1) := by decide +kernel
theorem dX12_index_32 : decode cX12_index 32 = .ok (.invokevirtual 136, 3) := by decide +kernel
theorem dX12_index_35 : decode cX12_index 35 = .ok (.ifCond .eq 5, 3) := by decide +kernel
theorem dX12_index_38 : decode cX12_index 38 = .ok (.iconst 0, 1) := by decide +kernel
theorem dX12_index_39 : decode cX12_index 39 = .ok (.ireturn, 1) := by decide +kernel
theorem dX12_index_40 : decode cX12_index 40 = .ok (.aload_n 0, 1) := by decide +kernel
theorem dX12_index_41 : decode cX12_index 41 = .ok (.getfield 24, 3) := by decide +kernel
theorem dX12_index_44 : decode cX12_index 44 = .ok (.iload_n 1, 1) := by decide +kernel
theorem dX12_index_45 : decode cX12_index 45 = .ok (.iaload, 1) := by decide +kernel
theorem dX12_index_46 : decode cX12_index 46 = .ok (.istore_n 3, 1) := by decide +kernel
theorem dX12_index_47 : decode cX12_index 47 = .ok (.aload_n 0, 1) := by decide +kernel
theorem dX12_index_48 : decode cX12_index 48 = .ok (.getfield 24, 3) := by decide +kernel
theorem dX12_index_51 : decode cX12_index 51 = .ok (.iload_n 1, 1) := by decide +kernel
theorem dX12_index_52 : decode cX12_index 52 = .ok (.dup2, 1) := by decide +kernel
theorem dX12_index_53 : decode cX12_index 53 = .ok (.iaload, 1) := by decide +kernel
theorem dX12_index_54 : decode cX12_index 54 = .ok (.iconst 1, 1) := by decide +kernel
theorem dX12_index_55 : decode cX12_index 55 = .ok (.iload_n 2, 1) := by decide +kernel
theorem dX12_index_56 : decode cX12_index 56 = .ok (.ishl, 1) := by decide +kernel
theorem dX12_index_57 : decode cX12_index 57 = .ok (.ior, 1) := by decide +kernel
theorem dX12_index_58 : decode cX12_index 58 = .ok (.iastore, 1) := by decide +kernel
theorem dX12_index_59 : decode cX12_index 59 = .ok (.iload_n 3, 1) := by decide +kernel
theorem dX12_index_60 : decode cX12_index 60 = .ok (.aload_n 0, 1) := by decide +kernel
theorem dX12_index_61 : decode cX12_index 61 = .ok (.getfield 24, 3) := by decide +kernel
theorem dX12_index_64 : decode cX12_index 64 = .ok (.iload_n 1, 1) := by decide +kernel
theorem dX12_index_65 : decode cX12_index 65 = .ok (.iaload, 1) := by decide +kernel
theorem dX12_index_66 : decode cX12_index 66 = .ok (.if_icmp .ne 7, 3) := by decide +kernel
theorem dX12_index_69 : decode cX12_index 69 = .ok (.iconst 0, 1) := by decide +kernel
theorem dX12_index_70 : decode cX12_index 70 = .ok (.goto 4, 3) := by decide +kernel
theorem dX12_index_73 : decode cX12_index 73 = .ok (.iconst 1, 1) := by decide +kernel
theorem dX12_index_74 : decode cX12_index 74 = .ok (.ireturn, 1) := by decide +kernel
theorem i9wsX12_index_0 : ∀ w ∈ ([.fieldLink RX12 21 "FactKeeperModel" "columns" "[I", .fieldLink RX12 24 "FactKeeperModel" "indexes" "[I", .methodLink RX12 153 yX12_isTable, .instanceMethod yX12_isTable, .selects RX12 yX12_isTable yX12_isTable, .initialized RX12, .code yX12_isTable cX12_isTable 2 (some .boolean), .fieldLink RX12 144 "FactKeeperModel" "tables" "I", .methodLink RX12 136 yX12_fails, .instanceMethod yX12_fails, .selects RX12 yX12_fails yX12_fails, .code yX12_fails cX12_fails 2 (some .boolean), .fieldLink RX12 1 "FactKeeperModel" "thrown" "I"] : List Cond), w ∈ wsX12_index := fun _ h => (List.mem_cons_of_mem _ (List.mem_append_left _ h))
theorem i9wsX12_index_1 : ∀ w ∈ wsX120, w ∈ wsX12_index := fun _ h => (List.mem_cons_of_mem _ (List.mem_append_right _ h))
set_option maxRecDepth 20000 in
theorem ggX12_index_X12_isTable : GoodIn wsX12_index wsX12_isTable := (gin_c (mem_at i9wsX12_index_0 6 rfl) rfl (goodIn_app (gin_c (mem_at i9wsX12_index_0 7 rfl) rfl gin_n) (goodIn_sub i9wsX12_index_1 g9_16)))
set_option maxRecDepth 20000 in
theorem gX12_index_X12_isTable : GoodIn wsX12_index (wsV RX12 153 RX12 yX12_isTable wsX12_isTable) := goodIn_app (gin_c (mem_at i9wsX12_index_0 2 rfl) rfl (gin_c (mem_at i9wsX12_index_0 3 rfl) rfl (gin_c (mem_at i9wsX12_index_0 4 rfl) rfl (gin_c (mem_at i9wsX12_index_0 5 rfl) rfl gin_n)))) ggX12_index_X12_isTable
set_option maxRecDepth 20000 in
theorem ggX12_index_X12_fails : GoodIn wsX12_index wsX12_fails := (gin_c (mem_at i9wsX12_index_0 11 rfl) rfl (goodIn_app (gin_c (mem_at i9wsX12_index_0 12 rfl) rfl gin_n) (goodIn_sub i9wsX12_index_1 g9_16)))
set_option maxRecDepth 20000 in
theorem gX12_index_X12_fails : GoodIn wsX12_index (wsV RX12 136 RX12 yX12_fails wsX12_fails) := goodIn_app (gin_c (mem_at i9wsX12_index_0 8 rfl) rfl (gin_c (mem_at i9wsX12_index_0 9 rfl) rfl (gin_c (mem_at i9wsX12_index_0 10 rfl) rfl (gin_c (mem_at i9wsX12_index_0 5 rfl) rfl gin_n)))) ggX12_index_X12_fails
set_option maxHeartbeats 4000000 in
set_option maxRecDepth 100000 in
theorem T_X12_index (l : Launch) (hl : l.stackTraces = false) (D : va_G) (cA : Nat → ClassId) {l0 : Option Nat} {l1 : Int32} {l2 : Int32} {x : HS} {Q : Int32 → HS → Prop} {X : String → HS → Prop} (h : w_X12_index l0 l1 l2 x Q X) : YI l yX12_index wsX12_index 1 21 D cA [.q l0, .i l1, .i l2] x Q X := by
  refine YI.of (cc := cX12_index) (maxL := 4) (ret := (some .int)) hl (by decide) rfl rfl (fun g B fr => ?_)
  have o := B.o
  have hb := B.hb
  have hts := B.hts
  have hown : g.s.vm.findClass RX12 = some g.m.cls := B.hown
  have in12 : ∀ w ∈ u_ws RX12 TX12 57, w ∈ wsX12_index := fun w h => (List.mem_cons_of_mem _ (List.mem_append_right _ h))
  unfold w_X12_index at h
  show KW g 4 0 [(0, .q l0), (1, .i l1), (2, .i l2)] [] x
  refine k_aload_n o hb dX12_index_0 rfl 0 rfl ?_
  refine k_aload_n o hb dX12_index_1 rfl 0 rfl ?_
  refine k_iload_n o hb dX12_index_2 rfl 1 rfl ?_
  refine k_run_i o (fun _ _ q => q) (k_runV (ci := 12) (rc := (RX12, TX12, 57)) o hb B.hml hown hts rfl (by decide) (T_X12_isTable g.l o.hl g.D g.cA h.2) (cwV 1 hts gX12_index_X12_isTable rfl rfl rfl (by decide +kernel) ⟨yle B.hR1 rfl, yle B.hR2 rfl⟩) h.1 rfl rfl (Nat.le_of_ble_eq_true rfl) dX12_index_3) (fun v2 x1 h => ?_)
  refine wJoin_elim (M := fun K => ∀ (v5 : Int32) (x4 : HS), K v5 x4 → KW g 4 32 [(0, .q l0), (1, .i l1), (2, .i l2)] [.i v5, .q l0] x4) h ?_ (fun j3 hj3 h => ?_)
  · skip
    intro v5 x4 h
    refine k_run_i o (fun _ _ q => q) (k_runV (ci := 12) (rc := (RX12, TX12, 57)) o hb B.hml hown hts rfl (by decide) (T_X12_fails g.l o.hl g.D g.cA h.2) (cwV 1 hts gX12_index_X12_fails rfl rfl rfl (by decide +kernel) ⟨yle B.hR1 rfl, yle B.hR2 rfl⟩) h.1 rfl rfl (Nat.le_of_ble_eq_true rfl) dX12_index_32) (fun v7 x6 h => ?_)
    refine k_if_eq (tgt := 40) o hb dX12_index_35 (by decide) h (fun h => ?_) (fun h => ?_)
    · skip
      refine k_aload_n o hb dX12_index_40 rfl 0 rfl ?_
      refine k_getF (C := RX12) (T := TX12) (N := 57) o hb hts in12 hown rfl (by decide) 5 (by decide) rfl (hts (.fieldLink RX12 24 "FactKeeperModel" "indexes" "[I") (by decide +kernel)) (fun _ h9 => h9) dX12_index_41 h (fun v8 h => ?_)
      refine k_iload_n o hb dX12_index_44 rfl 1 rfl ?_
      refine k_iald o hb dX12_index_45 h (fun v9 h => ?_)
      refine k_istore_n o hb dX12_index_46 rfl rfl ?_
      refine k_aload_n o hb dX12_index_47 rfl 1 rfl ?_
      refine k_getF (C := RX12) (T := TX12) (N := 57) o hb hts in12 hown rfl (by decide) 5 (by decide) rfl (hts (.fieldLink RX12 24 "FactKeeperModel" "indexes" "[I") (by decide +kernel)) (fun _ h9 => h9) dX12_index_48 h (fun v10 h => ?_)
      refine k_iload_n o hb dX12_index_51 rfl 2 rfl ?_
      refine k_dup2 o hb dX12_index_52 ?_
      refine k_iald o hb dX12_index_53 h (fun v11 h => ?_)
      refine k_iconst (v := 1) o hb dX12_index_54 (by decide) ?_
      refine k_iload_n o hb dX12_index_55 rfl 3 rfl ?_
      refine k_ishl o hb dX12_index_56 ?_
      refine k_ior o hb dX12_index_57 ?_
      refine k_iast o hb dX12_index_58 h (fun x12 h => ?_)
      refine k_iload_n o hb dX12_index_59 rfl 0 rfl ?_
      refine k_aload_n o hb dX12_index_60 rfl 1 rfl ?_
      refine k_getF (C := RX12) (T := TX12) (N := 57) o hb hts in12 hown rfl (by decide) 5 (by decide) rfl (hts (.fieldLink RX12 24 "FactKeeperModel" "indexes" "[I") (by decide +kernel)) (fun _ h9 => h9) dX12_index_61 h (fun v13 h => ?_)
      refine k_iload_n o hb dX12_index_64 rfl 2 rfl ?_
      refine k_iald o hb dX12_index_65 h (fun v14 h => ?_)
      refine wJoin_elim (M := fun K => ∀ (v17 : Int32) (x16 : HS), K v17 x16 → KW g 4 74 [] [.i v17] x16) h ?_ (fun j15 hj15 h => ?_)
      · skip
        intro v17 x16 h
        exact k_iret o hb B.hr fr dX12_index_74 h
      · skip
        refine k_icmp_ne (tgt := 73) o hb dX12_index_66 (by decide) h (fun h => ?_) (fun h => ?_)
        · skip
          refine k_iconst (v := 0) o hb dX12_index_69 (by decide) ?_
          refine k_goto (tgt := 74) o hb dX12_index_70 (by decide) ?_
          exact KW.sub [] rfl (hj15 0 x12 h)
        · skip
          refine k_iconst (v := 1) o hb dX12_index_73 (by decide) ?_
          exact KW.sub [] rfl (hj15 1 x12 h)
    · skip
      refine k_iconst (v := 0) o hb dX12_index_38 (by decide) ?_
      exact k_iret o hb B.hr fr dX12_index_39 h
  · skip
    refine k_if_ne (tgt := 13) o hb dX12_index_6 (by decide) h (fun h => ?_) (fun h => ?_)
    · skip
      refine k_iconst (v := 1) o hb dX12_index_9 (by decide) ?_
      refine k_goto (tgt := 32) o hb dX12_index_10 (by decide) ?_
      exact KW.sub [0, 1, 2] rfl (hj3 1 x1 h)
    · skip
      refine k_iload_n o hb dX12_index_13 rfl 2 rfl ?_
      refine wJoin_elim (M := fun K => ∀  (x19 : HS), K  x19 → KW g 4 27 [(0, .q l0), (1, .i l1), (2, .i l2)] [.q l0] x19) h ?_ (fun j18 hj18 h => ?_)
      · skip
        intro  x19 h
        refine k_iconst (v := 2) o hb dX12_index_27 (by decide) ?_
        refine k_goto (tgt := 32) o hb dX12_index_28 (by decide) ?_
        exact KW.sub [0, 1, 2] rfl (hj3 2 x19 h)
      · skip
        refine k_if_lt (tgt := 27) o hb dX12_index_14 (by decide) h (fun h => ?_) (fun h => ?_)
        · skip
          exact KW.sub [0, 1, 2] rfl (hj18 x1 h)
        · skip
          refine k_iload_n o hb dX12_index_17 rfl 2 rfl ?_
          refine k_aload_n o hb dX12_index_18 rfl 0 rfl ?_
          refine k_getF (C := RX12) (T := TX12) (N := 57) o hb hts in12 hown rfl (by decide) 4 (by decide) rfl (hts (.fieldLink RX12 21 "FactKeeperModel" "columns" "[I") (by decide +kernel)) (fun _ h9 => h9) dX12_index_19 h (fun v20 h => ?_)
          refine k_iload_n o hb dX12_index_22 rfl 1 rfl ?_
          refine k_iald o hb dX12_index_23 h (fun v21 h => ?_)
          refine k_icmp_lt (tgt := 31) o hb dX12_index_24 (by decide) h (fun h => ?_) (fun h => ?_)
          · skip
            refine k_iconst (v := 0) o hb dX12_index_31 (by decide) ?_
            exact KW.sub [0, 1, 2] rfl (hj3 0 x1 h)
          · skip
            exact KW.sub [0, 1, 2] rfl (hj18 x1 h)
theorem dX12_alike_0 : decode cX12_alike 0 = .ok (.iconst 0, 1) := by decide +kernel
theorem dX12_alike_1 : decode cX12_alike 1 = .ok (.istore 4, 2) := by decide +kernel
theorem dX12_alike_3 : decode cX12_alike 3 = .ok (.iload 4, 2) := by decide +kernel
theorem dX12_alike_5 : decode cX12_alike 5 = .ok (.iconst 4, 1) := by decide +kernel
theorem dX12_alike_6 : decode cX12_alike 6 = .ok (.if_icmp .ge 46, 3) := by decide +kernel
theorem dX12_alike_9 : decode cX12_alike 9 = .ok (.iload_n 3, 1) := by decide +kernel
theorem dX12_alike_10 : decode cX12_alike 10 = .ok (.iload 4, 2) := by decide +kernel
theorem dX12_alike_12 : decode cX12_alike 12 = .ok (.ishr, 1) := by decide +kernel
theorem dX12_alike_13 : decode cX12_alike 13 = .ok (.iconst 1, 1) := by decide +kernel
theorem dX12_alike_14 : decode cX12_alike 14 = .ok (.iand, 1) := by decide +kernel
theorem dX12_alike_15 : decode cX12_alike 15 = .ok (.iconst 1, 1) := by decide +kernel
theorem dX12_alike_16 : decode cX12_alike 16 = .ok (.if_icmp .ne 30, 3) := by decide +kernel
theorem dX12_alike_19 : decode cX12_alike 19 = .ok (.aload_n 0, 1) := by decide +kernel
theorem dX12_alike_20 : decode cX12_alike 20 = .ok (.getfield 46, 3) := by decide +kernel
theorem dX12_alike_23 : decode cX12_alike 23 = .ok (.iconst 4, 1) := by decide +kernel
theorem dX12_alike_24 : decode cX12_alike 24 = .ok (.iload_n 1, 1) := by decide +kernel
theorem dX12_alike_25 : decode cX12_alike 25 = .ok (.imul, 1) := by decide +kernel
theorem dX12_alike_26 : decode cX12_alike 26 = .ok (.iload 4, 2) := by decide +kernel
theorem dX12_alike_28 : decode cX12_alike 28 = .ok (.iadd, 1) := by decide +kernel
theorem dX12_alike_29 : decode cX12_alike 29 = .ok (.iaload, 1) := by decide +kernel
theorem dX12_alike_30 : decode cX12_alike 30 = .ok (.aload_n 0, 1) := by decide +kernel
theorem dX12_alike_31 : decode cX12_alike 31 = .ok (.getfield 46, 3) := by decide +kernel
theorem dX12_alike_34 : decode cX12_alike 34 = .ok (.iconst 4, 1) := by decide +kernel
theorem dX12_alike_35 : decode cX12_alike 35 = .ok (.iload_n 2, 1) := by decide +kernel
theorem dX12_alike_36 : decode cX12_alike 36 = .ok (.imul, 1) := by decide +kernel
theorem dX12_alike_37 : decode cX12_alike 37 = .ok (.iload 4, 2) := by decide +kernel
theorem dX12_alike_39 : decode cX12_alike 39 = .ok (.iadd, 1) := by decide +kernel
theorem dX12_alike_40 : decode cX12_alike 40 = .ok (.iaload, 1) := by decide +kernel
theorem dX12_alike_41 : decode cX12_alike 41 = .ok (.if_icmp .eq 5, 3) := by decide +kernel
theorem dX12_alike_44 : decode cX12_alike 44 = .ok (.iconst 0, 1) := by decide +kernel
theorem dX12_alike_45 : decode cX12_alike 45 = .ok (.ireturn, 1) := by decide +kernel
theorem dX12_alike_46 : decode cX12_alike 46 = .ok (.iinc 4 1, 3) := by decide +kernel
theorem dX12_alike_49 : decode cX12_alike 49 = .ok (.goto (-46), 3) := by decide +kernel
theorem dX12_alike_52 : decode cX12_alike 52 = .ok (.iconst 1, 1) := by decide +kernel
theorem dX12_alike_53 : decode cX12_alike 53 = .ok (.ireturn, 1) := by decide +kernel
set_option maxHeartbeats 4000000 in
set_option maxRecDepth 100000 in
theorem T_X12_alike (l : Launch) (hl : l.stackTraces = false) (D : va_G) (cA : Nat → ClassId) {l0 : Option Nat} {l1 : Int32} {l2 : Int32} {l3 : Int32} {x : HS} {Q : Int32 → HS → Prop} {X : String → HS → Prop} (h : w_X12_alike l0 l1 l2 l3 x Q X) : YI l yX12_alike wsX12_alike 0 0 D cA [.q l0, .i l1, .i l2, .i l3] x Q X := by
  refine YI.of (cc := cX12_alike) (maxL := 5) (ret := (some .boolean)) hl (by decide) rfl rfl (fun g B fr => ?_)
  have o := B.o
  have hb := B.hb
  have hts := B.hts
  have hown : g.s.vm.findClass RX12 = some g.m.cls := B.hown
  have in12 : ∀ w ∈ u_ws RX12 TX12 57, w ∈ wsX12_alike := fun w h => (List.mem_cons_of_mem _ (List.mem_append_right _ h))
  unfold w_X12_alike at h
  show KW g 5 0 [(0, .q l0), (1, .i l1), (2, .i l2), (3, .i l3)] [] x
  refine k_iconst (v := 0) o hb dX12_alike_0 (by decide) ?_
  refine k_istore o hb dX12_alike_1 rfl ?_
  refine KW.sub [1, 2, 3, 4, 0] rfl ?_
  refine wLoop_elim (M := fun (v4 : Int32) (x3 : HS) => KW g 5 3 [(0, .q l0), (1, .i l1), (2, .i l2), (3, .i l3), (4, .i v4)] [] x3) h ?_
  intro v4 x3 again1 ih2 h
  refine k_iload o hb dX12_alike_3 4 rfl ?_
  refine k_iconst (v := 4) o hb dX12_alike_5 (by decide) ?_
  refine k_icmp_ge (tgt := 52) o hb dX12_alike_6 (by decide) h (fun h => ?_) (fun h => ?_)
  · skip
    refine k_iconst (v := 1) o hb dX12_alike_52 (by decide) ?_
    exact k_zret o hb B.hr fr dX12_alike_53 h
  · skip
    refine k_iload_n o hb dX12_alike_9 rfl 3 rfl ?_
    refine k_iload o hb dX12_alike_10 4 rfl ?_
    refine k_ishr o hb dX12_alike_12 ?_
    refine k_iconst (v := 1) o hb dX12_alike_13 (by decide) ?_
    refine k_iand o hb dX12_alike_14 ?_
    refine k_iconst (v := 1) o hb dX12_alike_15 (by decide) ?_
    refine wJoin_elim (M := fun K => ∀  (x6 : HS), K  x6 → KW g 5 46 [(0, .q l0), (1, .i l1), (2, .i l2), (3, .i l3), (4, .i v4)] [] x6) h ?_ (fun j5 hj5 h => ?_)
    · skip
      intro  x6 h
      refine k_iinc (w := 1) o hb dX12_alike_46 4 rfl (by decide) rfl ?_
      refine k_goto (tgt := 3) o hb dX12_alike_49 (by decide) ?_
      exact KW.sub [1, 2, 3, 4, 0] rfl (ih2 (v4 + 1) x6 h)
    · skip
      refine k_icmp_ne (tgt := 46) o hb dX12_alike_16 (by decide) h (fun h => ?_) (fun h => ?_)
      · skip
        refine k_aload_n o hb dX12_alike_19 rfl 0 rfl ?_
        refine k_getF (C := RX12) (T := TX12) (N := 57) o hb hts in12 hown rfl (by decide) 13 (by decide) rfl (hts (.fieldLink RX12 46 "FactKeeperModel" "column" "[I") (by decide +kernel)) (fun _ h9 => h9) dX12_alike_20 h (fun v7 h => ?_)
        refine k_iconst (v := 4) o hb dX12_alike_23 (by decide) ?_
        refine k_iload_n o hb dX12_alike_24 rfl 1 rfl ?_
        refine k_imul o hb dX12_alike_25 ?_
        refine k_iload o hb dX12_alike_26 4 rfl ?_
        refine k_iadd o hb dX12_alike_28 ?_
        refine k_iald o hb dX12_alike_29 h (fun v8 h => ?_)
        refine k_aload_n o hb dX12_alike_30 rfl 0 rfl ?_
        refine k_getF (C := RX12) (T := TX12) (N := 57) o hb hts in12 hown rfl (by decide) 13 (by decide) rfl (hts (.fieldLink RX12 46 "FactKeeperModel" "column" "[I") (by decide +kernel)) (fun _ h9 => h9) dX12_alike_31 h (fun v9 h => ?_)
        refine k_iconst (v := 4) o hb dX12_alike_34 (by decide) ?_
        refine k_iload_n o hb dX12_alike_35 rfl 2 rfl ?_
        refine k_imul o hb dX12_alike_36 ?_
        refine k_iload o hb dX12_alike_37 4 rfl ?_
        refine k_iadd o hb dX12_alike_39 ?_
        refine k_iald o hb dX12_alike_40 h (fun v10 h => ?_)
        refine k_icmp_eq (tgt := 46) o hb dX12_alike_41 (by decide) h (fun h => ?_) (fun h => ?_)
        · skip
          exact KW.sub [0, 1, 2, 3, 4] rfl (hj5 x3 h)
        · skip
          refine k_iconst (v := 0) o hb dX12_alike_44 (by decide) ?_
          exact k_zret o hb B.hr fr dX12_alike_45 h
      · skip
        exact KW.sub [0, 1, 2, 3, 4] rfl (hj5 x3 h)
theorem dX12_key_0 : decode cX12_key 0 = .ok (.aload_n 0, 1) := by decide +kernel
theorem dX12_key_1 : decode cX12_key 1 = .ok (.aload_n 0, 1) := by decide +kernel
theorem dX12_key_2 : decode cX12_key 2 = .ok (.iload_n 1, 1) := by decide +kernel
theorem dX12_key_3 : decode cX12_key 3 = .ok (.invokevirtual 153, 3) := by decide +kernel
theorem dX12_key_6 : decode cX12_key 6 = .ok (.ifCond .ne 7, 3) := by decide +kernel
theorem dX12_key_9 : decode cX12_key 9 = .ok (.iconst 1, 1) := by decide +kernel
theorem dX12_key_10 : decode cX12_key 10 = .ok (.goto 25, 3) := by decide +kernel
theorem dX12_key_13 : decode cX12_key 13 = .ok (.iload_n 2, 1) := by decide +kernel
theorem dX12_key_14 : decode cX12_key 14 = .ok (.iconst 1, 1) := by decide +kernel
theorem dX12_key_15 : decode cX12_key 15 = .ok (.if_icmp .lt 15, 3) := by decide +kernel
theorem dX12_key_18 : decode cX12_key 18 = .ok (.iload_n 2, 1) := by decide +kernel
theorem dX12_key_19 : decode cX12_key 19 = .ok (.iconst 1, 1) := by decide +kernel
theorem dX12_key_20 : decode cX12_key 20 = .ok (.aload_n 0, 1) := by decide +kernel
theorem dX12_key_21 : decode cX12_key 21 = .ok (.getfield 21, 3) := by decide +kernel
theorem dX12_key_24 : decode cX12_key 24 = .ok (.iload_n 1, 1) := by decide +kernel
theorem dX12_key_25 : decode cX12_key 25 = .ok (.iaload, 1) := by decide +kernel
theorem dX12_key_26 : decode cX12_key 26 = .ok (.ishl, 1) := by decide +kernel
theorem dX12_key_27 : decode cX12_key 27 = .ok (.if_icmp .lt 7, 3) := by decide +kernel
theorem dX12_key_30 : decode cX12_key 30 = .ok (.iconst 2, 1) := by decide +kernel
theorem dX12_key_31 : decode cX12_key 31 = .ok (.goto 4, 3) := by decide +kernel
theorem dX12_key_34 : decode cX12_key 34 = .ok (.iconst 0, 1) := by decide +kernel
theorem dX12_key_35 : decode cX12_key 35 = .ok (.invokevirtual 136, 3) := by decide +kernel
theorem dX12_key_38 : decode cX12_key 38 = .ok (.ifCond .eq 5, 3) := by decide +kernel
theorem dX12_key_41 : decode cX12_key 41 = .ok (.iconst 0, 1) := by decide +kernel
theorem dX12_key_42 : decode cX12_key 42 = .ok (.ireturn, 1) := by decide +kernel
theorem dX12_key_43 : decode cX12_key 43 = .ok (.iconst 0, 1) := by decide +kernel
theorem dX12_key_44 : decode cX12_key 44 = .ok (.istore_n 3, 1) := by decide +kernel
theorem dX12_key_45 : decode cX12_key 45 = .ok (.iload_n 3, 1) := by decide +kernel
theorem dX12_key_46 : decode cX12_key 46 = .ok (.aload_n 0, 1) := by decide +kernel
theorem dX12_key_47 : decode cX12_key 47 = .ok (.getfield 27, 3) := by decide +kernel
theorem dX12_key_50 : decode cX12_key 50 = .ok (.iload_n 1, 1) := by decide +kernel
theorem dX12_key_51 : decode cX12_key 51 = .ok (.iaload, 1) := by decide +kernel
theorem dX12_key_52 : decode cX12_key 52 = .ok (.if_icmp .ge 25, 3) := by decide +kernel
theorem dX12_key_55 : decode cX12_key 55 = .ok (.aload_n 0, 1) := by decide +kernel
theorem dX12_key_56 : decode cX12_key 56 = .ok (.getfield 36, 3) := by decide +kernel
theorem dX12_key_59 : decode cX12_key 59 = .ok (.iconst 3, 1) := by decide +kernel
theorem dX12_key_60 : decode cX12_key 60 = .ok (.iload_n 1, 1) := by decide +kernel
theorem dX12_key_61 : decode cX12_key 61 = .ok (.imul, 1) := by decide +kernel
theorem dX12_key_62 : decode cX12_key 62 = .ok (.iload_n 3, 1) := by decide +kernel
theorem dX12_key_63 : decode cX12_key 63 = .ok (.iadd, 1) := by decide +kernel
theorem dX12_key_64 : decode cX12_key 64 = .ok (.iaload, 1) := by decide +kernel
theorem dX12_key_65 : decode cX12_key 65 = .ok (.iload_n 2, 1) := by decide +kernel
theorem dX12_key_66 : decode cX12_key 66 = .ok (.if_icmp .ne 5, 3) := by decide +kernel
theorem dX12_key_69 : decode cX12_key 69 = .ok (.iconst 0, 1) := by decide +kernel
theorem dX12_key_70 : decode cX12_key 70 = .ok (.ireturn, 1) := by decide +kernel
theorem dX12_key_71 : decode cX12_key 71 = .ok (.iinc 3 1, 3) := by decide +kernel
theorem dX12_key_74 : decode cX12_key 74 = .ok (.goto (-29), 3) := by decide +kernel
theorem dX12_key_77 : decode cX12_key 77 = .ok (.iconst 0, 1) := by decide +kernel
theorem dX12_key_78 : decode cX12_key 78 = .ok (.istore_n 3, 1) := by decide +kernel
theorem dX12_key_79 : decode cX12_key 79 = .ok (.aload_n 0, 1) := by decide +kernel
theorem dX12_key_80 : decode cX12_key 80 = .ok (.getfield 30, 3) := by decide +kernel
theorem dX12_key_83 : decode cX12_key 83 = .ok (.iload_n 1, 1) := by decide +kernel
theorem dX12_key_84 : decode cX12_key 84 = .ok (.iaload, 1) := by decide +kernel
theorem dX12_key_85 : decode cX12_key 85 = .ok (.istore 4, 2) := by decide +kernel
theorem dX12_key_87 : decode cX12_key 87 = .ok (.iload 4, 2) := by decide +kernel
theorem dX12_key_89 : decode cX12_key 89 = .ok (.ifCond .lt 81, 3) := by decide +kernel
theorem dX12_key_92 : decode cX12_key 92 = .ok (.aload_n 0, 1) := by decide +kernel
theorem dX12_key_93 : decode cX12_key 93 = .ok (.getfield 61, 3) := by decide +kernel
theorem dX12_key_96 : decode cX12_key 96 = .ok (.iload 4, 2) := by decide +kernel
theorem dX12_key_98 : decode cX12_key 98 = .ok (.iaload, 1) := by decide +kernel
theorem dX12_key_99 : decode cX12_key 99 = .ok (.istore 5, 2) := by decide +kernel
theorem dX12_key_101 : decode cX12_key 101 = .ok (.iload 5, 2) := by decide +kernel
theorem dX12_key_103 : decode cX12_key 103 = .ok (.ifCond .lt 55, 3) := by decide +kernel
theorem dX12_key_106 : decode cX12_key 106 = .ok (.aload_n 0, 1) := by decide +kernel
theorem dX12_key_107 : decode cX12_key 107 = .ok (.iload 4, 2) := by decide +kernel
theorem dX12_key_109 : decode cX12_key 109 = .ok (.aload_n 0, 1) := by decide +kernel
theorem dX12_key_110 : decode cX12_key 110 = .ok (.getfield 150, 3) := by decide +kernel
theorem dX12_key_113 : decode cX12_key 113 = .ok (.invokevirtual 156, 3) := by decide +kernel
theorem dX12_key_116 : decode cX12_key 116 = .ok (.ifCond .eq 42, 3) := by decide +kernel
theorem dX12_key_119 : decode cX12_key 119 = .ok (.aload_n 0, 1) := by decide +kernel
theorem dX12_key_120 : decode cX12_key 120 = .ok (.iload 5, 2) := by decide +kernel
theorem dX12_key_122 : decode cX12_key 122 = .ok (.aload_n 0, 1) := by decide +kernel
theorem dX12_key_123 : decode cX12_key 123 = .ok (.getfield 150, 3) := by decide +kernel
theorem dX12_key_126 : decode cX12_key 126 = .ok (.invokevirtual 156, 3) := by decide +kernel
theorem dX12_key_129 : decode cX12_key 129 = .ok (.ifCond .eq 17, 3) := by decide +kernel
theorem dX12_key_132 : decode cX12_key 132 = .ok (.aload_n 0, 1) := by decide +kernel
theorem dX12_key_133 : decode cX12_key 133 = .ok (.iload 4, 2) := by decide +kernel
theorem dX12_key_135 : decode cX12_key 135 = .ok (.iload 5, 2) := by decide +kernel
theorem dX12_key_137 : decode cX12_key 137 = .ok (.iload_n 2, 1) := by decide +kernel
theorem dX12_key_138 : decode cX12_key 138 = .ok (.invokevirtual 160, 3) := by decide +kernel
theorem dX12_key_141 : decode cX12_key 141 = .ok (.ifCond .eq 5, 3) := by decide +kernel
theorem dX12_key_144 : decode cX12_key 144 = .ok (.iconst 1, 1) := by decide +kernel
theorem dX12_key_145 : decode cX12_key 145 = .ok (.istore_n 3, 1) := by decide +kernel
theorem dX12_key_146 : decode cX12_key 146 = .ok (.aload_n 0, 1) := by decide +kernel
theorem dX12_key_147 : decode cX12_key 147 = .ok (.getfield 61, 3) := by decide +kernel
theorem dX12_key_150 : decode cX12_key 150 = .ok (.iload 5, 2) := by decide +kernel
theorem dX12_key_152 : decode cX12_key 152 = .ok (.iaload, 1) := by decide +kernel
theorem dX12_key_153 : decode cX12_key 153 = .ok (.istore 5, 2) := by decide +kernel
theorem dX12_key_155 : decode cX12_key 155 = .ok (.goto (-54), 3) := by decide +kernel
theorem dX12_key_158 : decode cX12_key 158 = .ok (.aload_n 0, 1) := by decide +kernel
theorem dX12_key_159 : decode cX12_key 159 = .ok (.getfield 61, 3) := by decide +kernel
theorem dX12_key_162 : decode cX12_key 162 = .ok (.iload 4, 2) := by decide +kernel
theorem dX12_key_164 : decode cX12_key 164 = .ok (.iaload, 1) := by decide +kernel
theorem dX12_key_165 : decode cX12_key 165 = .ok (.istore 4, 2) := by decide +kernel
theorem dX12_key_167 : decode cX12_key 167 = .ok (.goto (-80), 3) := by decide +kernel
theorem dX12_key_170 : decode cX12_key 170 = .ok (.aload_n 0, 1) := by decide +kernel
theorem dX12_key_171 : decode cX12_key 171 = .ok (.iload_n 3, 1) := by decide +kernel
theorem dX12_key_172 : decode cX12_key 172 = .ok (.ifCond .eq 7, 3) := by decide +kernel
theorem dX12_key_175 : decode cX12_key 175 = .ok (.iconst 3, 1) := by decide +kernel
theorem dX12_key_176 : decode cX12_key 176 = .ok (.goto 18, 3) := by decide +kernel
theorem dX12_key_179 : decode cX12_key 179 = .ok (.aload_n 0, 1) := by decide +kernel
theorem dX12_key_180 : decode cX12_key 180 = .ok (.getfield 27, 3) := by decide +kernel
theorem dX12_key_183 : decode cX12_key 183 = .ok (.iload_n 1, 1) := by decide +kernel
theorem dX12_key_184 : decode cX12_key 184 = .ok (.iaload, 1) := by decide +kernel
theorem dX12_key_185 : decode cX12_key 185 = .ok (.iconst 3, 1) := by decide +kernel
theorem dX12_key_186 : decode cX12_key 186 = .ok (.if_icmp .ne 7, 3) := by decide +kernel
theorem dX12_key_189 : decode cX12_key 189 = .ok (.iconst 4, 1) := by decide +kernel
theorem dX12_key_190 : decode cX12_key 190 = .ok (.goto 4, 3) := by decide +kernel
theorem dX12_key_193 : decode cX12_key 193 = .ok (.iconst 0, 1) := by decide +kernel
theorem dX12_key_194 : decode cX12_key 194 = .ok (.invokevirtual 136, 3) := by decide +kernel
theorem dX12_key_197 : decode cX12_key 197 = .ok (.ifCond .eq 5, 3) := by decide +kernel
theorem dX12_key_200 : decode cX12_key 200 = .ok (.iconst 0, 1) := by decide +kernel
theorem dX12_key_201 : decode cX12_key 201 = .ok (.ireturn, 1) := by decide +kernel
theorem dX12_key_202 : decode cX12_key 202 = .ok (.aload_n 0, 1) := by decide +kernel
theorem dX12_key_203 : decode cX12_key 203 = .ok (.getfield 36, 3) := by decide +kernel
theorem dX12_key_206 : decode cX12_key 206 = .ok (.iconst 3, 1) := by decide +kernel
theorem dX12_key_207 : decode cX12_key 207 = .ok (.iload_n 1, 1) := by decide +kernel
theorem dX12_key_208 : decode cX12_key 208 = .ok (.imul, 1) := by decide +kernel
theorem dX12_key_209 : decode cX12_key 209 = .ok (.aload_n 0, 1) := by decide +kernel
theorem dX12_key_210 : decode cX12_key 210 = .ok (.getfield 27, 3) := by decide +kernel
theorem dX12_key_213 : decode cX12_key 213 = .ok (.iload_n 1, 1) := by decide +kernel
theorem dX12_key_214 : decode cX12_key 214 = .ok (.iaload, 1) := by decide +kernel
theorem dX12_key_215 : decode cX12_key 215 = .ok (.iadd, 1) := by decide +kernel
theorem dX12_key_216 : decode cX12_key 216 = .ok (.iload_n 2, 1) := by decide +kernel
theorem dX12_key_217 : decode cX12_key 217 = .ok (.iastore, 1) := by decide +kernel
theorem dX12_key_218 : decode cX12_key 218 = .ok (.aload_n 0, 1) := by decide +kernel
theorem dX12_key_219 : decode cX12_key 219 = .ok (.getfield 27, 3) := by decide +kernel
theorem dX12_key_222 : decode cX12_key 222 = .ok (.iload_n 1, 1) := by decide +kernel
theorem dX12_key_223 : decode cX12_key 223 = .ok (.dup2, 1) := by decide +kernel
theorem dX12_key_224 : decode cX12_key 224 = .ok (.iaload, 1) := by decide +kernel
theorem dX12_key_225 : decode cX12_key 225 = .ok (.iconst 1, 1) := by decide +kernel
theorem dX12_key_226 : decode cX12_key 226 = .ok (.iadd, 1) := by decide +kernel
theorem dX12_key_227 : decode cX12_key 227 = .ok (.iastore, 1) := by decide +kernel
theorem dX12_key_228 : decode cX12_key 228 = .ok (.iconst 1, 1) := by decide +kernel
theorem dX12_key_229 : decode cX12_key 229 = .ok (.ireturn, 1) := by decide +kernel
theorem i9wsX12_key_0 : ∀ w ∈ wsX12_key_r1, w ∈ wsX12_key := fun _ h => (List.mem_cons_of_mem _ (List.mem_append_left _ (List.mem_append_left _ h)))
theorem i9wsX12_key_2 : ∀ w ∈ wsX120, w ∈ wsX12_key := fun _ h => (List.mem_cons_of_mem _ (List.mem_append_right _ h))
set_option maxRecDepth 20000 in
theorem ggX12_key_X12_isTable : GoodIn wsX12_key wsX12_isTable := (gin_c (mem_at i9wsX12_key_0 10 rfl) rfl (goodIn_app (gin_c (mem_at i9wsX12_key_0 11 rfl) rfl gin_n) (goodIn_sub i9wsX12_key_2 g9_16)))
set_option maxRecDepth 20000 in
theorem gX12_key_X12_isTable : GoodIn wsX12_key (wsV RX12 153 RX12 yX12_isTable wsX12_isTable) := goodIn_app (gin_c (mem_at i9wsX12_key_0 6 rfl) rfl (gin_c (mem_at i9wsX12_key_0 7 rfl) rfl (gin_c (mem_at i9wsX12_key_0 8 rfl) rfl (gin_c (mem_at i9wsX12_key_0 9 rfl) rfl gin_n)))) ggX12_key_X12_isTable
set_option maxRecDepth 20000 in
theorem ggX12_key_X12_fails : GoodIn wsX12_key wsX12_fails := (gin_c (mem_at i9wsX12_key_0 15 rfl) rfl (goodIn_app (gin_c (mem_at i9wsX12_key_0 16 rfl) rfl gin_n) (goodIn_sub i9wsX12_key_2 g9_16)))
set_option maxRecDepth 20000 in
theorem gX12_key_X12_fails : GoodIn wsX12_key (wsV RX12 136 RX12 yX12_fails wsX12_fails) := goodIn_app (gin_c (mem_at i9wsX12_key_0 12 rfl) rfl (gin_c (mem_at i9wsX12_key_0 13 rfl) rfl (gin_c (mem_at i9wsX12_key_0 14 rfl) rfl (gin_c (mem_at i9wsX12_key_0 9 rfl) rfl gin_n)))) ggX12_key_X12_fails
set_option maxRecDepth 20000 in
theorem ggX12_key_X12_isThere : GoodIn wsX12_key wsX12_isThere := (gin_c (mem_at i9wsX12_key_0 20 rfl) rfl (goodIn_app (gin_c (mem_at i9wsX12_key_0 21 rfl) rfl (gin_c (mem_at i9wsX12_key_0 22 rfl) rfl gin_n)) (goodIn_sub i9wsX12_key_2 g9_16)))
set_option maxRecDepth 20000 in
theorem gX12_key_X12_isThere : GoodIn wsX12_key (wsV RX12 156 RX12 yX12_isThere wsX12_isThere) := goodIn_app (gin_c (mem_at i9wsX12_key_0 17 rfl) rfl (gin_c (mem_at i9wsX12_key_0 18 rfl) rfl (gin_c (mem_at i9wsX12_key_0 19 rfl) rfl (gin_c (mem_at i9wsX12_key_0 9 rfl) rfl gin_n)))) ggX12_key_X12_isThere
theorem i9wsX12_key_1 : ∀ w ∈ wsX12_key_r2, w ∈ wsX12_key := fun _ h => (List.mem_cons_of_mem _ (List.mem_append_left _ (List.mem_append_right _ h)))
set_option maxRecDepth 20000 in
theorem ggX12_key_X12_alike : GoodIn wsX12_key wsX12_alike := (gin_c (mem_at i9wsX12_key_1 2 rfl) rfl (goodIn_app (gin_c (mem_at i9wsX12_key_1 3 rfl) rfl gin_n) (goodIn_sub i9wsX12_key_2 g9_16)))
set_option maxRecDepth 20000 in
theorem gX12_key_X12_alike : GoodIn wsX12_key (wsV RX12 160 RX12 yX12_alike wsX12_alike) := goodIn_app (gin_c (mem_at i9wsX12_key_0 23 rfl) rfl (gin_c (mem_at i9wsX12_key_1 0 rfl) rfl (gin_c (mem_at i9wsX12_key_1 1 rfl) rfl (gin_c (mem_at i9wsX12_key_0 9 rfl) rfl gin_n)))) ggX12_key_X12_alike
set_option maxHeartbeats 4000000 in
set_option maxRecDepth 100000 in
theorem T_X12_key (l : Launch) (hl : l.stackTraces = false) (D : va_G) (cA : Nat → ClassId) {l0 : Option Nat} {l1 : Int32} {l2 : Int32} {x : HS} {Q : Int32 → HS → Prop} {X : String → HS → Prop} (h : w_X12_key l0 l1 l2 x Q X) : YI l yX12_key wsX12_key 1 24 D cA [.q l0, .i l1, .i l2] x Q X := by
  refine YI.of (cc := cX12_key) (maxL := 6) (ret := (some .int)) hl (by decide) rfl rfl (fun g B fr => ?_)
  have o := B.o
  have hb := B.hb
  have hts := B.hts
  have hown : g.s.vm.findClass RX12 = some g.m.cls := B.hown
  have in12 : ∀ w ∈ u_ws RX12 TX12 57, w ∈ wsX12_key := fun w h => (List.mem_cons_of_mem _ (List.mem_append_right _ h))
  unfold w_X12_key at h
  show KW g 6 0 [(0, .q l0), (1, .i l1), (2, .i l2)] [] x
  refine k_aload_n o hb dX12_key_0 rfl 0 rfl ?_
  refine k_aload_n o hb dX12_key_1 rfl 0 rfl ?_
  refine k_iload_n o hb dX12_key_2 rfl 1 rfl ?_
  refine k_run_i o (fun _ _ q => q) (k_runV (ci := 12) (rc := (RX12, TX12, 57)) o hb B.hml hown hts rfl (by decide) (T_X12_isTable g.l o.hl g.D g.cA h.2) (cwV 1 hts gX12_key_X12_isTable rfl rfl rfl (by decide +kernel) ⟨yle B.hR1 rfl, yle B.hR2 rfl⟩) h.1 rfl rfl (Nat.le_of_ble_eq_true rfl) dX12_key_3) (fun v2 x1 h => ?_)
  refine wJoin_elim (M := fun K => ∀ (v5 : Int32) (x4 : HS), K v5 x4 → KW g 6 35 [(0, .q l0), (1, .i l1), (2, .i l2)] [.i v5, .q l0] x4) h ?_ (fun j3 hj3 h => ?_)
  · skip
    intro v5 x4 h
    refine k_run_i o (fun _ _ q => q) (k_runV (ci := 12) (rc := (RX12, TX12, 57)) o hb B.hml hown hts rfl (by decide) (T_X12_fails g.l o.hl g.D g.cA h.2) (cwV 1 hts gX12_key_X12_fails rfl rfl rfl (by decide +kernel) ⟨yle B.hR1 rfl, yle B.hR2 rfl⟩) h.1 rfl rfl (Nat.le_of_ble_eq_true rfl) dX12_key_35) (fun v7 x6 h => ?_)
    refine k_if_eq (tgt := 43) o hb dX12_key_38 (by decide) h (fun h => ?_) (fun h => ?_)
    · skip
      refine k_iconst (v := 0) o hb dX12_key_43 (by decide) ?_
      refine k_istore_n o hb dX12_key_44 rfl rfl ?_
      refine KW.sub [1, 2, 3, 0] rfl ?_
      refine wLoop_elim (M := fun (v11 : Int32) (x10 : HS) => KW g 6 45 [(0, .q l0), (1, .i l1), (2, .i l2), (3, .i v11)] [] x10) h ?_
      intro v11 x10 again8 ih9 h
      refine k_iload_n o hb dX12_key_45 rfl 3 rfl ?_
      refine k_aload_n o hb dX12_key_46 rfl 0 rfl ?_
      refine k_getF (C := RX12) (T := TX12) (N := 57) o hb hts in12 hown rfl (by decide) 6 (by decide) rfl (hts (.fieldLink RX12 27 "FactKeeperModel" "keyMany" "[I") (by decide +kernel)) (fun _ h9 => h9) dX12_key_47 h (fun v12 h => ?_)
      refine k_iload_n o hb dX12_key_50 rfl 1 rfl ?_
      refine k_iald o hb dX12_key_51 h (fun v13 h => ?_)
      refine k_icmp_ge (tgt := 77) o hb dX12_key_52 (by decide) h (fun h => ?_) (fun h => ?_)
      · skip
        refine k_iconst (v := 0) o hb dX12_key_77 (by decide) ?_
        refine k_istore_n o hb dX12_key_78 rfl rfl ?_
        refine k_aload_n o hb dX12_key_79 rfl 1 rfl ?_
        refine k_getF (C := RX12) (T := TX12) (N := 57) o hb hts in12 hown rfl (by decide) 7 (by decide) rfl (hts (.fieldLink RX12 30 "FactKeeperModel" "first" "[I") (by decide +kernel)) (fun _ h9 => h9) dX12_key_80 h (fun v14 h => ?_)
        refine k_iload_n o hb dX12_key_83 rfl 2 rfl ?_
        refine k_iald o hb dX12_key_84 h (fun v15 h => ?_)
        refine k_istore o hb dX12_key_85 rfl ?_
        refine KW.sub [2, 3, 4, 1, 0] rfl ?_
        refine wLoop_elim (M := fun (v19 : Int32 × Int32) (x18 : HS) => KW g 6 87 [(0, .q l0), (1, .i l1), (2, .i l2), (3, .i v19.1), (4, .i v19.2)] [] x18) h ?_
        intro v19 x18 again16 ih17 h
        refine k_iload o hb dX12_key_87 4 rfl ?_
        refine k_if_lt (tgt := 170) o hb dX12_key_89 (by decide) h (fun h => ?_) (fun h => ?_)
        · skip
          refine k_aload_n o hb dX12_key_170 rfl 0 rfl ?_
          refine k_iload_n o hb dX12_key_171 rfl 3 rfl ?_
          refine wJoin_elim (M := fun K => ∀ (v22 : Int32) (x21 : HS), K v22 x21 → KW g 6 194 [(0, .q l0), (1, .i l1), (2, .i l2)] [.i v22, .q l0] x21) h ?_ (fun j20 hj20 h => ?_)
          · skip
            intro v22 x21 h
            refine k_run_i o (fun _ _ q => q) (k_runV (ci := 12) (rc := (RX12, TX12, 57)) o hb B.hml hown hts rfl (by decide) (T_X12_fails g.l o.hl g.D g.cA h.2) (cwV 1 hts gX12_key_X12_fails rfl rfl rfl (by decide +kernel) ⟨yle B.hR1 rfl, yle B.hR2 rfl⟩) h.1 rfl rfl (Nat.le_of_ble_eq_true rfl) dX12_key_194) (fun v24 x23 h => ?_)
            refine k_if_eq (tgt := 202) o hb dX12_key_197 (by decide) h (fun h => ?_) (fun h => ?_)
            · skip
              refine k_aload_n o hb dX12_key_202 rfl 0 rfl ?_
              refine k_getF (C := RX12) (T := TX12) (N := 57) o hb hts in12 hown rfl (by decide) 9 (by decide) rfl (hts (.fieldLink RX12 36 "FactKeeperModel" "keys" "[I") (by decide +kernel)) (fun _ h9 => h9) dX12_key_203 h (fun v25 h => ?_)
              refine k_iconst (v := 3) o hb dX12_key_206 (by decide) ?_
              refine k_iload_n o hb dX12_key_207 rfl 1 rfl ?_
              refine k_imul o hb dX12_key_208 ?_
              refine k_aload_n o hb dX12_key_209 rfl 0 rfl ?_
              refine k_getF (C := RX12) (T := TX12) (N := 57) o hb hts in12 hown rfl (by decide) 6 (by decide) rfl (hts (.fieldLink RX12 27 "FactKeeperModel" "keyMany" "[I") (by decide +kernel)) (fun _ h9 => h9) dX12_key_210 h (fun v26 h => ?_)
              refine k_iload_n o hb dX12_key_213 rfl 1 rfl ?_
              refine k_iald o hb dX12_key_214 h (fun v27 h => ?_)
              refine k_iadd o hb dX12_key_215 ?_
              refine k_iload_n o hb dX12_key_216 rfl 2 rfl ?_
              refine k_iast o hb dX12_key_217 h (fun x28 h => ?_)
              refine k_aload_n o hb dX12_key_218 rfl 0 rfl ?_
              refine k_getF (C := RX12) (T := TX12) (N := 57) o hb hts in12 hown rfl (by decide) 6 (by decide) rfl (hts (.fieldLink RX12 27 "FactKeeperModel" "keyMany" "[I") (by decide +kernel)) (fun _ h9 => h9) dX12_key_219 h (fun v29 h => ?_)
              refine k_iload_n o hb dX12_key_222 rfl 1 rfl ?_
              refine k_dup2 o hb dX12_key_223 ?_
              refine k_iald o hb dX12_key_224 h (fun v30 h => ?_)
              refine k_iconst (v := 1) o hb dX12_key_225 (by decide) ?_
              refine k_iadd o hb dX12_key_226 ?_
              refine k_iast o hb dX12_key_227 h (fun x31 h => ?_)
              refine k_iconst (v := 1) o hb dX12_key_228 (by decide) ?_
              exact k_iret o hb B.hr fr dX12_key_229 h
            · skip
              refine k_iconst (v := 0) o hb dX12_key_200 (by decide) ?_
              exact k_iret o hb B.hr fr dX12_key_201 h
          · skip
            refine k_if_eq (tgt := 179) o hb dX12_key_172 (by decide) h (fun h => ?_) (fun h => ?_)
            · skip
              refine k_aload_n o hb dX12_key_179 rfl 0 rfl ?_
              refine k_getF (C := RX12) (T := TX12) (N := 57) o hb hts in12 hown rfl (by decide) 6 (by decide) rfl (hts (.fieldLink RX12 27 "FactKeeperModel" "keyMany" "[I") (by decide +kernel)) (fun _ h9 => h9) dX12_key_180 h (fun v32 h => ?_)
              refine k_iload_n o hb dX12_key_183 rfl 1 rfl ?_
              refine k_iald o hb dX12_key_184 h (fun v33 h => ?_)
              refine k_iconst (v := 3) o hb dX12_key_185 (by decide) ?_
              refine k_icmp_ne (tgt := 193) o hb dX12_key_186 (by decide) h (fun h => ?_) (fun h => ?_)
              · skip
                refine k_iconst (v := 4) o hb dX12_key_189 (by decide) ?_
                refine k_goto (tgt := 194) o hb dX12_key_190 (by decide) ?_
                exact KW.sub [0, 1, 2] rfl (hj20 4 x18 h)
              · skip
                refine k_iconst (v := 0) o hb dX12_key_193 (by decide) ?_
                exact KW.sub [0, 1, 2] rfl (hj20 0 x18 h)
            · skip
              refine k_iconst (v := 3) o hb dX12_key_175 (by decide) ?_
              refine k_goto (tgt := 194) o hb dX12_key_176 (by decide) ?_
              exact KW.sub [0, 1, 2] rfl (hj20 3 x18 h)
        · skip
          refine k_aload_n o hb dX12_key_92 rfl 0 rfl ?_
          refine k_getF (C := RX12) (T := TX12) (N := 57) o hb hts in12 hown rfl (by decide) 18 (by decide) rfl (hts (.fieldLink RX12 61 "FactKeeperModel" "behind" "[I") (by decide +kernel)) (fun _ h9 => h9) dX12_key_93 h (fun v34 h => ?_)
          refine k_iload o hb dX12_key_96 4 rfl ?_
          refine k_iald o hb dX12_key_98 h (fun v35 h => ?_)
          refine k_istore o hb dX12_key_99 rfl ?_
          refine KW.sub [1, 2, 3, 4, 5, 0] rfl ?_
          refine wLoop_elim (M := fun (v39 : Int32 × Int32 × Int32) (x38 : HS) => KW g 6 101 [(0, .q l0), (1, .i l1), (2, .i l2), (3, .i v39.1), (4, .i v39.2.1), (5, .i v39.2.2)] [] x38) h ?_
          intro v39 x38 again36 ih37 h
          refine k_iload o hb dX12_key_101 5 rfl ?_
          refine wJoin_elim (M := fun K => ∀  (x41 : HS), K  x41 → KW g 6 158 [(0, .q l0), (1, .i l1), (2, .i l2), (3, .i v39.1), (4, .i v39.2.1)] [] x41) h ?_ (fun j40 hj40 h => ?_)
          · skip
            intro  x41 h
            refine k_aload_n o hb dX12_key_158 rfl 0 rfl ?_
            refine k_getF (C := RX12) (T := TX12) (N := 57) o hb hts in12 hown rfl (by decide) 18 (by decide) rfl (hts (.fieldLink RX12 61 "FactKeeperModel" "behind" "[I") (by decide +kernel)) (fun _ h9 => h9) dX12_key_159 h (fun v42 h => ?_)
            refine k_iload o hb dX12_key_162 4 rfl ?_
            refine k_iald o hb dX12_key_164 h (fun v43 h => ?_)
            refine k_istore o hb dX12_key_165 rfl ?_
            refine k_goto (tgt := 87) o hb dX12_key_167 (by decide) ?_
            exact KW.sub [1, 2, 3, 4, 0] rfl (ih17 (v39.1, v43) x41 h)
          · skip
            refine k_if_lt (tgt := 158) o hb dX12_key_103 (by decide) h (fun h => ?_) (fun h => ?_)
            · skip
              exact KW.sub [0, 1, 2, 3, 4] rfl (hj40 x38 h)
            · skip
              refine k_aload_n o hb dX12_key_106 rfl 0 rfl ?_
              refine k_iload o hb dX12_key_107 4 rfl ?_
              refine k_aload_n o hb dX12_key_109 rfl 0 rfl ?_
              refine k_getI (C := RX12) (T := TX12) (N := 57) o hb hts in12 hown rfl (by decide) 22 (by decide) rfl (hts (.fieldLink RX12 150 "FactKeeperModel" "time" "I") (by decide +kernel)) (fun _ h9 => h9) dX12_key_110 h (fun v44 h => ?_)
              refine k_run_i o (fun _ _ q => q) (k_runV (ci := 12) (rc := (RX12, TX12, 57)) o hb B.hml hown hts rfl (by decide) (T_X12_isThere g.l o.hl g.D g.cA h.2) (cwV 2 hts gX12_key_X12_isThere rfl rfl rfl (by decide +kernel) ⟨yle B.hR1 rfl, yle B.hR2 rfl⟩) h.1 rfl rfl (Nat.le_of_ble_eq_true rfl) dX12_key_113) (fun v46 x45 h => ?_)
              refine k_if_eq (tgt := 158) o hb dX12_key_116 (by decide) h (fun h => ?_) (fun h => ?_)
              · skip
                exact KW.sub [0, 1, 2, 3, 4] rfl (hj40 x45 h)
              · skip
                refine k_aload_n o hb dX12_key_119 rfl 0 rfl ?_
                refine k_iload o hb dX12_key_120 5 rfl ?_
                refine k_aload_n o hb dX12_key_122 rfl 0 rfl ?_
                refine k_getI (C := RX12) (T := TX12) (N := 57) o hb hts in12 hown rfl (by decide) 22 (by decide) rfl (hts (.fieldLink RX12 150 "FactKeeperModel" "time" "I") (by decide +kernel)) (fun _ h9 => h9) dX12_key_123 h (fun v47 h => ?_)
                refine k_run_i o (fun _ _ q => q) (k_runV (ci := 12) (rc := (RX12, TX12, 57)) o hb B.hml hown hts rfl (by decide) (T_X12_isThere g.l o.hl g.D g.cA h.2) (cwV 2 hts gX12_key_X12_isThere rfl rfl rfl (by decide +kernel) ⟨yle B.hR1 rfl, yle B.hR2 rfl⟩) h.1 rfl rfl (Nat.le_of_ble_eq_true rfl) dX12_key_126) (fun v49 x48 h => ?_)
                refine wJoin_elim (M := fun K => ∀ (v52 : Int32) (x51 : HS), K v52 x51 → KW g 6 146 [(0, .q l0), (1, .i l1), (2, .i l2), (3, .i v52), (4, .i v39.2.1), (5, .i v39.2.2)] [] x51) h ?_ (fun j50 hj50 h => ?_)
                · skip
                  intro v52 x51 h
                  refine k_aload_n o hb dX12_key_146 rfl 0 rfl ?_
                  refine k_getF (C := RX12) (T := TX12) (N := 57) o hb hts in12 hown rfl (by decide) 18 (by decide) rfl (hts (.fieldLink RX12 61 "FactKeeperModel" "behind" "[I") (by decide +kernel)) (fun _ h9 => h9) dX12_key_147 h (fun v53 h => ?_)
                  refine k_iload o hb dX12_key_150 5 rfl ?_
                  refine k_iald o hb dX12_key_152 h (fun v54 h => ?_)
                  refine k_istore o hb dX12_key_153 rfl ?_
                  refine k_goto (tgt := 101) o hb dX12_key_155 (by decide) ?_
                  exact KW.sub [1, 2, 3, 4, 5, 0] rfl (ih37 (v52, v39.2.1, v54) x51 h)
                · skip
                  refine k_if_eq (tgt := 146) o hb dX12_key_129 (by decide) h (fun h => ?_) (fun h => ?_)
                  · skip
                    exact KW.sub [0, 1, 2, 3, 4, 5] rfl (hj50 v39.1 x48 h)
                  · skip
                    refine k_aload_n o hb dX12_key_132 rfl 0 rfl ?_
                    refine k_iload o hb dX12_key_133 4 rfl ?_
                    refine k_iload o hb dX12_key_135 5 rfl ?_
                    refine k_iload_n o hb dX12_key_137 rfl 2 rfl ?_
                    refine k_run_i o (fun _ _ q => q) (k_runV (ci := 12) (rc := (RX12, TX12, 57)) o hb B.hml hown hts rfl (by decide) (T_X12_alike g.l o.hl g.D g.cA h.2) (cwV 3 hts gX12_key_X12_alike rfl rfl rfl (by decide +kernel) ⟨yle B.hR1 rfl, yle B.hR2 rfl⟩) h.1 rfl rfl (Nat.le_of_ble_eq_true rfl) dX12_key_138) (fun v56 x55 h => ?_)
                    refine k_if_eq (tgt := 146) o hb dX12_key_141 (by decide) h (fun h => ?_) (fun h => ?_)
                    · skip
                      exact KW.sub [0, 1, 2, 3, 4, 5] rfl (hj50 v39.1 x55 h)
                    · skip
                      refine k_iconst (v := 1) o hb dX12_key_144 (by decide) ?_
                      refine k_istore_n o hb dX12_key_145 rfl rfl ?_
                      exact KW.sub [1, 2, 3, 0, 4, 5] rfl (hj50 1 x55 h)
      · skip
        refine k_aload_n o hb dX12_key_55 rfl 0 rfl ?_
        refine k_getF (C := RX12) (T := TX12) (N := 57) o hb hts in12 hown rfl (by decide) 9 (by decide) rfl (hts (.fieldLink RX12 36 "FactKeeperModel" "keys" "[I") (by decide +kernel)) (fun _ h9 => h9) dX12_key_56 h (fun v57 h => ?_)
        refine k_iconst (v := 3) o hb dX12_key_59 (by decide) ?_
        refine k_iload_n o hb dX12_key_60 rfl 1 rfl ?_
        refine k_imul o hb dX12_key_61 ?_
        refine k_iload_n o hb dX12_key_62 rfl 3 rfl ?_
        refine k_iadd o hb dX12_key_63 ?_
        refine k_iald o hb dX12_key_64 h (fun v58 h => ?_)
        refine k_iload_n o hb dX12_key_65 rfl 2 rfl ?_
        refine k_icmp_ne (tgt := 71) o hb dX12_key_66 (by decide) h (fun h => ?_) (fun h => ?_)
        · skip
          refine k_iconst (v := 0) o hb dX12_key_69 (by decide) ?_
          exact k_iret o hb B.hr fr dX12_key_70 h
        · skip
          refine k_iinc (w := 1) o hb dX12_key_71 3 rfl (by decide) rfl ?_
          refine k_goto (tgt := 45) o hb dX12_key_74 (by decide) ?_
          exact KW.sub [1, 2, 3, 0] rfl (ih9 (v11 + 1) x10 h)
    · skip
      refine k_iconst (v := 0) o hb dX12_key_41 (by decide) ?_
      exact k_iret o hb B.hr fr dX12_key_42 h
  · skip
    refine k_if_ne (tgt := 13) o hb dX12_key_6 (by decide) h (fun h => ?_) (fun h => ?_)
    · skip
      refine k_iconst (v := 1) o hb dX12_key_9 (by decide) ?_
      refine k_goto (tgt := 35) o hb dX12_key_10 (by decide) ?_
      exact KW.sub [0, 1, 2] rfl (hj3 1 x1 h)
    · skip
      refine k_iload_n o hb dX12_key_13 rfl 2 rfl ?_
      refine k_iconst (v := 1) o hb dX12_key_14 (by decide) ?_
      refine wJoin_elim (M := fun K => ∀  (x60 : HS), K  x60 → KW g 6 30 [(0, .q l0), (1, .i l1), (2, .i l2)] [.q l0] x60) h ?_ (fun j59 hj59 h => ?_)
      · skip
        intro  x60 h
        refine k_iconst (v := 2) o hb dX12_key_30 (by decide) ?_
        refine k_goto (tgt := 35) o hb dX12_key_31 (by decide) ?_
        exact KW.sub [0, 1, 2] rfl (hj3 2 x60 h)
      · skip
        refine k_icmp_lt (tgt := 30) o hb dX12_key_15 (by decide) h (fun h => ?_) (fun h => ?_)
        · skip
          exact KW.sub [0, 1, 2] rfl (hj59 x1 h)
        · skip
          refine k_iload_n o hb dX12_key_18 rfl 2 rfl ?_
          refine k_iconst (v := 1) o hb dX12_key_19 (by decide) ?_
          refine k_aload_n o hb dX12_key_20 rfl 0 rfl ?_
          refine k_getF (C := RX12) (T := TX12) (N := 57) o hb hts in12 hown rfl (by decide) 4 (by decide) rfl (hts (.fieldLink RX12 21 "FactKeeperModel" "columns" "[I") (by decide +kernel)) (fun _ h9 => h9) dX12_key_21 h (fun v61 h => ?_)
          refine k_iload_n o hb dX12_key_24 rfl 1 rfl ?_
          refine k_iald o hb dX12_key_25 h (fun v62 h => ?_)
          refine k_ishl o hb dX12_key_26 ?_
          refine k_icmp_lt (tgt := 34) o hb dX12_key_27 (by decide) h (fun h => ?_) (fun h => ?_)
          · skip
            refine k_iconst (v := 0) o hb dX12_key_34 (by decide) ?_
            exact KW.sub [0, 1, 2] rfl (hj3 0 x1 h)
          · skip
            exact KW.sub [0, 1, 2] rfl (hj59 x1 h)
