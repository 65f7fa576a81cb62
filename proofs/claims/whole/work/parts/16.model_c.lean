theorem dX10_builds_0 : decode cX10_builds 0 = .ok (.aload_n 0, 1) := by decide +kernel
theorem dX10_builds_1 : decode cX10_builds 1 = .ok (.getfield 7, 3) := by decide +kernel
theorem dX10_builds_4 : decode cX10_builds 4 = .ok (.bipush 6, 2) := by decide +kernel
theorem dX10_builds_6 : decode cX10_builds 6 = .ok (.iaload, 1) := by decide +kernel
theorem dX10_builds_7 : decode cX10_builds 7 = .ok (.aload_n 0, 1) := by decide +kernel
theorem dX10_builds_8 : decode cX10_builds 8 = .ok (.getfield 7, 3) := by decide +kernel
theorem dX10_builds_11 : decode cX10_builds 11 = .ok (.bipush 7, 2) := by decide +kernel
theorem dX10_builds_13 : decode cX10_builds 13 = .ok (.iaload, 1) := by decide +kernel
theorem dX10_builds_14 : decode cX10_builds 14 = .ok (.invokestatic 243, 3) := by decide +kernel
theorem dX10_builds_17 : decode cX10_builds 17 = .ok (.istore_n 1, 1) := by decide +kernel
theorem dX10_builds_18 : decode cX10_builds 18 = .ok (.aload_n 0, 1) := by decide +kernel
theorem dX10_builds_19 : decode cX10_builds 19 = .ok (.getfield 7, 3) := by decide +kernel
theorem dX10_builds_22 : decode cX10_builds 22 = .ok (.bipush 8, 2) := by decide +kernel
theorem dX10_builds_24 : decode cX10_builds 24 = .ok (.sipush 9999, 3) := by decide +kernel
theorem dX10_builds_27 : decode cX10_builds 27 = .ok (.aload_n 0, 1) := by decide +kernel
theorem dX10_builds_28 : decode cX10_builds 28 = .ok (.getfield 7, 3) := by decide +kernel
theorem dX10_builds_31 : decode cX10_builds 31 = .ok (.bipush 8, 2) := by decide +kernel
theorem dX10_builds_33 : decode cX10_builds 33 = .ok (.iaload, 1) := by decide +kernel
theorem dX10_builds_34 : decode cX10_builds 34 = .ok (.iload_n 1, 1) := by decide +kernel
theorem dX10_builds_35 : decode cX10_builds 35 = .ok (.iadd, 1) := by decide +kernel
theorem dX10_builds_36 : decode cX10_builds 36 = .ok (.invokestatic 243, 3) := by decide +kernel
theorem dX10_builds_39 : decode cX10_builds 39 = .ok (.iastore, 1) := by decide +kernel
theorem dX10_builds_40 : decode cX10_builds 40 = .ok (.aload_n 0, 1) := by decide +kernel
theorem dX10_builds_41 : decode cX10_builds 41 = .ok (.getfield 7, 3) := by decide +kernel
theorem dX10_builds_44 : decode cX10_builds 44 = .ok (.bipush 7, 2) := by decide +kernel
theorem dX10_builds_46 : decode cX10_builds 46 = .ok (.dup2, 1) := by decide +kernel
theorem dX10_builds_47 : decode cX10_builds 47 = .ok (.iaload, 1) := by decide +kernel
theorem dX10_builds_48 : decode cX10_builds 48 = .ok (.iload_n 1, 1) := by decide +kernel
theorem dX10_builds_49 : decode cX10_builds 49 = .ok (.isub, 1) := by decide +kernel
theorem dX10_builds_50 : decode cX10_builds 50 = .ok (.iastore, 1) := by decide +kernel
theorem dX10_builds_51 : decode cX10_builds 51 = .ok (.return_, 1) := by decide +kernel
def f_X10_builds (μ : Mem) : Option (Mem) := ix 6 704 (ix 7 704 ((f_X10_lesser (μ 0 13 (Int32.toNatClampNeg 6)) (μ 0 13 (Int32.toNatClampNeg 7))).bind fun (q1 : Int32) => ix 8 704 ((f_X10_lesser 9999 ((μ 0 13 (Int32.toNatClampNeg 8)) + q1)).bind fun (q2 : Int32) => ix 8 704 (nm (upm μ 0 13 (Int32.toNatClampNeg 8) q2) fun (μ3 : Mem) => ix 7 704 (ix 7 704 (nm (upm μ3 0 13 (Int32.toNatClampNeg 7) ((μ3 0 13 (Int32.toNatClampNeg 7)) - q1)) fun (μ4 : Mem) => some μ4))))))
set_option maxHeartbeats 4000000 in
set_option maxRecDepth 100000 in
theorem c_X10_builds (G : GG) (l : Launch) (μ : Mem) : CV G l yX10_builds (.code yX10_builds cX10_builds 2 none) 2 [.ref (gad G 0 12)] μ (f_X10_builds μ) := by
  refine CV.of (own := "SaturdayKeepModel") (L0 := [some (.ref (gad G 0 12)), none]) rfl rfl rfl (Nat.le_of_ble_eq_true rfl) (fun C hl hC => ?_)
  subst hl
  delta f_X10_builds
  refine aw_aload_n (pc := 0) (i := 0) hC dX10_builds_0 rfl rfl ?_
  refine aw_get (pc := 1) hC inX10 (v0 (j := 12) (by decide)) rfl rfl 1 (by decide) kw1315 rfl rfl dX10_builds_1 ?_
  refine aw_bipush (pc := 4) (v := 6) hC dX10_builds_4 bc6 ?_
  refine aw_iaload (pc := 6) hC (v0 (j := 13) (by decide)) rfl dX10_builds_6 ?_
  refine aw_aload_n (pc := 7) (i := 0) hC dX10_builds_7 rfl rfl ?_
  refine aw_get (pc := 8) hC inX10 (v0 (j := 12) (by decide)) rfl rfl 1 (by decide) kw1315 rfl rfl dX10_builds_8 ?_
  refine aw_bipush (pc := 11) (v := 7) hC dX10_builds_11 bc7 ?_
  refine aw_iaload (pc := 13) hC (v0 (j := 13) (by decide)) rfl dX10_builds_13 ?_
  refine aw_callSR (pc := 14) (As := [.int (μ 0 13 (Int32.toNatClampNeg 6)), .int (μ 0 13 (Int32.toNatClampNeg 7))]) hC ms_X10_lesser kw1648 (by decide) (c_X10_lesser G C.2.1   μ (μ 0 13 (Int32.toNatClampNeg 6)) (μ 0 13 (Int32.toNatClampNeg 7))) rfl (Nat.le_of_ble_eq_true rfl) dX10_builds_14 (fun q1 => ?_)
  refine aw_istore_n (pc := 17) (i := 1) hC dX10_builds_17 rfl rfl (by decide) ?_
  refine aw_aload_n (pc := 18) (i := 0) hC dX10_builds_18 rfl rfl ?_
  refine aw_get (pc := 19) hC inX10 (v0 (j := 12) (by decide)) rfl rfl 1 (by decide) kw1315 rfl rfl dX10_builds_19 ?_
  refine aw_bipush (pc := 22) (v := 8) hC dX10_builds_22 bc8 ?_
  refine aw_sipush (pc := 24) (v := 9999) hC dX10_builds_24 sc9999 ?_
  refine aw_aload_n (pc := 27) (i := 0) hC dX10_builds_27 rfl rfl ?_
  refine aw_get (pc := 28) hC inX10 (v0 (j := 12) (by decide)) rfl rfl 1 (by decide) kw1315 rfl rfl dX10_builds_28 ?_
  refine aw_bipush (pc := 31) (v := 8) hC dX10_builds_31 bc8 ?_
  refine aw_iaload (pc := 33) hC (v0 (j := 13) (by decide)) rfl dX10_builds_33 ?_
  refine aw_iload_n (pc := 34) (i := 1) hC dX10_builds_34 rfl rfl ?_
  refine aw_iadd (pc := 35) hC dX10_builds_35 ?_
  refine aw_callSR (pc := 36) (As := [.int 9999, .int ((μ 0 13 (Int32.toNatClampNeg 8)) + q1)]) hC ms_X10_lesser kw1648 (by decide) (c_X10_lesser G C.2.1   μ 9999 ((μ 0 13 (Int32.toNatClampNeg 8)) + q1)) rfl (Nat.le_of_ble_eq_true rfl) dX10_builds_36 (fun q2 => ?_)
  refine aw_iastoreN (pc := 39) hC (v0 (j := 13) (by decide)) (fun _ => rfl) dX10_builds_39 (fun μ3 => ?_)
  refine aw_aload_n (pc := 40) (i := 0) hC dX10_builds_40 rfl rfl ?_
  refine aw_get (pc := 41) hC inX10 (v0 (j := 12) (by decide)) rfl rfl 1 (by decide) kw1315 rfl rfl dX10_builds_41 ?_
  refine aw_bipush (pc := 44) (v := 7) hC dX10_builds_44 bc7 ?_
  refine aw_dup2 (pc := 46) hC dX10_builds_46 rfl rfl ?_
  refine aw_iaload (pc := 47) hC (v0 (j := 13) (by decide)) rfl dX10_builds_47 ?_
  refine aw_iload_n (pc := 48) (i := 1) hC dX10_builds_48 rfl rfl ?_
  refine aw_isub (pc := 49) hC dX10_builds_49 ?_
  refine aw_iastoreN (pc := 50) hC (v0 (j := 13) (by decide)) (fun _ => rfl) dX10_builds_50 (fun μ4 => ?_)
  exact aw_vret hC dX10_builds_51
theorem dX10_goes_0 : decode cX10_goes 0 = .ok (.aload_n 0, 1) := by decide +kernel
theorem dX10_goes_1 : decode cX10_goes 1 = .ok (.getfield 7, 3) := by decide +kernel
theorem dX10_goes_4 : decode cX10_goes 4 = .ok (.bipush 11, 2) := by decide +kernel
theorem dX10_goes_6 : decode cX10_goes 6 = .ok (.iaload, 1) := by decide +kernel
theorem dX10_goes_7 : decode cX10_goes 7 = .ok (.istore_n 3, 1) := by decide +kernel
theorem dX10_goes_8 : decode cX10_goes 8 = .ok (.iconst 0, 1) := by decide +kernel
theorem dX10_goes_9 : decode cX10_goes 9 = .ok (.istore 4, 2) := by decide +kernel
theorem dX10_goes_11 : decode cX10_goes 11 = .ok (.iload 4, 2) := by decide +kernel
theorem dX10_goes_13 : decode cX10_goes 13 = .ok (.iload_n 1, 1) := by decide +kernel
theorem dX10_goes_14 : decode cX10_goes 14 = .ok (.if_icmp .ge 235, 3) := by decide +kernel
theorem dX10_goes_17 : decode cX10_goes 17 = .ok (.iconst 0, 1) := by decide +kernel
theorem dX10_goes_18 : decode cX10_goes 18 = .ok (.istore 5, 2) := by decide +kernel
theorem dX10_goes_20 : decode cX10_goes 20 = .ok (.iload 5, 2) := by decide +kernel
theorem dX10_goes_22 : decode cX10_goes 22 = .ok (.aload_n 0, 1) := by decide +kernel
theorem dX10_goes_23 : decode cX10_goes 23 = .ok (.getfield 7, 3) := by decide +kernel
theorem dX10_goes_26 : decode cX10_goes 26 = .ok (.iconst 3, 1) := by decide +kernel
theorem dX10_goes_27 : decode cX10_goes 27 = .ok (.iaload, 1) := by decide +kernel
theorem dX10_goes_28 : decode cX10_goes 28 = .ok (.if_icmp .ge 48, 3) := by decide +kernel
theorem dX10_goes_31 : decode cX10_goes 31 = .ok (.aload_n 0, 1) := by decide +kernel
theorem dX10_goes_32 : decode cX10_goes 32 = .ok (.iload 5, 2) := by decide +kernel
theorem dX10_goes_34 : decode cX10_goes 34 = .ok (.invokevirtual 236, 3) := by decide +kernel
theorem dX10_goes_37 : decode cX10_goes 37 = .ok (.ifCond .eq 33, 3) := by decide +kernel
theorem dX10_goes_40 : decode cX10_goes 40 = .ok (.aload_n 0, 1) := by decide +kernel
theorem dX10_goes_41 : decode cX10_goes 41 = .ok (.iload 5, 2) := by decide +kernel
theorem dX10_goes_43 : decode cX10_goes 43 = .ok (.iconst 2, 1) := by decide +kernel
theorem dX10_goes_44 : decode cX10_goes 44 = .ok (.iconst 0, 1) := by decide +kernel
theorem dX10_goes_45 : decode cX10_goes 45 = .ok (.bipush 99, 2) := by decide +kernel
theorem dX10_goes_47 : decode cX10_goes 47 = .ok (.aload_n 0, 1) := by decide +kernel
theorem dX10_goes_48 : decode cX10_goes 48 = .ok (.iload 5, 2) := by decide +kernel
theorem dX10_goes_50 : decode cX10_goes 50 = .ok (.iconst 2, 1) := by decide +kernel
theorem dX10_goes_51 : decode cX10_goes 51 = .ok (.invokevirtual 49, 3) := by decide +kernel
theorem dX10_goes_54 : decode cX10_goes 54 = .ok (.aload_n 0, 1) := by decide +kernel
theorem dX10_goes_55 : decode cX10_goes 55 = .ok (.iload 5, 2) := by decide +kernel
theorem dX10_goes_57 : decode cX10_goes 57 = .ok (.invokevirtual 246, 3) := by decide +kernel
theorem dX10_goes_60 : decode cX10_goes 60 = .ok (.iadd, 1) := by decide +kernel
theorem dX10_goes_61 : decode cX10_goes 61 = .ok (.invokestatic 243, 3) := by decide +kernel
theorem dX10_goes_64 : decode cX10_goes 64 = .ok (.invokestatic 249, 3) := by decide +kernel
theorem dX10_goes_67 : decode cX10_goes 67 = .ok (.invokevirtual 114, 3) := by decide +kernel
theorem dX10_goes_70 : decode cX10_goes 70 = .ok (.iinc 5 1, 3) := by decide +kernel
theorem dX10_goes_73 : decode cX10_goes 73 = .ok (.goto (-53), 3) := by decide +kernel
theorem dX10_goes_76 : decode cX10_goes 76 = .ok (.iload_n 2, 1) := by decide +kernel
theorem dX10_goes_77 : decode cX10_goes 77 = .ok (.ifCond .eq 36, 3) := by decide +kernel
theorem dX10_goes_80 : decode cX10_goes 80 = .ok (.aload_n 0, 1) := by decide +kernel
theorem dX10_goes_81 : decode cX10_goes 81 = .ok (.aload_n 0, 1) := by decide +kernel
theorem dX10_goes_82 : decode cX10_goes 82 = .ok (.getfield 7, 3) := by decide +kernel
theorem dX10_goes_85 : decode cX10_goes 85 = .ok (.iconst 5, 1) := by decide +kernel
theorem dX10_goes_86 : decode cX10_goes 86 = .ok (.iaload, 1) := by decide +kernel
theorem dX10_goes_87 : decode cX10_goes 87 = .ok (.aload_n 0, 1) := by decide +kernel
theorem dX10_goes_88 : decode cX10_goes 88 = .ok (.getfield 7, 3) := by decide +kernel
theorem dX10_goes_91 : decode cX10_goes 91 = .ok (.bipush 10, 2) := by decide +kernel
theorem dX10_goes_93 : decode cX10_goes 93 = .ok (.iaload, 1) := by decide +kernel
theorem dX10_goes_94 : decode cX10_goes 94 = .ok (.invokevirtual 226, 3) := by decide +kernel
theorem dX10_goes_97 : decode cX10_goes 97 = .ok (.ifCond .eq 16, 3) := by decide +kernel
theorem dX10_goes_100 : decode cX10_goes 100 = .ok (.aload_n 0, 1) := by decide +kernel
theorem dX10_goes_101 : decode cX10_goes 101 = .ok (.aload_n 0, 1) := by decide +kernel
theorem dX10_goes_102 : decode cX10_goes 102 = .ok (.getfield 7, 3) := by decide +kernel
theorem dX10_goes_105 : decode cX10_goes 105 = .ok (.iconst 4, 1) := by decide +kernel
theorem dX10_goes_106 : decode cX10_goes 106 = .ok (.iaload, 1) := by decide +kernel
theorem dX10_goes_107 : decode cX10_goes 107 = .ok (.invokevirtual 252, 3) := by decide +kernel
theorem dX10_goes_110 : decode cX10_goes 110 = .ok (.goto 4, 3) := by decide +kernel
theorem dX10_goes_113 : decode cX10_goes 113 = .ok (.iconst 0, 1) := by decide +kernel
theorem dX10_goes_114 : decode cX10_goes 114 = .ok (.istore 5, 2) := by decide +kernel
theorem dX10_goes_116 : decode cX10_goes 116 = .ok (.iconst 0, 1) := by decide +kernel
theorem dX10_goes_117 : decode cX10_goes 117 = .ok (.istore 6, 2) := by decide +kernel
theorem dX10_goes_119 : decode cX10_goes 119 = .ok (.iload 6, 2) := by decide +kernel
theorem dX10_goes_121 : decode cX10_goes 121 = .ok (.aload_n 0, 1) := by decide +kernel
theorem dX10_goes_122 : decode cX10_goes 122 = .ok (.getfield 7, 3) := by decide +kernel
theorem dX10_goes_125 : decode cX10_goes 125 = .ok (.iconst 3, 1) := by decide +kernel
theorem dX10_goes_126 : decode cX10_goes 126 = .ok (.iaload, 1) := by decide +kernel
theorem dX10_goes_127 : decode cX10_goes 127 = .ok (.if_icmp .ge 40, 3) := by decide +kernel
theorem dX10_goes_130 : decode cX10_goes 130 = .ok (.iload 5, 2) := by decide +kernel
theorem dX10_goes_132 : decode cX10_goes 132 = .ok (.iload 6, 2) := by decide +kernel
theorem dX10_goes_134 : decode cX10_goes 134 = .ok (.invokestatic 53, 3) := by decide +kernel
theorem dX10_goes_137 : decode cX10_goes 137 = .ok (.ifCond .eq 24, 3) := by decide +kernel
theorem dX10_goes_140 : decode cX10_goes 140 = .ok (.aload_n 0, 1) := by decide +kernel
theorem dX10_goes_141 : decode cX10_goes 141 = .ok (.bipush 10, 2) := by decide +kernel
theorem dX10_goes_143 : decode cX10_goes 143 = .ok (.invokevirtual 255, 3) := by decide +kernel
theorem dX10_goes_146 : decode cX10_goes 146 = .ok (.aload_n 0, 1) := by decide +kernel
theorem dX10_goes_147 : decode cX10_goes 147 = .ok (.iload 6, 2) := by decide +kernel
theorem dX10_goes_149 : decode cX10_goes 149 = .ok (.invokevirtual 258, 3) := by decide +kernel
theorem dX10_goes_152 : decode cX10_goes 152 = .ok (.if_icmp .ge 9, 3) := by decide +kernel
theorem dX10_goes_155 : decode cX10_goes 155 = .ok (.aload_n 0, 1) := by decide +kernel
theorem dX10_goes_156 : decode cX10_goes 156 = .ok (.iload 6, 2) := by decide +kernel
theorem dX10_goes_158 : decode cX10_goes 158 = .ok (.invokevirtual 261, 3) := by decide +kernel
theorem dX10_goes_161 : decode cX10_goes 161 = .ok (.iinc 6 1, 3) := by decide +kernel
theorem dX10_goes_164 : decode cX10_goes 164 = .ok (.goto (-45), 3) := by decide +kernel
theorem dX10_goes_167 : decode cX10_goes 167 = .ok (.aload_n 0, 1) := by decide +kernel
theorem dX10_goes_168 : decode cX10_goes 168 = .ok (.invokevirtual 264, 3) := by decide +kernel
theorem dX10_goes_171 : decode cX10_goes 171 = .ok (.iload_n 2, 1) := by decide +kernel
theorem dX10_goes_172 : decode cX10_goes 172 = .ok (.ifCond .eq 49, 3) := by decide +kernel
theorem dX10_goes_175 : decode cX10_goes 175 = .ok (.aload_n 0, 1) := by decide +kernel
theorem dX10_goes_176 : decode cX10_goes 176 = .ok (.bipush 100, 2) := by decide +kernel
theorem dX10_goes_178 : decode cX10_goes 178 = .ok (.invokevirtual 255, 3) := by decide +kernel
theorem dX10_goes_181 : decode cX10_goes 181 = .ok (.aload_n 0, 1) := by decide +kernel
theorem dX10_goes_182 : decode cX10_goes 182 = .ok (.getfield 7, 3) := by decide +kernel
theorem dX10_goes_185 : decode cX10_goes 185 = .ok (.bipush 9, 2) := by decide +kernel
theorem dX10_goes_187 : decode cX10_goes 187 = .ok (.iaload, 1) := by decide +kernel
theorem dX10_goes_188 : decode cX10_goes 188 = .ok (.if_icmp .ge 33, 3) := by decide +kernel
theorem dX10_goes_191 : decode cX10_goes 191 = .ok (.aload_n 0, 1) := by decide +kernel
theorem dX10_goes_192 : decode cX10_goes 192 = .ok (.bipush 8, 2) := by decide +kernel
theorem dX10_goes_194 : decode cX10_goes 194 = .ok (.invokevirtual 255, 3) := by decide +kernel
theorem dX10_goes_197 : decode cX10_goes 197 = .ok (.istore 6, 2) := by decide +kernel
theorem dX10_goes_199 : decode cX10_goes 199 = .ok (.aload_n 0, 1) := by decide +kernel
theorem dX10_goes_200 : decode cX10_goes 200 = .ok (.getfield 7, 3) := by decide +kernel
theorem dX10_goes_203 : decode cX10_goes 203 = .ok (.bipush 16, 2) := by decide +kernel
theorem dX10_goes_205 : decode cX10_goes 205 = .ok (.iload 6, 2) := by decide +kernel
theorem dX10_goes_207 : decode cX10_goes 207 = .ok (.iadd, 1) := by decide +kernel
theorem dX10_goes_208 : decode cX10_goes 208 = .ok (.dup2, 1) := by decide +kernel
theorem dX10_goes_209 : decode cX10_goes 209 = .ok (.iaload, 1) := by decide +kernel
theorem dX10_goes_210 : decode cX10_goes 210 = .ok (.iconst 1, 1) := by decide +kernel
theorem dX10_goes_211 : decode cX10_goes 211 = .ok (.iload 6, 2) := by decide +kernel
theorem dX10_goes_213 : decode cX10_goes 213 = .ok (.iconst 1, 1) := by decide +kernel
theorem dX10_goes_214 : decode cX10_goes 214 = .ok (.iadd, 1) := by decide +kernel
theorem dX10_goes_215 : decode cX10_goes 215 = .ok (.bipush 8, 2) := by decide +kernel
theorem dX10_goes_217 : decode cX10_goes 217 = .ok (.irem, 1) := by decide +kernel
theorem dX10_goes_218 : decode cX10_goes 218 = .ok (.ishl, 1) := by decide +kernel
theorem dX10_goes_219 : decode cX10_goes 219 = .ok (.ior, 1) := by decide +kernel
theorem dX10_goes_220 : decode cX10_goes 220 = .ok (.iastore, 1) := by decide +kernel
theorem dX10_goes_221 : decode cX10_goes 221 = .ok (.aload_n 0, 1) := by decide +kernel
theorem dX10_goes_222 : decode cX10_goes 222 = .ok (.getfield 7, 3) := by decide +kernel
theorem dX10_goes_225 : decode cX10_goes 225 = .ok (.bipush 10, 2) := by decide +kernel
theorem dX10_goes_227 : decode cX10_goes 227 = .ok (.sipush 9999, 3) := by decide +kernel
theorem dX10_goes_230 : decode cX10_goes 230 = .ok (.aload_n 0, 1) := by decide +kernel
theorem dX10_goes_231 : decode cX10_goes 231 = .ok (.getfield 7, 3) := by decide +kernel
theorem dX10_goes_234 : decode cX10_goes 234 = .ok (.bipush 10, 2) := by decide +kernel
theorem dX10_goes_236 : decode cX10_goes 236 = .ok (.iaload, 1) := by decide +kernel
theorem dX10_goes_237 : decode cX10_goes 237 = .ok (.iconst 1, 1) := by decide +kernel
theorem dX10_goes_238 : decode cX10_goes 238 = .ok (.iadd, 1) := by decide +kernel
theorem dX10_goes_239 : decode cX10_goes 239 = .ok (.invokestatic 243, 3) := by decide +kernel
theorem dX10_goes_242 : decode cX10_goes 242 = .ok (.iastore, 1) := by decide +kernel
theorem dX10_goes_243 : decode cX10_goes 243 = .ok (.iinc 4 1, 3) := by decide +kernel
theorem dX10_goes_246 : decode cX10_goes 246 = .ok (.goto (-235), 3) := by decide +kernel
theorem dX10_goes_249 : decode cX10_goes 249 = .ok (.aload_n 0, 1) := by decide +kernel
theorem dX10_goes_250 : decode cX10_goes 250 = .ok (.getfield 7, 3) := by decide +kernel
theorem dX10_goes_253 : decode cX10_goes 253 = .ok (.bipush 11, 2) := by decide +kernel
theorem dX10_goes_255 : decode cX10_goes 255 = .ok (.iaload, 1) := by decide +kernel
theorem dX10_goes_256 : decode cX10_goes 256 = .ok (.iload_n 3, 1) := by decide +kernel
theorem dX10_goes_257 : decode cX10_goes 257 = .ok (.isub, 1) := by decide +kernel
theorem dX10_goes_258 : decode cX10_goes 258 = .ok (.ireturn, 1) := by decide +kernel
def lp_X10_goes_20 (k76 : Mem → Option (Int32 × Mem)) : Nat → Int32 → Mem → Option (Int32 × Mem)
  | 0, _, _ => none
  | n + 1, x6, μ7 => ix 3 704 (if (μ7 0 13 (Int32.toNatClampNeg 3)) ≤ x6 then (k76 μ7) else ((f_X10_isHere μ7 x6).bind fun (q8 : Int32) => if q8 = 0 then (lp_X10_goes_20 k76 n (x6 + 1) μ7) else ((f_X10_of μ7 x6 2).bind fun (q9 : Int32) => (f_X10_turnsBy μ7 x6).bind fun (q10 : Int32 × Mem) => (f_X10_lesser 99 (q9 + q10.1)).bind fun (q11 : Int32) => (f_X10_greater 0 q11).bind fun (q12 : Int32) => (f_X10_put q10.2 x6 2 q12).bind fun (q13 : Mem) => lp_X10_goes_20 k76 n (x6 + 1) q13)))
def lp_X10_goes_119 (x14 : Int32) (k167 : Mem → Option (Int32 × Mem)) : Nat → Int32 → Mem → Option (Int32 × Mem)
  | 0, _, _ => none
  | n + 1, x16, μ17 => ix 3 704 (if (μ17 0 13 (Int32.toNatClampNeg 3)) ≤ x16 then (k167 μ17) else ((f_X10_isOf x14 x16).bind fun (q18 : Int32) => if q18 = 0 then (lp_X10_goes_119 x14 k167 n (x16 + 1) μ17) else ((f_X10_draw μ17 10).bind fun (q19 : Int32 × Mem) => (f_X10_risk q19.2 x16).bind fun (q20 : Int32) => if q20 ≤ q19.1 then (lp_X10_goes_119 x14 k167 n (x16 + 1) q19.2) else ((f_X10_looks q19.2 x16).bind fun (q21 : Mem) => lp_X10_goes_119 x14 k167 n (x16 + 1) q21))))
def lp_X10_goes_11 (a1 : Int32) (a2 : Int32) (k249 : Mem → Option (Int32 × Mem)) : Nat → Int32 → Mem → Option (Int32 × Mem)
  | 0, _, _ => none
  | n + 1, x3, μ4 => if a1 ≤ x3 then (k249 μ4) else (lp_X10_goes_20 (fun (μ5 : Mem) => nm (fun (x14 : Int32) => lp_X10_goes_119 x14 (fun (μ15 : Mem) => (f_X10_builds μ15).bind fun (q22 : Mem) => nm (fun (μ23 : Mem) => ix 10 704 ((f_X10_lesser 9999 ((μ23 0 13 (Int32.toNatClampNeg 10)) + 1)).bind fun (q24 : Int32) => ix 10 704 (nm (upm μ23 0 13 (Int32.toNatClampNeg 10) q24) fun (μ25 : Mem) => lp_X10_goes_11 a1 a2 k249 n (x3 + 1) μ25))) fun (J221 : Mem → Option (Int32 × Mem)) => if a2 = 0 then (J221 q22) else ((f_X10_draw q22 100).bind fun (q26 : Int32 × Mem) => ix 9 704 (if (q26.2 0 13 (Int32.toNatClampNeg 9)) ≤ q26.1 then (J221 q26.2) else ((f_X10_draw q26.2 8).bind fun (q27 : Int32 × Mem) => ix (16 + q27.1) 704 (ix (16 + q27.1) 704 (nm (upm q27.2 0 13 (16 + q27.1).toNatClampNeg ((q27.2 0 13 (16 + q27.1).toNatClampNeg) ||| (jshl 1 (jrem (q27.1 + 1) 8)))) fun (μ28 : Mem) => J221 μ28)))))) 4096 0 μ5) fun (J114 : Int32 → Option (Int32 × Mem)) => nm (J114 0) fun (J113 : Option (Int32 × Mem)) => if a2 = 0 then (J113) else (ix 5 704 (ix 10 704 ((f_X10_isSaturday μ5 (μ5 0 13 (Int32.toNatClampNeg 5)) (μ5 0 13 (Int32.toNatClampNeg 10))).bind fun (q29 : Int32) => if q29 = 0 then (J113) else (ix 4 704 ((f_X10_watchers μ5 (μ5 0 13 (Int32.toNatClampNeg 4))).bind fun (q30 : Int32) => J114 q30)))))) 4096 0 μ4)
def f_X10_goes (μ : Mem) (a1 : Int32) (a2 : Int32) : Option (Int32 × Mem) := ix 11 704 (nm (μ 0 13 (Int32.toNatClampNeg 11)) fun (x1 : Int32) => lp_X10_goes_11 a1 a2 (fun (μ2 : Mem) => ix 11 704 (some (((μ2 0 13 (Int32.toNatClampNeg 11)) - x1), μ2))) 4096 0 μ)
set_option maxHeartbeats 4000000 in
set_option maxRecDepth 100000 in
theorem c_X10_goes (G : GG) (l : Launch) (μ : Mem) (a1 : Int32) (a2 : Int32) : CI G l yX10_goes (.code yX10_goes cX10_goes 7 (some .int)) 58 [.ref (gad G 0 12), .int a1, .int a2] μ (f_X10_goes μ a1 a2) := by
  refine CI.of (own := "SaturdayKeepModel") (L0 := [some (.ref (gad G 0 12)), some (.int a1), some (.int a2), none, none, none, none]) rfl rfl rfl (Nat.le_of_ble_eq_true rfl) (fun C hl hC => ?_)
  subst hl
  delta f_X10_goes
  refine aw_aload_n (pc := 0) (i := 0) hC dX10_goes_0 rfl rfl ?_
  refine aw_get (pc := 1) hC inX10 (v0 (j := 12) (by decide)) rfl rfl 1 (by decide) kw1315 rfl rfl dX10_goes_1 ?_
  refine aw_bipush (pc := 4) (v := 11) hC dX10_goes_4 bc11 ?_
  refine aw_iaload (pc := 6) hC (v0 (j := 13) (by decide)) rfl dX10_goes_6 ?_
  refine aw_nmI (fun x1 _ => ?_)
  refine aw_istore_n (pc := 7) (i := 3) hC dX10_goes_7 rfl rfl (by decide) ?_
  refine aw_iconst (pc := 8) (v := 0) hC dX10_goes_8 ic0 ?_
  refine aw_istore (pc := 9) hC dX10_goes_9 rfl (by decide) ?_
  have hL11 : ∀ (k249 : Mem → Option (Int32 × Mem)) (hk249 : ∀ (μ2 : Mem), AW G C (qI G C 0 0) 0 0 7 μ2 249 [some (.ref (gad G 0 12)), none, none, some (.int x1), none, none, none] [] (k249 μ2)) (n : Nat) (x3 : Int32) (μ4 : Mem), AW G C (qI G C 0 0) 0 0 7 μ4 11 [some (.ref (gad G 0 12)), some (.int a1), some (.int a2), some (.int x1), some (.int x3), none, none] [] (lp_X10_goes_11 a1 a2 k249 n x3 μ4) := by
    intro k249 hk249 n
    induction n with
    | zero => intro x3 μ4; exact aw_none
    | succ n ih =>
      intro x3 μ4
      rw [lp_X10_goes_11]
      refine aw_iload (pc := 11) hC dX10_goes_11 rfl ?_
      refine aw_iload_n (pc := 13) (i := 1) hC dX10_goes_13 rfl rfl ?_
      refine aw_icmp_ge (pc := 14) (tgt := 249) hC dX10_goes_14 (by decide) (fun _ => ?_) (fun _ => ?_)
      · skip
        exact aw_drop [1, 2, 4] (hk249 μ4)
      · skip
        refine aw_iconst (pc := 17) (v := 0) hC dX10_goes_17 ic0 ?_
        refine aw_istore (pc := 18) hC dX10_goes_18 rfl (by decide) ?_
        have hL20 : ∀ (k76 : Mem → Option (Int32 × Mem)) (hk76 : ∀ (μ5 : Mem), AW G C (qI G C 0 0) 0 0 7 μ5 76 [some (.ref (gad G 0 12)), some (.int a1), some (.int a2), some (.int x1), some (.int x3), none, none] [] (k76 μ5)) (n : Nat) (x6 : Int32) (μ7 : Mem), AW G C (qI G C 0 0) 0 0 7 μ7 20 [some (.ref (gad G 0 12)), some (.int a1), some (.int a2), some (.int x1), some (.int x3), some (.int x6), none] [] (lp_X10_goes_20 k76 n x6 μ7) := by
          intro k76 hk76 n
          induction n with
          | zero => intro x6 μ7; exact aw_none
          | succ n ih =>
            intro x6 μ7
            rw [lp_X10_goes_20]
            refine aw_iload (pc := 20) hC dX10_goes_20 rfl ?_
            refine aw_aload_n (pc := 22) (i := 0) hC dX10_goes_22 rfl rfl ?_
            refine aw_get (pc := 23) hC inX10 (v0 (j := 12) (by decide)) rfl rfl 1 (by decide) kw1315 rfl rfl dX10_goes_23 ?_
            refine aw_iconst (pc := 26) (v := 3) hC dX10_goes_26 ic3 ?_
            refine aw_iaload (pc := 27) hC (v0 (j := 13) (by decide)) rfl dX10_goes_27 ?_
            refine aw_icmp_ge (pc := 28) (tgt := 76) hC dX10_goes_28 (by decide) (fun _ => ?_) (fun _ => ?_)
            · skip
              exact aw_drop [5] (hk76 μ7)
            · skip
              refine aw_aload_n (pc := 31) (i := 0) hC dX10_goes_31 rfl rfl ?_
              refine aw_iload (pc := 32) hC dX10_goes_32 rfl ?_
              refine aw_callVR (pc := 34) (As := [.int x6]) hC mb_X10_isHere kw1558 (by decide) (c_X10_isHere G C.2.1   μ7 x6) (v0 (j := 12) (by decide)) rfl rfl rfl (Nat.le_of_ble_eq_true rfl) dX10_goes_34 (fun q8 => ?_)
              refine aw_if_eq (pc := 37) (tgt := 70) hC dX10_goes_37 (by decide) (fun _ => ?_) (fun _ => ?_)
              · skip
                refine aw_iinc (pc := 70) (v := x6 + 1) hC dX10_goes_70 rfl (congrArg (HAdd.hAdd _) ic1) rfl (by decide) ?_
                refine aw_goto (pc := 73) (tgt := 20) hC dX10_goes_73 (by decide) ?_
                exact ih (x6 + 1) μ7
              · skip
                refine aw_aload_n (pc := 40) (i := 0) hC dX10_goes_40 rfl rfl ?_
                refine aw_iload (pc := 41) hC dX10_goes_41 rfl ?_
                refine aw_iconst (pc := 43) (v := 2) hC dX10_goes_43 ic2 ?_
                refine aw_iconst (pc := 44) (v := 0) hC dX10_goes_44 ic0 ?_
                refine aw_bipush (pc := 45) (v := 99) hC dX10_goes_45 bc99 ?_
                refine aw_aload_n (pc := 47) (i := 0) hC dX10_goes_47 rfl rfl ?_
                refine aw_iload (pc := 48) hC dX10_goes_48 rfl ?_
                refine aw_iconst (pc := 50) (v := 2) hC dX10_goes_50 ic2 ?_
                refine aw_callVR (pc := 51) (As := [.int x6, .int 2]) hC mb_X10_of kw1539 (by decide) (c_X10_of G C.2.1   μ7 x6 2) (v0 (j := 12) (by decide)) rfl rfl rfl (Nat.le_of_ble_eq_true rfl) dX10_goes_51 (fun q9 => ?_)
                refine aw_aload_n (pc := 54) (i := 0) hC dX10_goes_54 rfl rfl ?_
                refine aw_iload (pc := 55) hC dX10_goes_55 rfl ?_
                refine aw_callVI (pc := 57) (As := [.int x6]) hC mb_X10_turnsBy kw1547 (by decide) (c_X10_turnsBy G C.2.1   μ7 x6) (v0 (j := 12) (by decide)) rfl rfl rfl (Nat.le_of_ble_eq_true rfl) dX10_goes_57 (fun q10 => ?_)
                refine aw_iadd (pc := 60) hC dX10_goes_60 ?_
                refine aw_callSR (pc := 61) (As := [.int 99, .int (q9 + q10.1)]) hC ms_X10_lesser kw1648 (by decide) (c_X10_lesser G C.2.1   q10.2 99 (q9 + q10.1)) rfl (Nat.le_of_ble_eq_true rfl) dX10_goes_61 (fun q11 => ?_)
                refine aw_callSR (pc := 64) (As := [.int 0, .int q11]) hC ms_X10_greater kw1663 (by decide) (c_X10_greater G C.2.1   q10.2 0 q11) rfl (Nat.le_of_ble_eq_true rfl) dX10_goes_64 (fun q12 => ?_)
                refine aw_callVV (pc := 67) (As := [.int x6, .int 2, .int q12]) hC mb_X10_put kw1499 (by decide) (c_X10_put G C.2.1   q10.2 x6 2 q12) (v0 (j := 12) (by decide)) rfl rfl rfl (Nat.le_of_ble_eq_true rfl) dX10_goes_67 (fun q13 => ?_)
                refine aw_iinc (pc := 70) (v := x6 + 1) hC dX10_goes_70 rfl (congrArg (HAdd.hAdd _) ic1) rfl (by decide) ?_
                refine aw_goto (pc := 73) (tgt := 20) hC dX10_goes_73 (by decide) ?_
                exact ih (x6 + 1) q13
        refine hL20 (fun (μ5 : Mem) => nm (fun (x14 : Int32) => lp_X10_goes_119 x14 (fun (μ15 : Mem) => (f_X10_builds μ15).bind fun (q22 : Mem) => nm (fun (μ23 : Mem) => ix 10 704 ((f_X10_lesser 9999 ((μ23 0 13 (Int32.toNatClampNeg 10)) + 1)).bind fun (q24 : Int32) => ix 10 704 (nm (upm μ23 0 13 (Int32.toNatClampNeg 10) q24) fun (μ25 : Mem) => lp_X10_goes_11 a1 a2 k249 n (x3 + 1) μ25))) fun (J221 : Mem → Option (Int32 × Mem)) => if a2 = 0 then (J221 q22) else ((f_X10_draw q22 100).bind fun (q26 : Int32 × Mem) => ix 9 704 (if (q26.2 0 13 (Int32.toNatClampNeg 9)) ≤ q26.1 then (J221 q26.2) else ((f_X10_draw q26.2 8).bind fun (q27 : Int32 × Mem) => ix (16 + q27.1) 704 (ix (16 + q27.1) 704 (nm (upm q27.2 0 13 (16 + q27.1).toNatClampNeg ((q27.2 0 13 (16 + q27.1).toNatClampNeg) ||| (jshl 1 (jrem (q27.1 + 1) 8)))) fun (μ28 : Mem) => J221 μ28)))))) 4096 0 μ5) fun (J114 : Int32 → Option (Int32 × Mem)) => nm (J114 0) fun (J113 : Option (Int32 × Mem)) => if a2 = 0 then (J113) else (ix 5 704 (ix 10 704 ((f_X10_isSaturday μ5 (μ5 0 13 (Int32.toNatClampNeg 5)) (μ5 0 13 (Int32.toNatClampNeg 10))).bind fun (q29 : Int32) => if q29 = 0 then (J113) else (ix 4 704 ((f_X10_watchers μ5 (μ5 0 13 (Int32.toNatClampNeg 4))).bind fun (q30 : Int32) => J114 q30)))))) (fun μ5 => ?_) 4096 0 μ4
        · skip
          refine aw_iload_n (pc := 76) (i := 2) hC dX10_goes_76 rfl rfl ?_
          refine aw_nmJ (fun (J114 : Int32 → Option (Int32 × Mem)) => ∀ (x14 : Int32), AW G C (qI G C 0 0) 0 0 7 μ5 114 [some (.ref (gad G 0 12)), some (.int a1), some (.int a2), some (.int x1), some (.int x3), none, none] [.int x14] (J114 x14)) (fun x14 => ?_) (fun J114 hJ114 => ?_)
          · skip
            refine aw_istore (pc := 114) hC dX10_goes_114 rfl (by decide) ?_
            refine aw_iconst (pc := 116) (v := 0) hC dX10_goes_116 ic0 ?_
            refine aw_istore (pc := 117) hC dX10_goes_117 rfl (by decide) ?_
            have hL119 : ∀ (k167 : Mem → Option (Int32 × Mem)) (hk167 : ∀ (μ15 : Mem), AW G C (qI G C 0 0) 0 0 7 μ15 167 [some (.ref (gad G 0 12)), some (.int a1), some (.int a2), some (.int x1), some (.int x3), none, none] [] (k167 μ15)) (n : Nat) (x16 : Int32) (μ17 : Mem), AW G C (qI G C 0 0) 0 0 7 μ17 119 [some (.ref (gad G 0 12)), some (.int a1), some (.int a2), some (.int x1), some (.int x3), some (.int x14), some (.int x16)] [] (lp_X10_goes_119 x14 k167 n x16 μ17) := by
              intro k167 hk167 n
              induction n with
              | zero => intro x16 μ17; exact aw_none
              | succ n ih =>
                intro x16 μ17
                rw [lp_X10_goes_119]
                refine aw_iload (pc := 119) hC dX10_goes_119 rfl ?_
                refine aw_aload_n (pc := 121) (i := 0) hC dX10_goes_121 rfl rfl ?_
                refine aw_get (pc := 122) hC inX10 (v0 (j := 12) (by decide)) rfl rfl 1 (by decide) kw1315 rfl rfl dX10_goes_122 ?_
                refine aw_iconst (pc := 125) (v := 3) hC dX10_goes_125 ic3 ?_
                refine aw_iaload (pc := 126) hC (v0 (j := 13) (by decide)) rfl dX10_goes_126 ?_
                refine aw_icmp_ge (pc := 127) (tgt := 167) hC dX10_goes_127 (by decide) (fun _ => ?_) (fun _ => ?_)
                · skip
                  exact aw_drop [5, 6] (hk167 μ17)
                · skip
                  refine aw_iload (pc := 130) hC dX10_goes_130 rfl ?_
                  refine aw_iload (pc := 132) hC dX10_goes_132 rfl ?_
                  refine aw_callSR (pc := 134) (As := [.int x14, .int x16]) hC ms_X10_isOf kw1578 (by decide) (c_X10_isOf G C.2.1   μ17 x14 x16) rfl (Nat.le_of_ble_eq_true rfl) dX10_goes_134 (fun q18 => ?_)
                  refine aw_if_eq (pc := 137) (tgt := 161) hC dX10_goes_137 (by decide) (fun _ => ?_) (fun _ => ?_)
                  · skip
                    refine aw_iinc (pc := 161) (v := x16 + 1) hC dX10_goes_161 rfl (congrArg (HAdd.hAdd _) ic1) rfl (by decide) ?_
                    refine aw_goto (pc := 164) (tgt := 119) hC dX10_goes_164 (by decide) ?_
                    exact ih (x16 + 1) μ17
                  · skip
                    refine aw_aload_n (pc := 140) (i := 0) hC dX10_goes_140 rfl rfl ?_
                    refine aw_bipush (pc := 141) (v := 10) hC dX10_goes_141 bc10 ?_
                    refine aw_callVI (pc := 143) (As := [.int 10]) hC mb_X10_draw kw1666 (by decide) (c_X10_draw G C.2.1   μ17 10) (v0 (j := 12) (by decide)) rfl rfl rfl (Nat.le_of_ble_eq_true rfl) dX10_goes_143 (fun q19 => ?_)
                    refine aw_aload_n (pc := 146) (i := 0) hC dX10_goes_146 rfl rfl ?_
                    refine aw_iload (pc := 147) hC dX10_goes_147 rfl ?_
                    refine aw_callVR (pc := 149) (As := [.int x16]) hC mb_X10_risk kw1543 (by decide) (c_X10_risk G C.2.1   q19.2 x16) (v0 (j := 12) (by decide)) rfl rfl rfl (Nat.le_of_ble_eq_true rfl) dX10_goes_149 (fun q20 => ?_)
                    refine aw_icmp_ge (pc := 152) (tgt := 161) hC dX10_goes_152 (by decide) (fun _ => ?_) (fun _ => ?_)
                    · skip
                      refine aw_iinc (pc := 161) (v := x16 + 1) hC dX10_goes_161 rfl (congrArg (HAdd.hAdd _) ic1) rfl (by decide) ?_
                      refine aw_goto (pc := 164) (tgt := 119) hC dX10_goes_164 (by decide) ?_
                      exact ih (x16 + 1) q19.2
                    · skip
                      refine aw_aload_n (pc := 155) (i := 0) hC dX10_goes_155 rfl rfl ?_
                      refine aw_iload (pc := 156) hC dX10_goes_156 rfl ?_
                      refine aw_callVV (pc := 158) (As := [.int x16]) hC mb_X10_looks kw1671 (by decide) (c_X10_looks G C.2.1   q19.2 x16) (v0 (j := 12) (by decide)) rfl rfl rfl (Nat.le_of_ble_eq_true rfl) dX10_goes_158 (fun q21 => ?_)
                      refine aw_iinc (pc := 161) (v := x16 + 1) hC dX10_goes_161 rfl (congrArg (HAdd.hAdd _) ic1) rfl (by decide) ?_
                      refine aw_goto (pc := 164) (tgt := 119) hC dX10_goes_164 (by decide) ?_
                      exact ih (x16 + 1) q21
            refine hL119 (fun (μ15 : Mem) => (f_X10_builds μ15).bind fun (q22 : Mem) => nm (fun (μ23 : Mem) => ix 10 704 ((f_X10_lesser 9999 ((μ23 0 13 (Int32.toNatClampNeg 10)) + 1)).bind fun (q24 : Int32) => ix 10 704 (nm (upm μ23 0 13 (Int32.toNatClampNeg 10) q24) fun (μ25 : Mem) => lp_X10_goes_11 a1 a2 k249 n (x3 + 1) μ25))) fun (J221 : Mem → Option (Int32 × Mem)) => if a2 = 0 then (J221 q22) else ((f_X10_draw q22 100).bind fun (q26 : Int32 × Mem) => ix 9 704 (if (q26.2 0 13 (Int32.toNatClampNeg 9)) ≤ q26.1 then (J221 q26.2) else ((f_X10_draw q26.2 8).bind fun (q27 : Int32 × Mem) => ix (16 + q27.1) 704 (ix (16 + q27.1) 704 (nm (upm q27.2 0 13 (16 + q27.1).toNatClampNeg ((q27.2 0 13 (16 + q27.1).toNatClampNeg) ||| (jshl 1 (jrem (q27.1 + 1) 8)))) fun (μ28 : Mem) => J221 μ28)))))) (fun μ15 => ?_) 4096 0 μ5
            · skip
              refine aw_aload_n (pc := 167) (i := 0) hC dX10_goes_167 rfl rfl ?_
              refine aw_callVV (pc := 168) (As := []) hC mb_X10_builds kw1675 (by decide) (c_X10_builds G C.2.1   μ15 ) (v0 (j := 12) (by decide)) rfl rfl rfl (Nat.le_of_ble_eq_true rfl) dX10_goes_168 (fun q22 => ?_)
              refine aw_iload_n (pc := 171) (i := 2) hC dX10_goes_171 rfl rfl ?_
              refine aw_nmJ (fun (J221 : Mem → Option (Int32 × Mem)) => ∀ (μ23 : Mem), AW G C (qI G C 0 0) 0 0 7 μ23 221 [some (.ref (gad G 0 12)), some (.int a1), some (.int a2), some (.int x1), some (.int x3), none, none] [] (J221 μ23)) (fun μ23 => ?_) (fun J221 hJ221 => ?_)
              · skip
                refine aw_aload_n (pc := 221) (i := 0) hC dX10_goes_221 rfl rfl ?_
                refine aw_get (pc := 222) hC inX10 (v0 (j := 12) (by decide)) rfl rfl 1 (by decide) kw1315 rfl rfl dX10_goes_222 ?_
                refine aw_bipush (pc := 225) (v := 10) hC dX10_goes_225 bc10 ?_
                refine aw_sipush (pc := 227) (v := 9999) hC dX10_goes_227 sc9999 ?_
                refine aw_aload_n (pc := 230) (i := 0) hC dX10_goes_230 rfl rfl ?_
                refine aw_get (pc := 231) hC inX10 (v0 (j := 12) (by decide)) rfl rfl 1 (by decide) kw1315 rfl rfl dX10_goes_231 ?_
                refine aw_bipush (pc := 234) (v := 10) hC dX10_goes_234 bc10 ?_
                refine aw_iaload (pc := 236) hC (v0 (j := 13) (by decide)) rfl dX10_goes_236 ?_
                refine aw_iconst (pc := 237) (v := 1) hC dX10_goes_237 ic1 ?_
                refine aw_iadd (pc := 238) hC dX10_goes_238 ?_
                refine aw_callSR (pc := 239) (As := [.int 9999, .int ((μ23 0 13 (Int32.toNatClampNeg 10)) + 1)]) hC ms_X10_lesser kw1648 (by decide) (c_X10_lesser G C.2.1   μ23 9999 ((μ23 0 13 (Int32.toNatClampNeg 10)) + 1)) rfl (Nat.le_of_ble_eq_true rfl) dX10_goes_239 (fun q24 => ?_)
                refine aw_iastoreN (pc := 242) hC (v0 (j := 13) (by decide)) (fun _ => rfl) dX10_goes_242 (fun μ25 => ?_)
                refine aw_iinc (pc := 243) (v := x3 + 1) hC dX10_goes_243 rfl (congrArg (HAdd.hAdd _) ic1) rfl (by decide) ?_
                refine aw_goto (pc := 246) (tgt := 11) hC dX10_goes_246 (by decide) ?_
                exact ih (x3 + 1) μ25
              · skip
                refine aw_if_eq (pc := 172) (tgt := 221) hC dX10_goes_172 (by decide) (fun _ => ?_) (fun _ => ?_)
                · skip
                  exact hJ221 q22
                · skip
                  refine aw_aload_n (pc := 175) (i := 0) hC dX10_goes_175 rfl rfl ?_
                  refine aw_bipush (pc := 176) (v := 100) hC dX10_goes_176 bc100 ?_
                  refine aw_callVI (pc := 178) (As := [.int 100]) hC mb_X10_draw kw1666 (by decide) (c_X10_draw G C.2.1   q22 100) (v0 (j := 12) (by decide)) rfl rfl rfl (Nat.le_of_ble_eq_true rfl) dX10_goes_178 (fun q26 => ?_)
                  refine aw_aload_n (pc := 181) (i := 0) hC dX10_goes_181 rfl rfl ?_
                  refine aw_get (pc := 182) hC inX10 (v0 (j := 12) (by decide)) rfl rfl 1 (by decide) kw1315 rfl rfl dX10_goes_182 ?_
                  refine aw_bipush (pc := 185) (v := 9) hC dX10_goes_185 bc9 ?_
                  refine aw_iaload (pc := 187) hC (v0 (j := 13) (by decide)) rfl dX10_goes_187 ?_
                  refine aw_icmp_ge (pc := 188) (tgt := 221) hC dX10_goes_188 (by decide) (fun _ => ?_) (fun _ => ?_)
                  · skip
                    exact hJ221 q26.2
                  · skip
                    refine aw_aload_n (pc := 191) (i := 0) hC dX10_goes_191 rfl rfl ?_
                    refine aw_bipush (pc := 192) (v := 8) hC dX10_goes_192 bc8 ?_
                    refine aw_callVI (pc := 194) (As := [.int 8]) hC mb_X10_draw kw1666 (by decide) (c_X10_draw G C.2.1   q26.2 8) (v0 (j := 12) (by decide)) rfl rfl rfl (Nat.le_of_ble_eq_true rfl) dX10_goes_194 (fun q27 => ?_)
                    refine aw_istore (pc := 197) hC dX10_goes_197 rfl (by decide) ?_
                    refine aw_aload_n (pc := 199) (i := 0) hC dX10_goes_199 rfl rfl ?_
                    refine aw_get (pc := 200) hC inX10 (v0 (j := 12) (by decide)) rfl rfl 1 (by decide) kw1315 rfl rfl dX10_goes_200 ?_
                    refine aw_bipush (pc := 203) (v := 16) hC dX10_goes_203 bc16 ?_
                    refine aw_iload (pc := 205) hC dX10_goes_205 rfl ?_
                    refine aw_iadd (pc := 207) hC dX10_goes_207 ?_
                    refine aw_dup2 (pc := 208) hC dX10_goes_208 rfl rfl ?_
                    refine aw_iaload (pc := 209) hC (v0 (j := 13) (by decide)) rfl dX10_goes_209 ?_
                    refine aw_iconst (pc := 210) (v := 1) hC dX10_goes_210 ic1 ?_
                    refine aw_iload (pc := 211) hC dX10_goes_211 rfl ?_
                    refine aw_iconst (pc := 213) (v := 1) hC dX10_goes_213 ic1 ?_
                    refine aw_iadd (pc := 214) hC dX10_goes_214 ?_
                    refine aw_bipush (pc := 215) (v := 8) hC dX10_goes_215 bc8 ?_
                    refine aw_irem (pc := 217) hC dX10_goes_217 (by decide) ?_
                    refine aw_ishl (pc := 218) hC dX10_goes_218 ?_
                    refine aw_ior (pc := 219) hC dX10_goes_219 ?_
                    refine aw_iastoreN (pc := 220) hC (v0 (j := 13) (by decide)) (fun _ => rfl) dX10_goes_220 (fun μ28 => ?_)
                    exact aw_drop [6] (hJ221 μ28)
          · skip
            refine aw_nmJ (fun (J113 : Option (Int32 × Mem)) => AW G C (qI G C 0 0) 0 0 7 μ5 113 [some (.ref (gad G 0 12)), some (.int a1), some (.int a2), some (.int x1), some (.int x3), none, none] [] (J113)) ?_ (fun J113 hJ113 => ?_)
            · skip
              refine aw_iconst (pc := 113) (v := 0) hC dX10_goes_113 ic0 ?_
              exact hJ114 0
            · skip
              refine aw_if_eq (pc := 77) (tgt := 113) hC dX10_goes_77 (by decide) (fun _ => ?_) (fun _ => ?_)
              · skip
                exact hJ113
              · skip
                refine aw_aload_n (pc := 80) (i := 0) hC dX10_goes_80 rfl rfl ?_
                refine aw_aload_n (pc := 81) (i := 0) hC dX10_goes_81 rfl rfl ?_
                refine aw_get (pc := 82) hC inX10 (v0 (j := 12) (by decide)) rfl rfl 1 (by decide) kw1315 rfl rfl dX10_goes_82 ?_
                refine aw_iconst (pc := 85) (v := 5) hC dX10_goes_85 ic5 ?_
                refine aw_iaload (pc := 86) hC (v0 (j := 13) (by decide)) rfl dX10_goes_86 ?_
                refine aw_aload_n (pc := 87) (i := 0) hC dX10_goes_87 rfl rfl ?_
                refine aw_get (pc := 88) hC inX10 (v0 (j := 12) (by decide)) rfl rfl 1 (by decide) kw1315 rfl rfl dX10_goes_88 ?_
                refine aw_bipush (pc := 91) (v := 10) hC dX10_goes_91 bc10 ?_
                refine aw_iaload (pc := 93) hC (v0 (j := 13) (by decide)) rfl dX10_goes_93 ?_
                refine aw_callVR (pc := 94) (As := [.int (μ5 0 13 (Int32.toNatClampNeg 5)), .int (μ5 0 13 (Int32.toNatClampNeg 10))]) hC mb_X10_isSaturday kw1554 (by decide) (c_X10_isSaturday G C.2.1   μ5 (μ5 0 13 (Int32.toNatClampNeg 5)) (μ5 0 13 (Int32.toNatClampNeg 10))) (v0 (j := 12) (by decide)) rfl rfl rfl (Nat.le_of_ble_eq_true rfl) dX10_goes_94 (fun q29 => ?_)
                refine aw_if_eq (pc := 97) (tgt := 113) hC dX10_goes_97 (by decide) (fun _ => ?_) (fun _ => ?_)
                · skip
                  exact hJ113
                · skip
                  refine aw_aload_n (pc := 100) (i := 0) hC dX10_goes_100 rfl rfl ?_
                  refine aw_aload_n (pc := 101) (i := 0) hC dX10_goes_101 rfl rfl ?_
                  refine aw_get (pc := 102) hC inX10 (v0 (j := 12) (by decide)) rfl rfl 1 (by decide) kw1315 rfl rfl dX10_goes_102 ?_
                  refine aw_iconst (pc := 105) (v := 4) hC dX10_goes_105 ic4 ?_
                  refine aw_iaload (pc := 106) hC (v0 (j := 13) (by decide)) rfl dX10_goes_106 ?_
                  refine aw_callVR (pc := 107) (As := [.int (μ5 0 13 (Int32.toNatClampNeg 4))]) hC mb_X10_watchers kw1596 (by decide) (c_X10_watchers G C.2.1   μ5 (μ5 0 13 (Int32.toNatClampNeg 4))) (v0 (j := 12) (by decide)) rfl rfl rfl (Nat.le_of_ble_eq_true rfl) dX10_goes_107 (fun q30 => ?_)
                  refine aw_goto (pc := 110) (tgt := 114) hC dX10_goes_110 (by decide) ?_
                  exact hJ114 q30
  refine hL11 (fun (μ2 : Mem) => ix 11 704 (some (((μ2 0 13 (Int32.toNatClampNeg 11)) - x1), μ2))) (fun μ2 => ?_) 4096 0 μ
  · skip
    refine aw_aload_n (pc := 249) (i := 0) hC dX10_goes_249 rfl rfl ?_
    refine aw_get (pc := 250) hC inX10 (v0 (j := 12) (by decide)) rfl rfl 1 (by decide) kw1315 rfl rfl dX10_goes_250 ?_
    refine aw_bipush (pc := 253) (v := 11) hC dX10_goes_253 bc11 ?_
    refine aw_iaload (pc := 255) hC (v0 (j := 13) (by decide)) rfl dX10_goes_255 ?_
    refine aw_iload_n (pc := 256) (i := 3) hC dX10_goes_256 rfl rfl ?_
    refine aw_isub (pc := 257) hC dX10_goes_257 ?_
    exact aw_iret hC dX10_goes_258
theorem dX10_days_0 : decode cX10_days 0 = .ok (.aload_n 0, 1) := by decide +kernel
theorem dX10_days_1 : decode cX10_days 1 = .ok (.iload_n 1, 1) := by decide +kernel
theorem dX10_days_2 : decode cX10_days 2 = .ok (.iconst 1, 1) := by decide +kernel
theorem dX10_days_3 : decode cX10_days 3 = .ok (.bipush 60, 2) := by decide +kernel
theorem dX10_days_5 : decode cX10_days 5 = .ok (.invokestatic 45, 3) := by decide +kernel
theorem dX10_days_8 : decode cX10_days 8 = .ok (.ifCond .ne 7, 3) := by decide +kernel
theorem dX10_days_11 : decode cX10_days 11 = .ok (.iconst 1, 1) := by decide +kernel
theorem dX10_days_12 : decode cX10_days 12 = .ok (.goto 4, 3) := by decide +kernel
theorem dX10_days_15 : decode cX10_days 15 = .ok (.iconst 0, 1) := by decide +kernel
theorem dX10_days_16 : decode cX10_days 16 = .ok (.putfield 42, 3) := by decide +kernel
theorem dX10_days_19 : decode cX10_days 19 = .ok (.aload_n 0, 1) := by decide +kernel
theorem dX10_days_20 : decode cX10_days 20 = .ok (.getfield 42, 3) := by decide +kernel
theorem dX10_days_23 : decode cX10_days 23 = .ok (.ifCond .le 5, 3) := by decide +kernel
theorem dX10_days_26 : decode cX10_days 26 = .ok (.iconst 0, 1) := by decide +kernel
theorem dX10_days_27 : decode cX10_days 27 = .ok (.ireturn, 1) := by decide +kernel
theorem dX10_days_28 : decode cX10_days 28 = .ok (.aload_n 0, 1) := by decide +kernel
theorem dX10_days_29 : decode cX10_days 29 = .ok (.invokevirtual 282, 3) := by decide +kernel
theorem dX10_days_32 : decode cX10_days 32 = .ok (.aload_n 0, 1) := by decide +kernel
theorem dX10_days_33 : decode cX10_days 33 = .ok (.iload_n 1, 1) := by decide +kernel
theorem dX10_days_34 : decode cX10_days 34 = .ok (.iconst 1, 1) := by decide +kernel
theorem dX10_days_35 : decode cX10_days 35 = .ok (.invokevirtual 288, 3) := by decide +kernel
theorem dX10_days_38 : decode cX10_days 38 = .ok (.ireturn, 1) := by decide +kernel
def f_X10_days (μ : Mem) (a1 : Int32) : Option (Int32 × Mem) := (f_X10_isIn a1 1 60).bind fun (q1 : Int32) => nm (fun (x2 : Int32) => nm (upm μ 0 12 0 x2) fun (μ3 : Mem) => if (μ3 0 12 0) ≤ 0 then ((f_X10_remembers μ3).bind fun (q4 : Mem) => (f_X10_goes q4 a1 1).bind fun (q5 : Int32 × Mem) => some (q5.1, q5.2)) else (some (0, μ3))) fun (J16 : Int32 → Option (Int32 × Mem)) => if q1 = 0 then (J16 1) else (J16 0)
set_option maxHeartbeats 4000000 in
set_option maxRecDepth 100000 in
theorem c_X10_days (G : GG) (l : Launch) (μ : Mem) (a1 : Int32) : CI G l yX10_days (.code yX10_days cX10_days 2 (some .int)) 59 [.ref (gad G 0 12), .int a1] μ (f_X10_days μ a1) := by
  refine CI.of (own := "SaturdayKeepModel") (L0 := [some (.ref (gad G 0 12)), some (.int a1)]) rfl rfl rfl (Nat.le_of_ble_eq_true rfl) (fun C hl hC => ?_)
  subst hl
  delta f_X10_days
  refine aw_aload_n (pc := 0) (i := 0) hC dX10_days_0 rfl rfl ?_
  refine aw_iload_n (pc := 1) (i := 1) hC dX10_days_1 rfl rfl ?_
  refine aw_iconst (pc := 2) (v := 1) hC dX10_days_2 ic1 ?_
  refine aw_bipush (pc := 3) (v := 60) hC dX10_days_3 bc60 ?_
  refine aw_callSR (pc := 5) (As := [.int a1, .int 1, .int 60]) hC ms_X10_isIn kw1394 (by decide) (c_X10_isIn G C.2.1   μ a1 1 60) rfl (Nat.le_of_ble_eq_true rfl) dX10_days_5 (fun q1 => ?_)
  refine aw_nmJ (fun (J16 : Int32 → Option (Int32 × Mem)) => ∀ (x2 : Int32), AW G C (qI G C 0 0) 0 0 2 μ 16 [some (.ref (gad G 0 12)), some (.int a1)] [.int x2, .ref (gad G 0 12)] (J16 x2)) (fun x2 => ?_) (fun J16 hJ16 => ?_)
  · skip
    refine aw_putIN (pc := 16) hC inX10 (v0 (j := 12) (by decide)) rfl rfl 0 (by decide) kw1314 rfl tyX10 tyX10_ok nmX10 rfl rfl (Nat.le_of_ble_eq_true rfl) rfl dX10_days_16 (fun μ3 => ?_)
    refine aw_aload_n (pc := 19) (i := 0) hC dX10_days_19 rfl rfl ?_
    refine aw_get (pc := 20) hC inX10 (v0 (j := 12) (by decide)) rfl rfl 0 (by decide) kw1314 rfl rfl dX10_days_20 ?_
    refine aw_if_le (pc := 23) (tgt := 28) hC dX10_days_23 (by decide) (fun _ => ?_) (fun _ => ?_)
    · skip
      refine aw_aload_n (pc := 28) (i := 0) hC dX10_days_28 rfl rfl ?_
      refine aw_callVV (pc := 29) (As := []) hC mb_X10_remembers kw1616 (by decide) (c_X10_remembers G C.2.1   μ3 ) (v0 (j := 12) (by decide)) rfl rfl rfl (Nat.le_of_ble_eq_true rfl) dX10_days_29 (fun q4 => ?_)
      refine aw_aload_n (pc := 32) (i := 0) hC dX10_days_32 rfl rfl ?_
      refine aw_iload_n (pc := 33) (i := 1) hC dX10_days_33 rfl rfl ?_
      refine aw_iconst (pc := 34) (v := 1) hC dX10_days_34 ic1 ?_
      refine aw_callVI (pc := 35) (As := [.int a1, .int 1]) hC mb_X10_goes kw1659 (by decide) (c_X10_goes G C.2.1   q4 a1 1) (v0 (j := 12) (by decide)) rfl rfl rfl (Nat.le_of_ble_eq_true rfl) dX10_days_35 (fun q5 => ?_)
      exact aw_iret hC dX10_days_38
    · skip
      refine aw_iconst (pc := 26) (v := 0) hC dX10_days_26 ic0 ?_
      exact aw_iret hC dX10_days_27
  · skip
    refine aw_if_ne (pc := 8) (tgt := 15) hC dX10_days_8 (by decide) (fun _ => ?_) (fun _ => ?_)
    · skip
      refine aw_iconst (pc := 11) (v := 1) hC dX10_days_11 ic1 ?_
      refine aw_goto (pc := 12) (tgt := 16) hC dX10_days_12 (by decide) ?_
      exact hJ16 1
    · skip
      refine aw_iconst (pc := 15) (v := 0) hC dX10_days_15 ic0 ?_
      exact hJ16 0
theorem dX10_ahead_0 : decode cX10_ahead 0 = .ok (.aload_n 0, 1) := by decide +kernel
theorem dX10_ahead_1 : decode cX10_ahead 1 = .ok (.aload_n 0, 1) := by decide +kernel
theorem dX10_ahead_2 : decode cX10_ahead 2 = .ok (.iload_n 1, 1) := by decide +kernel
theorem dX10_ahead_3 : decode cX10_ahead 3 = .ok (.invokevirtual 267, 3) := by decide +kernel
theorem dX10_ahead_6 : decode cX10_ahead 6 = .ok (.ifCond .ne 7, 3) := by decide +kernel
theorem dX10_ahead_9 : decode cX10_ahead 9 = .ok (.iconst 1, 1) := by decide +kernel
theorem dX10_ahead_10 : decode cX10_ahead 10 = .ok (.goto 32, 3) := by decide +kernel
theorem dX10_ahead_13 : decode cX10_ahead 13 = .ok (.iload_n 2, 1) := by decide +kernel
theorem dX10_ahead_14 : decode cX10_ahead 14 = .ok (.iconst 0, 1) := by decide +kernel
theorem dX10_ahead_15 : decode cX10_ahead 15 = .ok (.sipush 400, 3) := by decide +kernel
theorem dX10_ahead_18 : decode cX10_ahead 18 = .ok (.invokestatic 45, 3) := by decide +kernel
theorem dX10_ahead_21 : decode cX10_ahead 21 = .ok (.ifCond .ne 7, 3) := by decide +kernel
theorem dX10_ahead_24 : decode cX10_ahead 24 = .ok (.iconst 2, 1) := by decide +kernel
theorem dX10_ahead_25 : decode cX10_ahead 25 = .ok (.goto 17, 3) := by decide +kernel
theorem dX10_ahead_28 : decode cX10_ahead 28 = .ok (.iload_n 3, 1) := by decide +kernel
theorem dX10_ahead_29 : decode cX10_ahead 29 = .ok (.iconst 0, 1) := by decide +kernel
theorem dX10_ahead_30 : decode cX10_ahead 30 = .ok (.iconst 2, 1) := by decide +kernel
theorem dX10_ahead_31 : decode cX10_ahead 31 = .ok (.invokestatic 45, 3) := by decide +kernel
theorem dX10_ahead_34 : decode cX10_ahead 34 = .ok (.ifCond .ne 7, 3) := by decide +kernel
theorem dX10_ahead_37 : decode cX10_ahead 37 = .ok (.iconst 3, 1) := by decide +kernel
theorem dX10_ahead_38 : decode cX10_ahead 38 = .ok (.goto 4, 3) := by decide +kernel
theorem dX10_ahead_41 : decode cX10_ahead 41 = .ok (.iconst 0, 1) := by decide +kernel
theorem dX10_ahead_42 : decode cX10_ahead 42 = .ok (.putfield 42, 3) := by decide +kernel
theorem dX10_ahead_45 : decode cX10_ahead 45 = .ok (.aload_n 0, 1) := by decide +kernel
theorem dX10_ahead_46 : decode cX10_ahead 46 = .ok (.getfield 42, 3) := by decide +kernel
theorem dX10_ahead_49 : decode cX10_ahead 49 = .ok (.ifCond .le 5, 3) := by decide +kernel
theorem dX10_ahead_52 : decode cX10_ahead 52 = .ok (.iconst 0, 1) := by decide +kernel
theorem dX10_ahead_53 : decode cX10_ahead 53 = .ok (.ireturn, 1) := by decide +kernel
theorem dX10_ahead_54 : decode cX10_ahead 54 = .ok (.aload_n 0, 1) := by decide +kernel
theorem dX10_ahead_55 : decode cX10_ahead 55 = .ok (.invokevirtual 159, 3) := by decide +kernel
theorem dX10_ahead_58 : decode cX10_ahead 58 = .ok (.aload_n 0, 1) := by decide +kernel
theorem dX10_ahead_59 : decode cX10_ahead 59 = .ok (.iload_n 2, 1) := by decide +kernel
theorem dX10_ahead_60 : decode cX10_ahead 60 = .ok (.iconst 0, 1) := by decide +kernel
theorem dX10_ahead_61 : decode cX10_ahead 61 = .ok (.invokevirtual 288, 3) := by decide +kernel
theorem dX10_ahead_64 : decode cX10_ahead 64 = .ok (.istore 4, 2) := by decide +kernel
theorem dX10_ahead_66 : decode cX10_ahead 66 = .ok (.iload_n 3, 1) := by decide +kernel
theorem dX10_ahead_67 : decode cX10_ahead 67 = .ok (.ifCond .ne 12, 3) := by decide +kernel
theorem dX10_ahead_70 : decode cX10_ahead 70 = .ok (.aload_n 0, 1) := by decide +kernel
theorem dX10_ahead_71 : decode cX10_ahead 71 = .ok (.iload_n 1, 1) := by decide +kernel
theorem dX10_ahead_72 : decode cX10_ahead 72 = .ok (.iconst 2, 1) := by decide +kernel
theorem dX10_ahead_73 : decode cX10_ahead 73 = .ok (.invokevirtual 49, 3) := by decide +kernel
theorem dX10_ahead_76 : decode cX10_ahead 76 = .ok (.goto 25, 3) := by decide +kernel
theorem dX10_ahead_79 : decode cX10_ahead 79 = .ok (.iload_n 3, 1) := by decide +kernel
theorem dX10_ahead_80 : decode cX10_ahead 80 = .ok (.iconst 1, 1) := by decide +kernel
theorem dX10_ahead_81 : decode cX10_ahead 81 = .ok (.if_icmp .ne 13, 3) := by decide +kernel
theorem dX10_ahead_84 : decode cX10_ahead 84 = .ok (.aload_n 0, 1) := by decide +kernel
theorem dX10_ahead_85 : decode cX10_ahead 85 = .ok (.getfield 7, 3) := by decide +kernel
theorem dX10_ahead_88 : decode cX10_ahead 88 = .ok (.bipush 8, 2) := by decide +kernel
theorem dX10_ahead_90 : decode cX10_ahead 90 = .ok (.iaload, 1) := by decide +kernel
theorem dX10_ahead_91 : decode cX10_ahead 91 = .ok (.goto 10, 3) := by decide +kernel
theorem dX10_ahead_94 : decode cX10_ahead 94 = .ok (.aload_n 0, 1) := by decide +kernel
theorem dX10_ahead_95 : decode cX10_ahead 95 = .ok (.getfield 7, 3) := by decide +kernel
theorem dX10_ahead_98 : decode cX10_ahead 98 = .ok (.bipush 7, 2) := by decide +kernel
theorem dX10_ahead_100 : decode cX10_ahead 100 = .ok (.iaload, 1) := by decide +kernel
theorem dX10_ahead_101 : decode cX10_ahead 101 = .ok (.istore 5, 2) := by decide +kernel
theorem dX10_ahead_103 : decode cX10_ahead 103 = .ok (.aload_n 0, 1) := by decide +kernel
theorem dX10_ahead_104 : decode cX10_ahead 104 = .ok (.invokevirtual 169, 3) := by decide +kernel
theorem dX10_ahead_107 : decode cX10_ahead 107 = .ok (.iload 5, 2) := by decide +kernel
theorem dX10_ahead_109 : decode cX10_ahead 109 = .ok (.ireturn, 1) := by decide +kernel
def f_X10_ahead (μ : Mem) (a1 : Int32) (a2 : Int32) (a3 : Int32) : Option (Int32 × Mem) := (f_X10_isGuest μ a1).bind fun (q1 : Int32) => nm (fun (x2 : Int32) => nm (upm μ 0 12 0 x2) fun (μ3 : Mem) => if (μ3 0 12 0) ≤ 0 then ((f_X10_putsAside μ3).bind fun (q4 : Mem) => (f_X10_goes q4 a2 0).bind fun (q5 : Int32 × Mem) => nm (fun (x6 : Int32) => (f_X10_comesBack q5.2).bind fun (q7 : Mem) => some (x6, q7)) fun (J101 : Int32 → Option (Int32 × Mem)) => if a3 = 0 then ((f_X10_of q5.2 a1 2).bind fun (q8 : Int32) => J101 q8) else (if a3 = 1 then (ix 8 704 (J101 (q5.2 0 13 (Int32.toNatClampNeg 8)))) else (ix 7 704 (J101 (q5.2 0 13 (Int32.toNatClampNeg 7)))))) else (some (0, μ3))) fun (J42 : Int32 → Option (Int32 × Mem)) => if q1 = 0 then (J42 1) else ((f_X10_isIn a2 0 400).bind fun (q9 : Int32) => if q9 = 0 then (J42 2) else ((f_X10_isIn a3 0 2).bind fun (q10 : Int32) => if q10 = 0 then (J42 3) else (J42 0)))
set_option maxHeartbeats 4000000 in
set_option maxRecDepth 100000 in
theorem c_X10_ahead (G : GG) (l : Launch) (μ : Mem) (a1 : Int32) (a2 : Int32) (a3 : Int32) : CI G l yX10_ahead (.code yX10_ahead cX10_ahead 6 (some .int)) 59 [.ref (gad G 0 12), .int a1, .int a2, .int a3] μ (f_X10_ahead μ a1 a2 a3) := by
  refine CI.of (own := "SaturdayKeepModel") (L0 := [some (.ref (gad G 0 12)), some (.int a1), some (.int a2), some (.int a3), none, none]) rfl rfl rfl (Nat.le_of_ble_eq_true rfl) (fun C hl hC => ?_)
  subst hl
  delta f_X10_ahead
  refine aw_aload_n (pc := 0) (i := 0) hC dX10_ahead_0 rfl rfl ?_
  refine aw_aload_n (pc := 1) (i := 0) hC dX10_ahead_1 rfl rfl ?_
  refine aw_iload_n (pc := 2) (i := 1) hC dX10_ahead_2 rfl rfl ?_
  refine aw_callVR (pc := 3) (As := [.int a1]) hC mb_X10_isGuest kw1535 (by decide) (c_X10_isGuest G C.2.1   μ a1) (v0 (j := 12) (by decide)) rfl rfl rfl (Nat.le_of_ble_eq_true rfl) dX10_ahead_3 (fun q1 => ?_)
  refine aw_nmJ (fun (J42 : Int32 → Option (Int32 × Mem)) => ∀ (x2 : Int32), AW G C (qI G C 0 0) 0 0 6 μ 42 [some (.ref (gad G 0 12)), some (.int a1), some (.int a2), some (.int a3), none, none] [.int x2, .ref (gad G 0 12)] (J42 x2)) (fun x2 => ?_) (fun J42 hJ42 => ?_)
  · skip
    refine aw_putIN (pc := 42) hC inX10 (v0 (j := 12) (by decide)) rfl rfl 0 (by decide) kw1314 rfl tyX10 tyX10_ok nmX10 rfl rfl (Nat.le_of_ble_eq_true rfl) rfl dX10_ahead_42 (fun μ3 => ?_)
    refine aw_aload_n (pc := 45) (i := 0) hC dX10_ahead_45 rfl rfl ?_
    refine aw_get (pc := 46) hC inX10 (v0 (j := 12) (by decide)) rfl rfl 0 (by decide) kw1314 rfl rfl dX10_ahead_46 ?_
    refine aw_if_le (pc := 49) (tgt := 54) hC dX10_ahead_49 (by decide) (fun _ => ?_) (fun _ => ?_)
    · skip
      refine aw_aload_n (pc := 54) (i := 0) hC dX10_ahead_54 rfl rfl ?_
      refine aw_callVV (pc := 55) (As := []) hC mb_X10_putsAside kw1401 (by decide) (c_X10_putsAside G C.2.1   μ3 ) (v0 (j := 12) (by decide)) rfl rfl rfl (Nat.le_of_ble_eq_true rfl) dX10_ahead_55 (fun q4 => ?_)
      refine aw_aload_n (pc := 58) (i := 0) hC dX10_ahead_58 rfl rfl ?_
      refine aw_iload_n (pc := 59) (i := 2) hC dX10_ahead_59 rfl rfl ?_
      refine aw_iconst (pc := 60) (v := 0) hC dX10_ahead_60 ic0 ?_
      refine aw_callVI (pc := 61) (As := [.int a2, .int 0]) hC mb_X10_goes kw1659 (by decide) (c_X10_goes G C.2.1   q4 a2 0) (v0 (j := 12) (by decide)) rfl rfl rfl (Nat.le_of_ble_eq_true rfl) dX10_ahead_61 (fun q5 => ?_)
      refine aw_istore (pc := 64) hC dX10_ahead_64 rfl (by decide) ?_
      refine aw_iload_n (pc := 66) (i := 3) hC dX10_ahead_66 rfl rfl ?_
      refine aw_nmJ (fun (J101 : Int32 → Option (Int32 × Mem)) => ∀ (x6 : Int32), AW G C (qI G C 0 0) 0 0 6 q5.2 101 [some (.ref (gad G 0 12)), none, none, none, none, none] [.int x6] (J101 x6)) (fun x6 => ?_) (fun J101 hJ101 => ?_)
      · skip
        refine aw_istore (pc := 101) hC dX10_ahead_101 rfl (by decide) ?_
        refine aw_aload_n (pc := 103) (i := 0) hC dX10_ahead_103 rfl rfl ?_
        refine aw_callVV (pc := 104) (As := []) hC mb_X10_comesBack kw1519 (by decide) (c_X10_comesBack G C.2.1   q5.2 ) (v0 (j := 12) (by decide)) rfl rfl rfl (Nat.le_of_ble_eq_true rfl) dX10_ahead_104 (fun q7 => ?_)
        refine aw_iload (pc := 107) hC dX10_ahead_107 rfl ?_
        exact aw_iret hC dX10_ahead_109
      · skip
        refine aw_if_ne (pc := 67) (tgt := 79) hC dX10_ahead_67 (by decide) (fun _ => ?_) (fun _ => ?_)
        · skip
          refine aw_aload_n (pc := 70) (i := 0) hC dX10_ahead_70 rfl rfl ?_
          refine aw_iload_n (pc := 71) (i := 1) hC dX10_ahead_71 rfl rfl ?_
          refine aw_iconst (pc := 72) (v := 2) hC dX10_ahead_72 ic2 ?_
          refine aw_callVR (pc := 73) (As := [.int a1, .int 2]) hC mb_X10_of kw1539 (by decide) (c_X10_of G C.2.1   q5.2 a1 2) (v0 (j := 12) (by decide)) rfl rfl rfl (Nat.le_of_ble_eq_true rfl) dX10_ahead_73 (fun q8 => ?_)
          refine aw_goto (pc := 76) (tgt := 101) hC dX10_ahead_76 (by decide) ?_
          exact aw_drop [1, 2, 3, 4] (hJ101 q8)
        · skip
          refine aw_iload_n (pc := 79) (i := 3) hC dX10_ahead_79 rfl rfl ?_
          refine aw_iconst (pc := 80) (v := 1) hC dX10_ahead_80 ic1 ?_
          refine aw_icmp_ne (pc := 81) (tgt := 94) hC dX10_ahead_81 (by decide) (fun _ => ?_) (fun _ => ?_)
          · skip
            refine aw_aload_n (pc := 84) (i := 0) hC dX10_ahead_84 rfl rfl ?_
            refine aw_get (pc := 85) hC inX10 (v0 (j := 12) (by decide)) rfl rfl 1 (by decide) kw1315 rfl rfl dX10_ahead_85 ?_
            refine aw_bipush (pc := 88) (v := 8) hC dX10_ahead_88 bc8 ?_
            refine aw_iaload (pc := 90) hC (v0 (j := 13) (by decide)) rfl dX10_ahead_90 ?_
            refine aw_goto (pc := 91) (tgt := 101) hC dX10_ahead_91 (by decide) ?_
            exact aw_drop [1, 2, 3, 4] (hJ101 (q5.2 0 13 (Int32.toNatClampNeg 8)))
          · skip
            refine aw_aload_n (pc := 94) (i := 0) hC dX10_ahead_94 rfl rfl ?_
            refine aw_get (pc := 95) hC inX10 (v0 (j := 12) (by decide)) rfl rfl 1 (by decide) kw1315 rfl rfl dX10_ahead_95 ?_
            refine aw_bipush (pc := 98) (v := 7) hC dX10_ahead_98 bc7 ?_
            refine aw_iaload (pc := 100) hC (v0 (j := 13) (by decide)) rfl dX10_ahead_100 ?_
            exact aw_drop [1, 2, 3, 4] (hJ101 (q5.2 0 13 (Int32.toNatClampNeg 7)))
    · skip
      refine aw_iconst (pc := 52) (v := 0) hC dX10_ahead_52 ic0 ?_
      exact aw_iret hC dX10_ahead_53
  · skip
    refine aw_if_ne (pc := 6) (tgt := 13) hC dX10_ahead_6 (by decide) (fun _ => ?_) (fun _ => ?_)
    · skip
      refine aw_iconst (pc := 9) (v := 1) hC dX10_ahead_9 ic1 ?_
      refine aw_goto (pc := 10) (tgt := 42) hC dX10_ahead_10 (by decide) ?_
      exact hJ42 1
    · skip
      refine aw_iload_n (pc := 13) (i := 2) hC dX10_ahead_13 rfl rfl ?_
      refine aw_iconst (pc := 14) (v := 0) hC dX10_ahead_14 ic0 ?_
      refine aw_sipush (pc := 15) (v := 400) hC dX10_ahead_15 sc400 ?_
      refine aw_callSR (pc := 18) (As := [.int a2, .int 0, .int 400]) hC ms_X10_isIn kw1394 (by decide) (c_X10_isIn G C.2.1   μ a2 0 400) rfl (Nat.le_of_ble_eq_true rfl) dX10_ahead_18 (fun q9 => ?_)
      refine aw_if_ne (pc := 21) (tgt := 28) hC dX10_ahead_21 (by decide) (fun _ => ?_) (fun _ => ?_)
      · skip
        refine aw_iconst (pc := 24) (v := 2) hC dX10_ahead_24 ic2 ?_
        refine aw_goto (pc := 25) (tgt := 42) hC dX10_ahead_25 (by decide) ?_
        exact hJ42 2
      · skip
        refine aw_iload_n (pc := 28) (i := 3) hC dX10_ahead_28 rfl rfl ?_
        refine aw_iconst (pc := 29) (v := 0) hC dX10_ahead_29 ic0 ?_
        refine aw_iconst (pc := 30) (v := 2) hC dX10_ahead_30 ic2 ?_
        refine aw_callSR (pc := 31) (As := [.int a3, .int 0, .int 2]) hC ms_X10_isIn kw1394 (by decide) (c_X10_isIn G C.2.1   μ a3 0 2) rfl (Nat.le_of_ble_eq_true rfl) dX10_ahead_31 (fun q10 => ?_)
        refine aw_if_ne (pc := 34) (tgt := 41) hC dX10_ahead_34 (by decide) (fun _ => ?_) (fun _ => ?_)
        · skip
          refine aw_iconst (pc := 37) (v := 3) hC dX10_ahead_37 ic3 ?_
          refine aw_goto (pc := 38) (tgt := 42) hC dX10_ahead_38 (by decide) ?_
          exact hJ42 3
        · skip
          refine aw_iconst (pc := 41) (v := 0) hC dX10_ahead_41 ic0 ?_
          exact hJ42 0
theorem dX10_both_0 : decode cX10_both 0 = .ok (.aload_n 0, 1) := by decide +kernel
theorem dX10_both_1 : decode cX10_both 1 = .ok (.iconst 0, 1) := by decide +kernel
theorem dX10_both_2 : decode cX10_both 2 = .ok (.putfield 42, 3) := by decide +kernel
theorem dX10_both_5 : decode cX10_both 5 = .ok (.iconst 0, 1) := by decide +kernel
theorem dX10_both_6 : decode cX10_both 6 = .ok (.istore_n 1, 1) := by decide +kernel
theorem dX10_both_7 : decode cX10_both 7 = .ok (.iload_n 1, 1) := by decide +kernel
theorem dX10_both_8 : decode cX10_both 8 = .ok (.sipush 400, 3) := by decide +kernel
theorem dX10_both_11 : decode cX10_both 11 = .ok (.if_icmp .gt 45, 3) := by decide +kernel
theorem dX10_both_14 : decode cX10_both 14 = .ok (.aload_n 0, 1) := by decide +kernel
theorem dX10_both_15 : decode cX10_both 15 = .ok (.iconst 0, 1) := by decide +kernel
theorem dX10_both_16 : decode cX10_both 16 = .ok (.aload_n 0, 1) := by decide +kernel
theorem dX10_both_17 : decode cX10_both 17 = .ok (.getfield 7, 3) := by decide +kernel
theorem dX10_both_20 : decode cX10_both 20 = .ok (.bipush 10, 2) := by decide +kernel
theorem dX10_both_22 : decode cX10_both 22 = .ok (.iaload, 1) := by decide +kernel
theorem dX10_both_23 : decode cX10_both 23 = .ok (.iload_n 1, 1) := by decide +kernel
theorem dX10_both_24 : decode cX10_both 24 = .ok (.iadd, 1) := by decide +kernel
theorem dX10_both_25 : decode cX10_both 25 = .ok (.invokevirtual 226, 3) := by decide +kernel
theorem dX10_both_28 : decode cX10_both 28 = .ok (.ifCond .eq 22, 3) := by decide +kernel
theorem dX10_both_31 : decode cX10_both 31 = .ok (.aload_n 0, 1) := by decide +kernel
theorem dX10_both_32 : decode cX10_both 32 = .ok (.iconst 1, 1) := by decide +kernel
theorem dX10_both_33 : decode cX10_both 33 = .ok (.aload_n 0, 1) := by decide +kernel
theorem dX10_both_34 : decode cX10_both 34 = .ok (.getfield 7, 3) := by decide +kernel
theorem dX10_both_37 : decode cX10_both 37 = .ok (.bipush 10, 2) := by decide +kernel
theorem dX10_both_39 : decode cX10_both 39 = .ok (.iaload, 1) := by decide +kernel
theorem dX10_both_40 : decode cX10_both 40 = .ok (.iload_n 1, 1) := by decide +kernel
theorem dX10_both_41 : decode cX10_both 41 = .ok (.iadd, 1) := by decide +kernel
theorem dX10_both_42 : decode cX10_both 42 = .ok (.invokevirtual 226, 3) := by decide +kernel
theorem dX10_both_45 : decode cX10_both 45 = .ok (.ifCond .eq 5, 3) := by decide +kernel
theorem dX10_both_48 : decode cX10_both 48 = .ok (.iload_n 1, 1) := by decide +kernel
theorem dX10_both_49 : decode cX10_both 49 = .ok (.ireturn, 1) := by decide +kernel
theorem dX10_both_50 : decode cX10_both 50 = .ok (.iinc 1 1, 3) := by decide +kernel
theorem dX10_both_53 : decode cX10_both 53 = .ok (.goto (-46), 3) := by decide +kernel
theorem dX10_both_56 : decode cX10_both 56 = .ok (.iconst (-1), 1) := by decide +kernel
theorem dX10_both_57 : decode cX10_both 57 = .ok (.ireturn, 1) := by decide +kernel
def lp_X10_both_7 (μ1 : Mem) : Nat → Int32 → Option (Int32 × Mem)
  | 0, _ => none
  | n + 1, x2 => if 400 < x2 then (some ((-1), μ1)) else (ix 10 704 ((f_X10_isSaturday μ1 0 ((μ1 0 13 (Int32.toNatClampNeg 10)) + x2)).bind fun (q3 : Int32) => if q3 = 0 then (lp_X10_both_7 μ1 n (x2 + 1)) else (ix 10 704 ((f_X10_isSaturday μ1 1 ((μ1 0 13 (Int32.toNatClampNeg 10)) + x2)).bind fun (q4 : Int32) => if q4 = 0 then (lp_X10_both_7 μ1 n (x2 + 1)) else (some (x2, μ1))))))
def f_X10_both (μ : Mem) : Option (Int32 × Mem) := nm (upm μ 0 12 0 0) fun (μ1 : Mem) => lp_X10_both_7 μ1 4096 0
set_option maxHeartbeats 4000000 in
set_option maxRecDepth 100000 in
theorem c_X10_both (G : GG) (l : Launch) (μ : Mem) : CI G l yX10_both (.code yX10_both cX10_both 2 (some .int)) 2 [.ref (gad G 0 12)] μ (f_X10_both μ) := by
  refine CI.of (own := "SaturdayKeepModel") (L0 := [some (.ref (gad G 0 12)), none]) rfl rfl rfl (Nat.le_of_ble_eq_true rfl) (fun C hl hC => ?_)
  subst hl
  delta f_X10_both
  refine aw_aload_n (pc := 0) (i := 0) hC dX10_both_0 rfl rfl ?_
  refine aw_iconst (pc := 1) (v := 0) hC dX10_both_1 ic0 ?_
  refine aw_putIN (pc := 2) hC inX10 (v0 (j := 12) (by decide)) rfl rfl 0 (by decide) kw1314 rfl tyX10 tyX10_ok nmX10 rfl rfl (Nat.le_of_ble_eq_true rfl) rfl dX10_both_2 (fun μ1 => ?_)
  refine aw_iconst (pc := 5) (v := 0) hC dX10_both_5 ic0 ?_
  refine aw_istore_n (pc := 6) (i := 1) hC dX10_both_6 rfl rfl (by decide) ?_
  have hL7 : ∀ (n : Nat) (x2 : Int32), AW G C (qI G C 0 0) 0 0 2 μ1 7 [some (.ref (gad G 0 12)), some (.int x2)] [] (lp_X10_both_7 μ1 n x2) := by
    intro n
    induction n with
    | zero => intro x2; exact aw_none
    | succ n ih =>
      intro x2
      rw [lp_X10_both_7]
      refine aw_iload_n (pc := 7) (i := 1) hC dX10_both_7 rfl rfl ?_
      refine aw_sipush (pc := 8) (v := 400) hC dX10_both_8 sc400 ?_
      refine aw_icmp_gt (pc := 11) (tgt := 56) hC dX10_both_11 (by decide) (fun _ => ?_) (fun _ => ?_)
      · skip
        refine aw_iconst (pc := 56) (v := (-1)) hC dX10_both_56 icm1 ?_
        exact aw_iret hC dX10_both_57
      · skip
        refine aw_aload_n (pc := 14) (i := 0) hC dX10_both_14 rfl rfl ?_
        refine aw_iconst (pc := 15) (v := 0) hC dX10_both_15 ic0 ?_
        refine aw_aload_n (pc := 16) (i := 0) hC dX10_both_16 rfl rfl ?_
        refine aw_get (pc := 17) hC inX10 (v0 (j := 12) (by decide)) rfl rfl 1 (by decide) kw1315 rfl rfl dX10_both_17 ?_
        refine aw_bipush (pc := 20) (v := 10) hC dX10_both_20 bc10 ?_
        refine aw_iaload (pc := 22) hC (v0 (j := 13) (by decide)) rfl dX10_both_22 ?_
        refine aw_iload_n (pc := 23) (i := 1) hC dX10_both_23 rfl rfl ?_
        refine aw_iadd (pc := 24) hC dX10_both_24 ?_
        refine aw_callVR (pc := 25) (As := [.int 0, .int ((μ1 0 13 (Int32.toNatClampNeg 10)) + x2)]) hC mb_X10_isSaturday kw1554 (by decide) (c_X10_isSaturday G C.2.1   μ1 0 ((μ1 0 13 (Int32.toNatClampNeg 10)) + x2)) (v0 (j := 12) (by decide)) rfl rfl rfl (Nat.le_of_ble_eq_true rfl) dX10_both_25 (fun q3 => ?_)
        refine aw_if_eq (pc := 28) (tgt := 50) hC dX10_both_28 (by decide) (fun _ => ?_) (fun _ => ?_)
        · skip
          refine aw_iinc (pc := 50) (v := x2 + 1) hC dX10_both_50 rfl (congrArg (HAdd.hAdd _) ic1) rfl (by decide) ?_
          refine aw_goto (pc := 53) (tgt := 7) hC dX10_both_53 (by decide) ?_
          exact ih (x2 + 1)
        · skip
          refine aw_aload_n (pc := 31) (i := 0) hC dX10_both_31 rfl rfl ?_
          refine aw_iconst (pc := 32) (v := 1) hC dX10_both_32 ic1 ?_
          refine aw_aload_n (pc := 33) (i := 0) hC dX10_both_33 rfl rfl ?_
          refine aw_get (pc := 34) hC inX10 (v0 (j := 12) (by decide)) rfl rfl 1 (by decide) kw1315 rfl rfl dX10_both_34 ?_
          refine aw_bipush (pc := 37) (v := 10) hC dX10_both_37 bc10 ?_
          refine aw_iaload (pc := 39) hC (v0 (j := 13) (by decide)) rfl dX10_both_39 ?_
          refine aw_iload_n (pc := 40) (i := 1) hC dX10_both_40 rfl rfl ?_
          refine aw_iadd (pc := 41) hC dX10_both_41 ?_
          refine aw_callVR (pc := 42) (As := [.int 1, .int ((μ1 0 13 (Int32.toNatClampNeg 10)) + x2)]) hC mb_X10_isSaturday kw1554 (by decide) (c_X10_isSaturday G C.2.1   μ1 1 ((μ1 0 13 (Int32.toNatClampNeg 10)) + x2)) (v0 (j := 12) (by decide)) rfl rfl rfl (Nat.le_of_ble_eq_true rfl) dX10_both_42 (fun q4 => ?_)
          refine aw_if_eq (pc := 45) (tgt := 50) hC dX10_both_45 (by decide) (fun _ => ?_) (fun _ => ?_)
          · skip
            refine aw_iinc (pc := 50) (v := x2 + 1) hC dX10_both_50 rfl (congrArg (HAdd.hAdd _) ic1) rfl (by decide) ?_
            refine aw_goto (pc := 53) (tgt := 7) hC dX10_both_53 (by decide) ?_
            exact ih (x2 + 1)
          · skip
            refine aw_iload_n (pc := 48) (i := 1) hC dX10_both_48 rfl rfl ?_
            exact aw_iret hC dX10_both_49
  exact hL7 4096 0
theorem dX10_saturdays_0 : decode cX10_saturdays 0 = .ok (.aload_n 0, 1) := by decide +kernel
theorem dX10_saturdays_1 : decode cX10_saturdays 1 = .ok (.iload_n 1, 1) := by decide +kernel
theorem dX10_saturdays_2 : decode cX10_saturdays 2 = .ok (.iconst 0, 1) := by decide +kernel
theorem dX10_saturdays_3 : decode cX10_saturdays 3 = .ok (.sipush 400, 3) := by decide +kernel
theorem dX10_saturdays_6 : decode cX10_saturdays 6 = .ok (.invokestatic 45, 3) := by decide +kernel
theorem dX10_saturdays_9 : decode cX10_saturdays 9 = .ok (.ifCond .ne 7, 3) := by decide +kernel
theorem dX10_saturdays_12 : decode cX10_saturdays 12 = .ok (.iconst 1, 1) := by decide +kernel
theorem dX10_saturdays_13 : decode cX10_saturdays 13 = .ok (.goto 4, 3) := by decide +kernel
theorem dX10_saturdays_16 : decode cX10_saturdays 16 = .ok (.iconst 0, 1) := by decide +kernel
theorem dX10_saturdays_17 : decode cX10_saturdays 17 = .ok (.putfield 42, 3) := by decide +kernel
theorem dX10_saturdays_20 : decode cX10_saturdays 20 = .ok (.iconst 0, 1) := by decide +kernel
theorem dX10_saturdays_21 : decode cX10_saturdays 21 = .ok (.istore_n 2, 1) := by decide +kernel
theorem dX10_saturdays_22 : decode cX10_saturdays 22 = .ok (.iconst 0, 1) := by decide +kernel
theorem dX10_saturdays_23 : decode cX10_saturdays 23 = .ok (.istore_n 3, 1) := by decide +kernel
theorem dX10_saturdays_24 : decode cX10_saturdays 24 = .ok (.iload_n 3, 1) := by decide +kernel
theorem dX10_saturdays_25 : decode cX10_saturdays 25 = .ok (.iload_n 1, 1) := by decide +kernel
theorem dX10_saturdays_26 : decode cX10_saturdays 26 = .ok (.if_icmp .ge 58, 3) := by decide +kernel
theorem dX10_saturdays_29 : decode cX10_saturdays 29 = .ok (.aload_n 0, 1) := by decide +kernel
theorem dX10_saturdays_30 : decode cX10_saturdays 30 = .ok (.getfield 42, 3) := by decide +kernel
theorem dX10_saturdays_33 : decode cX10_saturdays 33 = .ok (.ifCond .ne 51, 3) := by decide +kernel
theorem dX10_saturdays_36 : decode cX10_saturdays 36 = .ok (.iload_n 2, 1) := by decide +kernel
theorem dX10_saturdays_37 : decode cX10_saturdays 37 = .ok (.aload_n 0, 1) := by decide +kernel
theorem dX10_saturdays_38 : decode cX10_saturdays 38 = .ok (.iconst 0, 1) := by decide +kernel
theorem dX10_saturdays_39 : decode cX10_saturdays 39 = .ok (.aload_n 0, 1) := by decide +kernel
theorem dX10_saturdays_40 : decode cX10_saturdays 40 = .ok (.getfield 7, 3) := by decide +kernel
theorem dX10_saturdays_43 : decode cX10_saturdays 43 = .ok (.bipush 10, 2) := by decide +kernel
theorem dX10_saturdays_45 : decode cX10_saturdays 45 = .ok (.iaload, 1) := by decide +kernel
theorem dX10_saturdays_46 : decode cX10_saturdays 46 = .ok (.iload_n 3, 1) := by decide +kernel
theorem dX10_saturdays_47 : decode cX10_saturdays 47 = .ok (.iadd, 1) := by decide +kernel
theorem dX10_saturdays_48 : decode cX10_saturdays 48 = .ok (.invokevirtual 226, 3) := by decide +kernel
theorem dX10_saturdays_51 : decode cX10_saturdays 51 = .ok (.ifCond .ne 20, 3) := by decide +kernel
theorem dX10_saturdays_54 : decode cX10_saturdays 54 = .ok (.aload_n 0, 1) := by decide +kernel
theorem dX10_saturdays_55 : decode cX10_saturdays 55 = .ok (.iconst 1, 1) := by decide +kernel
theorem dX10_saturdays_56 : decode cX10_saturdays 56 = .ok (.aload_n 0, 1) := by decide +kernel
theorem dX10_saturdays_57 : decode cX10_saturdays 57 = .ok (.getfield 7, 3) := by decide +kernel
theorem dX10_saturdays_60 : decode cX10_saturdays 60 = .ok (.bipush 10, 2) := by decide +kernel
theorem dX10_saturdays_62 : decode cX10_saturdays 62 = .ok (.iaload, 1) := by decide +kernel
theorem dX10_saturdays_63 : decode cX10_saturdays 63 = .ok (.iload_n 3, 1) := by decide +kernel
theorem dX10_saturdays_64 : decode cX10_saturdays 64 = .ok (.iadd, 1) := by decide +kernel
theorem dX10_saturdays_65 : decode cX10_saturdays 65 = .ok (.invokevirtual 226, 3) := by decide +kernel
theorem dX10_saturdays_68 : decode cX10_saturdays 68 = .ok (.ifCond .eq 7, 3) := by decide +kernel
theorem dX10_saturdays_71 : decode cX10_saturdays 71 = .ok (.iconst 1, 1) := by decide +kernel
theorem dX10_saturdays_72 : decode cX10_saturdays 72 = .ok (.goto 4, 3) := by decide +kernel
theorem dX10_saturdays_75 : decode cX10_saturdays 75 = .ok (.iconst 0, 1) := by decide +kernel
theorem dX10_saturdays_76 : decode cX10_saturdays 76 = .ok (.iadd, 1) := by decide +kernel
theorem dX10_saturdays_77 : decode cX10_saturdays 77 = .ok (.istore_n 2, 1) := by decide +kernel
theorem dX10_saturdays_78 : decode cX10_saturdays 78 = .ok (.iinc 3 1, 3) := by decide +kernel
theorem dX10_saturdays_81 : decode cX10_saturdays 81 = .ok (.goto (-57), 3) := by decide +kernel
theorem dX10_saturdays_84 : decode cX10_saturdays 84 = .ok (.iload_n 2, 1) := by decide +kernel
theorem dX10_saturdays_85 : decode cX10_saturdays 85 = .ok (.ireturn, 1) := by decide +kernel
def lp_X10_saturdays_24 (a1 : Int32) (μ3 : Mem) : Nat → Int32 → Int32 → Option (Int32 × Mem)
  | 0, _, _ => none
  | n + 1, x4, x5 => if a1 ≤ x5 then (some (x4, μ3)) else (if (μ3 0 12 0) = 0 then (ix 10 704 ((f_X10_isSaturday μ3 0 ((μ3 0 13 (Int32.toNatClampNeg 10)) + x5)).bind fun (q6 : Int32) => if q6 = 0 then (ix 10 704 ((f_X10_isSaturday μ3 1 ((μ3 0 13 (Int32.toNatClampNeg 10)) + x5)).bind fun (q7 : Int32) => if q7 = 0 then (lp_X10_saturdays_24 a1 μ3 n (x4 + 0) (x5 + 1)) else (lp_X10_saturdays_24 a1 μ3 n (x4 + 1) (x5 + 1)))) else (lp_X10_saturdays_24 a1 μ3 n (x4 + 1) (x5 + 1)))) else (some (x4, μ3)))
def f_X10_saturdays (μ : Mem) (a1 : Int32) : Option (Int32 × Mem) := (f_X10_isIn a1 0 400).bind fun (q1 : Int32) => nm (fun (x2 : Int32) => nm (upm μ 0 12 0 x2) fun (μ3 : Mem) => lp_X10_saturdays_24 a1 μ3 4096 0 0) fun (J17 : Int32 → Option (Int32 × Mem)) => if q1 = 0 then (J17 1) else (J17 0)
set_option maxHeartbeats 4000000 in
set_option maxRecDepth 100000 in
theorem c_X10_saturdays (G : GG) (l : Launch) (μ : Mem) (a1 : Int32) : CI G l yX10_saturdays (.code yX10_saturdays cX10_saturdays 4 (some .int)) 2 [.ref (gad G 0 12), .int a1] μ (f_X10_saturdays μ a1) := by
  refine CI.of (own := "SaturdayKeepModel") (L0 := [some (.ref (gad G 0 12)), some (.int a1), none, none]) rfl rfl rfl (Nat.le_of_ble_eq_true rfl) (fun C hl hC => ?_)
  subst hl
  delta f_X10_saturdays
  refine aw_aload_n (pc := 0) (i := 0) hC dX10_saturdays_0 rfl rfl ?_
  refine aw_iload_n (pc := 1) (i := 1) hC dX10_saturdays_1 rfl rfl ?_
  refine aw_iconst (pc := 2) (v := 0) hC dX10_saturdays_2 ic0 ?_
  refine aw_sipush (pc := 3) (v := 400) hC dX10_saturdays_3 sc400 ?_
  refine aw_callSR (pc := 6) (As := [.int a1, .int 0, .int 400]) hC ms_X10_isIn kw1394 (by decide) (c_X10_isIn G C.2.1   μ a1 0 400) rfl (Nat.le_of_ble_eq_true rfl) dX10_saturdays_6 (fun q1 => ?_)
  refine aw_nmJ (fun (J17 : Int32 → Option (Int32 × Mem)) => ∀ (x2 : Int32), AW G C (qI G C 0 0) 0 0 4 μ 17 [some (.ref (gad G 0 12)), some (.int a1), none, none] [.int x2, .ref (gad G 0 12)] (J17 x2)) (fun x2 => ?_) (fun J17 hJ17 => ?_)
  · skip
    refine aw_putIN (pc := 17) hC inX10 (v0 (j := 12) (by decide)) rfl rfl 0 (by decide) kw1314 rfl tyX10 tyX10_ok nmX10 rfl rfl (Nat.le_of_ble_eq_true rfl) rfl dX10_saturdays_17 (fun μ3 => ?_)
    refine aw_iconst (pc := 20) (v := 0) hC dX10_saturdays_20 ic0 ?_
    refine aw_istore_n (pc := 21) (i := 2) hC dX10_saturdays_21 rfl rfl (by decide) ?_
    refine aw_iconst (pc := 22) (v := 0) hC dX10_saturdays_22 ic0 ?_
    refine aw_istore_n (pc := 23) (i := 3) hC dX10_saturdays_23 rfl rfl (by decide) ?_
    have hL24 : ∀ (n : Nat) (x4 : Int32) (x5 : Int32), AW G C (qI G C 0 0) 0 0 4 μ3 24 [some (.ref (gad G 0 12)), some (.int a1), some (.int x4), some (.int x5)] [] (lp_X10_saturdays_24 a1 μ3 n x4 x5) := by
      intro n
      induction n with
      | zero => intro x4 x5; exact aw_none
      | succ n ih =>
        intro x4 x5
        rw [lp_X10_saturdays_24]
        refine aw_iload_n (pc := 24) (i := 3) hC dX10_saturdays_24 rfl rfl ?_
        refine aw_iload_n (pc := 25) (i := 1) hC dX10_saturdays_25 rfl rfl ?_
        refine aw_icmp_ge (pc := 26) (tgt := 84) hC dX10_saturdays_26 (by decide) (fun _ => ?_) (fun _ => ?_)
        · skip
          refine aw_iload_n (pc := 84) (i := 2) hC dX10_saturdays_84 rfl rfl ?_
          exact aw_iret hC dX10_saturdays_85
        · skip
          refine aw_aload_n (pc := 29) (i := 0) hC dX10_saturdays_29 rfl rfl ?_
          refine aw_get (pc := 30) hC inX10 (v0 (j := 12) (by decide)) rfl rfl 0 (by decide) kw1314 rfl rfl dX10_saturdays_30 ?_
          refine aw_if_ne (pc := 33) (tgt := 84) hC dX10_saturdays_33 (by decide) (fun _ => ?_) (fun _ => ?_)
          · skip
            refine aw_iload_n (pc := 36) (i := 2) hC dX10_saturdays_36 rfl rfl ?_
            refine aw_aload_n (pc := 37) (i := 0) hC dX10_saturdays_37 rfl rfl ?_
            refine aw_iconst (pc := 38) (v := 0) hC dX10_saturdays_38 ic0 ?_
            refine aw_aload_n (pc := 39) (i := 0) hC dX10_saturdays_39 rfl rfl ?_
            refine aw_get (pc := 40) hC inX10 (v0 (j := 12) (by decide)) rfl rfl 1 (by decide) kw1315 rfl rfl dX10_saturdays_40 ?_
            refine aw_bipush (pc := 43) (v := 10) hC dX10_saturdays_43 bc10 ?_
            refine aw_iaload (pc := 45) hC (v0 (j := 13) (by decide)) rfl dX10_saturdays_45 ?_
            refine aw_iload_n (pc := 46) (i := 3) hC dX10_saturdays_46 rfl rfl ?_
            refine aw_iadd (pc := 47) hC dX10_saturdays_47 ?_
            refine aw_callVR (pc := 48) (As := [.int 0, .int ((μ3 0 13 (Int32.toNatClampNeg 10)) + x5)]) hC mb_X10_isSaturday kw1554 (by decide) (c_X10_isSaturday G C.2.1   μ3 0 ((μ3 0 13 (Int32.toNatClampNeg 10)) + x5)) (v0 (j := 12) (by decide)) rfl rfl rfl (Nat.le_of_ble_eq_true rfl) dX10_saturdays_48 (fun q6 => ?_)
            refine aw_if_ne (pc := 51) (tgt := 71) hC dX10_saturdays_51 (by decide) (fun _ => ?_) (fun _ => ?_)
            · skip
              refine aw_aload_n (pc := 54) (i := 0) hC dX10_saturdays_54 rfl rfl ?_
              refine aw_iconst (pc := 55) (v := 1) hC dX10_saturdays_55 ic1 ?_
              refine aw_aload_n (pc := 56) (i := 0) hC dX10_saturdays_56 rfl rfl ?_
              refine aw_get (pc := 57) hC inX10 (v0 (j := 12) (by decide)) rfl rfl 1 (by decide) kw1315 rfl rfl dX10_saturdays_57 ?_
              refine aw_bipush (pc := 60) (v := 10) hC dX10_saturdays_60 bc10 ?_
              refine aw_iaload (pc := 62) hC (v0 (j := 13) (by decide)) rfl dX10_saturdays_62 ?_
              refine aw_iload_n (pc := 63) (i := 3) hC dX10_saturdays_63 rfl rfl ?_
              refine aw_iadd (pc := 64) hC dX10_saturdays_64 ?_
              refine aw_callVR (pc := 65) (As := [.int 1, .int ((μ3 0 13 (Int32.toNatClampNeg 10)) + x5)]) hC mb_X10_isSaturday kw1554 (by decide) (c_X10_isSaturday G C.2.1   μ3 1 ((μ3 0 13 (Int32.toNatClampNeg 10)) + x5)) (v0 (j := 12) (by decide)) rfl rfl rfl (Nat.le_of_ble_eq_true rfl) dX10_saturdays_65 (fun q7 => ?_)
              refine aw_if_eq (pc := 68) (tgt := 75) hC dX10_saturdays_68 (by decide) (fun _ => ?_) (fun _ => ?_)
              · skip
                refine aw_iconst (pc := 75) (v := 0) hC dX10_saturdays_75 ic0 ?_
                refine aw_iadd (pc := 76) hC dX10_saturdays_76 ?_
                refine aw_istore_n (pc := 77) (i := 2) hC dX10_saturdays_77 rfl rfl (by decide) ?_
                refine aw_iinc (pc := 78) (v := x5 + 1) hC dX10_saturdays_78 rfl (congrArg (HAdd.hAdd _) ic1) rfl (by decide) ?_
                refine aw_goto (pc := 81) (tgt := 24) hC dX10_saturdays_81 (by decide) ?_
                exact ih (x4 + 0) (x5 + 1)
              · skip
                refine aw_iconst (pc := 71) (v := 1) hC dX10_saturdays_71 ic1 ?_
                refine aw_goto (pc := 72) (tgt := 76) hC dX10_saturdays_72 (by decide) ?_
                refine aw_iadd (pc := 76) hC dX10_saturdays_76 ?_
                refine aw_istore_n (pc := 77) (i := 2) hC dX10_saturdays_77 rfl rfl (by decide) ?_
                refine aw_iinc (pc := 78) (v := x5 + 1) hC dX10_saturdays_78 rfl (congrArg (HAdd.hAdd _) ic1) rfl (by decide) ?_
                refine aw_goto (pc := 81) (tgt := 24) hC dX10_saturdays_81 (by decide) ?_
                exact ih (x4 + 1) (x5 + 1)
            · skip
              refine aw_iconst (pc := 71) (v := 1) hC dX10_saturdays_71 ic1 ?_
              refine aw_goto (pc := 72) (tgt := 76) hC dX10_saturdays_72 (by decide) ?_
              refine aw_iadd (pc := 76) hC dX10_saturdays_76 ?_
              refine aw_istore_n (pc := 77) (i := 2) hC dX10_saturdays_77 rfl rfl (by decide) ?_
              refine aw_iinc (pc := 78) (v := x5 + 1) hC dX10_saturdays_78 rfl (congrArg (HAdd.hAdd _) ic1) rfl (by decide) ?_
              refine aw_goto (pc := 81) (tgt := 24) hC dX10_saturdays_81 (by decide) ?_
              exact ih (x4 + 1) (x5 + 1)
          · skip
            refine aw_iload_n (pc := 84) (i := 2) hC dX10_saturdays_84 rfl rfl ?_
            exact aw_iret hC dX10_saturdays_85
    exact hL24 4096 0 0
  · skip
    refine aw_if_ne (pc := 9) (tgt := 16) hC dX10_saturdays_9 (by decide) (fun _ => ?_) (fun _ => ?_)
    · skip
      refine aw_iconst (pc := 12) (v := 1) hC dX10_saturdays_12 ic1 ?_
      refine aw_goto (pc := 13) (tgt := 17) hC dX10_saturdays_13 (by decide) ?_
      exact hJ17 1
    · skip
      refine aw_iconst (pc := 16) (v := 0) hC dX10_saturdays_16 ic0 ?_
      exact hJ17 0
theorem dX10_first_0 : decode cX10_first 0 = .ok (.aload_n 0, 1) := by decide +kernel
theorem dX10_first_1 : decode cX10_first 1 = .ok (.aload_n 0, 1) := by decide +kernel
theorem dX10_first_2 : decode cX10_first 2 = .ok (.iload_n 1, 1) := by decide +kernel
theorem dX10_first_3 : decode cX10_first 3 = .ok (.invokevirtual 267, 3) := by decide +kernel
theorem dX10_first_6 : decode cX10_first 6 = .ok (.ifCond .ne 7, 3) := by decide +kernel
theorem dX10_first_9 : decode cX10_first 9 = .ok (.iconst 1, 1) := by decide +kernel
theorem dX10_first_10 : decode cX10_first 10 = .ok (.goto 18, 3) := by decide +kernel
theorem dX10_first_13 : decode cX10_first 13 = .ok (.iload_n 2, 1) := by decide +kernel
theorem dX10_first_14 : decode cX10_first 14 = .ok (.iconst 1, 1) := by decide +kernel
theorem dX10_first_15 : decode cX10_first 15 = .ok (.bipush 99, 2) := by decide +kernel
theorem dX10_first_17 : decode cX10_first 17 = .ok (.invokestatic 45, 3) := by decide +kernel
theorem dX10_first_20 : decode cX10_first 20 = .ok (.ifCond .ne 7, 3) := by decide +kernel
theorem dX10_first_23 : decode cX10_first 23 = .ok (.iconst 2, 1) := by decide +kernel
theorem dX10_first_24 : decode cX10_first 24 = .ok (.goto 4, 3) := by decide +kernel
theorem dX10_first_27 : decode cX10_first 27 = .ok (.iconst 0, 1) := by decide +kernel
theorem dX10_first_28 : decode cX10_first 28 = .ok (.putfield 42, 3) := by decide +kernel
theorem dX10_first_31 : decode cX10_first 31 = .ok (.aload_n 0, 1) := by decide +kernel
theorem dX10_first_32 : decode cX10_first 32 = .ok (.getfield 42, 3) := by decide +kernel
theorem dX10_first_35 : decode cX10_first 35 = .ok (.ifCond .le 5, 3) := by decide +kernel
theorem dX10_first_38 : decode cX10_first 38 = .ok (.iconst 0, 1) := by decide +kernel
theorem dX10_first_39 : decode cX10_first 39 = .ok (.ireturn, 1) := by decide +kernel
theorem dX10_first_40 : decode cX10_first 40 = .ok (.aload_n 0, 1) := by decide +kernel
theorem dX10_first_41 : decode cX10_first 41 = .ok (.invokevirtual 159, 3) := by decide +kernel
theorem dX10_first_44 : decode cX10_first 44 = .ok (.iconst (-1), 1) := by decide +kernel
theorem dX10_first_45 : decode cX10_first 45 = .ok (.istore_n 3, 1) := by decide +kernel
theorem dX10_first_46 : decode cX10_first 46 = .ok (.iconst 0, 1) := by decide +kernel
theorem dX10_first_47 : decode cX10_first 47 = .ok (.istore 4, 2) := by decide +kernel
theorem dX10_first_49 : decode cX10_first 49 = .ok (.iload 4, 2) := by decide +kernel
theorem dX10_first_51 : decode cX10_first 51 = .ok (.sipush 400, 3) := by decide +kernel
theorem dX10_first_54 : decode cX10_first 54 = .ok (.if_icmp .gt 35, 3) := by decide +kernel
theorem dX10_first_57 : decode cX10_first 57 = .ok (.iload_n 3, 1) := by decide +kernel
theorem dX10_first_58 : decode cX10_first 58 = .ok (.iconst (-1), 1) := by decide +kernel
theorem dX10_first_59 : decode cX10_first 59 = .ok (.if_icmp .ne 30, 3) := by decide +kernel
theorem dX10_first_62 : decode cX10_first 62 = .ok (.aload_n 0, 1) := by decide +kernel
theorem dX10_first_63 : decode cX10_first 63 = .ok (.iload_n 1, 1) := by decide +kernel
theorem dX10_first_64 : decode cX10_first 64 = .ok (.iconst 2, 1) := by decide +kernel
theorem dX10_first_65 : decode cX10_first 65 = .ok (.invokevirtual 49, 3) := by decide +kernel
theorem dX10_first_68 : decode cX10_first 68 = .ok (.iload_n 2, 1) := by decide +kernel
theorem dX10_first_69 : decode cX10_first 69 = .ok (.if_icmp .lt 6, 3) := by decide +kernel
theorem dX10_first_72 : decode cX10_first 72 = .ok (.iload 4, 2) := by decide +kernel
theorem dX10_first_74 : decode cX10_first 74 = .ok (.istore_n 3, 1) := by decide +kernel
theorem dX10_first_75 : decode cX10_first 75 = .ok (.aload_n 0, 1) := by decide +kernel
theorem dX10_first_76 : decode cX10_first 76 = .ok (.iconst 1, 1) := by decide +kernel
theorem dX10_first_77 : decode cX10_first 77 = .ok (.iconst 0, 1) := by decide +kernel
theorem dX10_first_78 : decode cX10_first 78 = .ok (.invokevirtual 288, 3) := by decide +kernel
theorem dX10_first_81 : decode cX10_first 81 = .ok (.istore 5, 2) := by decide +kernel
theorem dX10_first_83 : decode cX10_first 83 = .ok (.iinc 4 1, 3) := by decide +kernel
theorem dX10_first_86 : decode cX10_first 86 = .ok (.goto (-37), 3) := by decide +kernel
theorem dX10_first_89 : decode cX10_first 89 = .ok (.aload_n 0, 1) := by decide +kernel
theorem dX10_first_90 : decode cX10_first 90 = .ok (.invokevirtual 169, 3) := by decide +kernel
theorem dX10_first_93 : decode cX10_first 93 = .ok (.iload_n 3, 1) := by decide +kernel
theorem dX10_first_94 : decode cX10_first 94 = .ok (.ireturn, 1) := by decide +kernel
def lp_X10_first_49 (a1 : Int32) (a2 : Int32) (k89 : Int32 → Mem → Option (Int32 × Mem)) : Nat → Int32 → Int32 → Mem → Option (Int32 × Mem)
  | 0, _, _, _ => none
  | n + 1, x7, x8, μ9 => if 400 < x8 then (k89 x7 μ9) else (if x7 = (-1) then ((f_X10_of μ9 a1 2).bind fun (q10 : Int32) => nm (fun (x11 : Int32) => (f_X10_goes μ9 1 0).bind fun (q12 : Int32 × Mem) => lp_X10_first_49 a1 a2 k89 n x11 (x8 + 1) q12.2) fun (J75 : Int32 → Option (Int32 × Mem)) => if q10 < a2 then (J75 x7) else (J75 x8)) else (k89 x7 μ9))
def f_X10_first (μ : Mem) (a1 : Int32) (a2 : Int32) : Option (Int32 × Mem) := (f_X10_isGuest μ a1).bind fun (q1 : Int32) => nm (fun (x2 : Int32) => nm (upm μ 0 12 0 x2) fun (μ3 : Mem) => if (μ3 0 12 0) ≤ 0 then ((f_X10_putsAside μ3).bind fun (q4 : Mem) => lp_X10_first_49 a1 a2 (fun (x5 : Int32) (μ6 : Mem) => (f_X10_comesBack μ6).bind fun (q13 : Mem) => some (x5, q13)) 4096 (-1) 0 q4) else (some (0, μ3))) fun (J28 : Int32 → Option (Int32 × Mem)) => if q1 = 0 then (J28 1) else ((f_X10_isIn a2 1 99).bind fun (q14 : Int32) => if q14 = 0 then (J28 2) else (J28 0))
set_option maxHeartbeats 4000000 in
set_option maxRecDepth 100000 in
theorem c_X10_first (G : GG) (l : Launch) (μ : Mem) (a1 : Int32) (a2 : Int32) : CI G l yX10_first (.code yX10_first cX10_first 6 (some .int)) 59 [.ref (gad G 0 12), .int a1, .int a2] μ (f_X10_first μ a1 a2) := by
  refine CI.of (own := "SaturdayKeepModel") (L0 := [some (.ref (gad G 0 12)), some (.int a1), some (.int a2), none, none, none]) rfl rfl rfl (Nat.le_of_ble_eq_true rfl) (fun C hl hC => ?_)
  subst hl
  delta f_X10_first
  refine aw_aload_n (pc := 0) (i := 0) hC dX10_first_0 rfl rfl ?_
  refine aw_aload_n (pc := 1) (i := 0) hC dX10_first_1 rfl rfl ?_
  refine aw_iload_n (pc := 2) (i := 1) hC dX10_first_2 rfl rfl ?_
  refine aw_callVR (pc := 3) (As := [.int a1]) hC mb_X10_isGuest kw1535 (by decide) (c_X10_isGuest G C.2.1   μ a1) (v0 (j := 12) (by decide)) rfl rfl rfl (Nat.le_of_ble_eq_true rfl) dX10_first_3 (fun q1 => ?_)
  refine aw_nmJ (fun (J28 : Int32 → Option (Int32 × Mem)) => ∀ (x2 : Int32), AW G C (qI G C 0 0) 0 0 6 μ 28 [some (.ref (gad G 0 12)), some (.int a1), some (.int a2), none, none, none] [.int x2, .ref (gad G 0 12)] (J28 x2)) (fun x2 => ?_) (fun J28 hJ28 => ?_)
  · skip
    refine aw_putIN (pc := 28) hC inX10 (v0 (j := 12) (by decide)) rfl rfl 0 (by decide) kw1314 rfl tyX10 tyX10_ok nmX10 rfl rfl (Nat.le_of_ble_eq_true rfl) rfl dX10_first_28 (fun μ3 => ?_)
    refine aw_aload_n (pc := 31) (i := 0) hC dX10_first_31 rfl rfl ?_
    refine aw_get (pc := 32) hC inX10 (v0 (j := 12) (by decide)) rfl rfl 0 (by decide) kw1314 rfl rfl dX10_first_32 ?_
    refine aw_if_le (pc := 35) (tgt := 40) hC dX10_first_35 (by decide) (fun _ => ?_) (fun _ => ?_)
    · skip
      refine aw_aload_n (pc := 40) (i := 0) hC dX10_first_40 rfl rfl ?_
      refine aw_callVV (pc := 41) (As := []) hC mb_X10_putsAside kw1401 (by decide) (c_X10_putsAside G C.2.1   μ3 ) (v0 (j := 12) (by decide)) rfl rfl rfl (Nat.le_of_ble_eq_true rfl) dX10_first_41 (fun q4 => ?_)
      refine aw_iconst (pc := 44) (v := (-1)) hC dX10_first_44 icm1 ?_
      refine aw_istore_n (pc := 45) (i := 3) hC dX10_first_45 rfl rfl (by decide) ?_
      refine aw_iconst (pc := 46) (v := 0) hC dX10_first_46 ic0 ?_
      refine aw_istore (pc := 47) hC dX10_first_47 rfl (by decide) ?_
      have hL49 : ∀ (k89 : Int32 → Mem → Option (Int32 × Mem)) (hk89 : ∀ (x5 : Int32) (μ6 : Mem), AW G C (qI G C 0 0) 0 0 6 μ6 89 [some (.ref (gad G 0 12)), none, none, some (.int x5), none, none] [] (k89 x5 μ6)) (n : Nat) (x7 : Int32) (x8 : Int32) (μ9 : Mem), AW G C (qI G C 0 0) 0 0 6 μ9 49 [some (.ref (gad G 0 12)), some (.int a1), some (.int a2), some (.int x7), some (.int x8), none] [] (lp_X10_first_49 a1 a2 k89 n x7 x8 μ9) := by
        intro k89 hk89 n
        induction n with
        | zero => intro x7 x8 μ9; exact aw_none
        | succ n ih =>
          intro x7 x8 μ9
          rw [lp_X10_first_49]
          refine aw_iload (pc := 49) hC dX10_first_49 rfl ?_
          refine aw_sipush (pc := 51) (v := 400) hC dX10_first_51 sc400 ?_
          refine aw_icmp_gt (pc := 54) (tgt := 89) hC dX10_first_54 (by decide) (fun _ => ?_) (fun _ => ?_)
          · skip
            exact aw_drop [1, 2, 4] (hk89 x7 μ9)
          · skip
            refine aw_iload_n (pc := 57) (i := 3) hC dX10_first_57 rfl rfl ?_
            refine aw_iconst (pc := 58) (v := (-1)) hC dX10_first_58 icm1 ?_
            refine aw_icmp_ne (pc := 59) (tgt := 89) hC dX10_first_59 (by decide) (fun _ => ?_) (fun _ => ?_)
            · skip
              refine aw_aload_n (pc := 62) (i := 0) hC dX10_first_62 rfl rfl ?_
              refine aw_iload_n (pc := 63) (i := 1) hC dX10_first_63 rfl rfl ?_
              refine aw_iconst (pc := 64) (v := 2) hC dX10_first_64 ic2 ?_
              refine aw_callVR (pc := 65) (As := [.int a1, .int 2]) hC mb_X10_of kw1539 (by decide) (c_X10_of G C.2.1   μ9 a1 2) (v0 (j := 12) (by decide)) rfl rfl rfl (Nat.le_of_ble_eq_true rfl) dX10_first_65 (fun q10 => ?_)
              refine aw_iload_n (pc := 68) (i := 2) hC dX10_first_68 rfl rfl ?_
              refine aw_nmJ (fun (J75 : Int32 → Option (Int32 × Mem)) => ∀ (x11 : Int32), AW G C (qI G C 0 0) 0 0 6 μ9 75 [some (.ref (gad G 0 12)), some (.int a1), some (.int a2), some (.int x11), some (.int x8), none] [] (J75 x11)) (fun x11 => ?_) (fun J75 hJ75 => ?_)
              · skip
                refine aw_aload_n (pc := 75) (i := 0) hC dX10_first_75 rfl rfl ?_
                refine aw_iconst (pc := 76) (v := 1) hC dX10_first_76 ic1 ?_
                refine aw_iconst (pc := 77) (v := 0) hC dX10_first_77 ic0 ?_
                refine aw_callVI (pc := 78) (As := [.int 1, .int 0]) hC mb_X10_goes kw1659 (by decide) (c_X10_goes G C.2.1   μ9 1 0) (v0 (j := 12) (by decide)) rfl rfl rfl (Nat.le_of_ble_eq_true rfl) dX10_first_78 (fun q12 => ?_)
                refine aw_istore (pc := 81) hC dX10_first_81 rfl (by decide) ?_
                refine aw_iinc (pc := 83) (v := x8 + 1) hC dX10_first_83 rfl (congrArg (HAdd.hAdd _) ic1) rfl (by decide) ?_
                refine aw_goto (pc := 86) (tgt := 49) hC dX10_first_86 (by decide) ?_
                exact aw_drop [5] (ih x11 (x8 + 1) q12.2)
              · skip
                refine aw_icmp_lt (pc := 69) (tgt := 75) hC dX10_first_69 (by decide) (fun _ => ?_) (fun _ => ?_)
                · skip
                  exact hJ75 x7
                · skip
                  refine aw_iload (pc := 72) hC dX10_first_72 rfl ?_
                  refine aw_istore_n (pc := 74) (i := 3) hC dX10_first_74 rfl rfl (by decide) ?_
                  exact hJ75 x8
            · skip
              exact aw_drop [1, 2, 4] (hk89 x7 μ9)
      refine hL49 (fun (x5 : Int32) (μ6 : Mem) => (f_X10_comesBack μ6).bind fun (q13 : Mem) => some (x5, q13)) (fun x5 μ6 => ?_) 4096 (-1) 0 q4
      · skip
        refine aw_aload_n (pc := 89) (i := 0) hC dX10_first_89 rfl rfl ?_
        refine aw_callVV (pc := 90) (As := []) hC mb_X10_comesBack kw1519 (by decide) (c_X10_comesBack G C.2.1   μ6 ) (v0 (j := 12) (by decide)) rfl rfl rfl (Nat.le_of_ble_eq_true rfl) dX10_first_90 (fun q13 => ?_)
        refine aw_iload_n (pc := 93) (i := 3) hC dX10_first_93 rfl rfl ?_
        exact aw_iret hC dX10_first_94
    · skip
      refine aw_iconst (pc := 38) (v := 0) hC dX10_first_38 ic0 ?_
      exact aw_iret hC dX10_first_39
  · skip
    refine aw_if_ne (pc := 6) (tgt := 13) hC dX10_first_6 (by decide) (fun _ => ?_) (fun _ => ?_)
    · skip
      refine aw_iconst (pc := 9) (v := 1) hC dX10_first_9 ic1 ?_
      refine aw_goto (pc := 10) (tgt := 28) hC dX10_first_10 (by decide) ?_
      exact hJ28 1
    · skip
      refine aw_iload_n (pc := 13) (i := 2) hC dX10_first_13 rfl rfl ?_
      refine aw_iconst (pc := 14) (v := 1) hC dX10_first_14 ic1 ?_
      refine aw_bipush (pc := 15) (v := 99) hC dX10_first_15 bc99 ?_
      refine aw_callSR (pc := 17) (As := [.int a2, .int 1, .int 99]) hC ms_X10_isIn kw1394 (by decide) (c_X10_isIn G C.2.1   μ a2 1 99) rfl (Nat.le_of_ble_eq_true rfl) dX10_first_17 (fun q14 => ?_)
      refine aw_if_ne (pc := 20) (tgt := 27) hC dX10_first_20 (by decide) (fun _ => ?_) (fun _ => ?_)
      · skip
        refine aw_iconst (pc := 23) (v := 2) hC dX10_first_23 ic2 ?_
        refine aw_goto (pc := 24) (tgt := 28) hC dX10_first_24 (by decide) ?_
        exact hJ28 2
      · skip
        refine aw_iconst (pc := 27) (v := 0) hC dX10_first_27 ic0 ?_
        exact hJ28 0
theorem dX10_builtBy_0 : decode cX10_builtBy 0 = .ok (.aload_n 0, 1) := by decide +kernel
theorem dX10_builtBy_1 : decode cX10_builtBy 1 = .ok (.invokevirtual 159, 3) := by decide +kernel
theorem dX10_builtBy_4 : decode cX10_builtBy 4 = .ok (.iconst (-1), 1) := by decide +kernel
theorem dX10_builtBy_5 : decode cX10_builtBy 5 = .ok (.istore_n 2, 1) := by decide +kernel
theorem dX10_builtBy_6 : decode cX10_builtBy 6 = .ok (.iconst 0, 1) := by decide +kernel
theorem dX10_builtBy_7 : decode cX10_builtBy 7 = .ok (.istore_n 3, 1) := by decide +kernel
theorem dX10_builtBy_8 : decode cX10_builtBy 8 = .ok (.iload_n 3, 1) := by decide +kernel
theorem dX10_builtBy_9 : decode cX10_builtBy 9 = .ok (.sipush 400, 3) := by decide +kernel
theorem dX10_builtBy_12 : decode cX10_builtBy 12 = .ok (.if_icmp .gt 48, 3) := by decide +kernel
theorem dX10_builtBy_15 : decode cX10_builtBy 15 = .ok (.iload_n 2, 1) := by decide +kernel
theorem dX10_builtBy_16 : decode cX10_builtBy 16 = .ok (.iconst (-1), 1) := by decide +kernel
theorem dX10_builtBy_17 : decode cX10_builtBy 17 = .ok (.if_icmp .ne 43, 3) := by decide +kernel
theorem dX10_builtBy_20 : decode cX10_builtBy 20 = .ok (.iload_n 1, 1) := by decide +kernel
theorem dX10_builtBy_21 : decode cX10_builtBy 21 = .ok (.ifCond .ne 16, 3) := by decide +kernel
theorem dX10_builtBy_24 : decode cX10_builtBy 24 = .ok (.aload_n 0, 1) := by decide +kernel
theorem dX10_builtBy_25 : decode cX10_builtBy 25 = .ok (.getfield 7, 3) := by decide +kernel
theorem dX10_builtBy_28 : decode cX10_builtBy 28 = .ok (.bipush 7, 2) := by decide +kernel
theorem dX10_builtBy_30 : decode cX10_builtBy 30 = .ok (.iaload, 1) := by decide +kernel
theorem dX10_builtBy_31 : decode cX10_builtBy 31 = .ok (.ifCond .ne 19, 3) := by decide +kernel
theorem dX10_builtBy_34 : decode cX10_builtBy 34 = .ok (.goto 14, 3) := by decide +kernel
theorem dX10_builtBy_37 : decode cX10_builtBy 37 = .ok (.aload_n 0, 1) := by decide +kernel
theorem dX10_builtBy_38 : decode cX10_builtBy 38 = .ok (.getfield 7, 3) := by decide +kernel
theorem dX10_builtBy_41 : decode cX10_builtBy 41 = .ok (.bipush 8, 2) := by decide +kernel
theorem dX10_builtBy_43 : decode cX10_builtBy 43 = .ok (.iaload, 1) := by decide +kernel
theorem dX10_builtBy_44 : decode cX10_builtBy 44 = .ok (.iload_n 1, 1) := by decide +kernel
theorem dX10_builtBy_45 : decode cX10_builtBy 45 = .ok (.if_icmp .lt 5, 3) := by decide +kernel
theorem dX10_builtBy_48 : decode cX10_builtBy 48 = .ok (.iload_n 3, 1) := by decide +kernel
theorem dX10_builtBy_49 : decode cX10_builtBy 49 = .ok (.istore_n 2, 1) := by decide +kernel
theorem dX10_builtBy_50 : decode cX10_builtBy 50 = .ok (.aload_n 0, 1) := by decide +kernel
theorem dX10_builtBy_51 : decode cX10_builtBy 51 = .ok (.invokevirtual 264, 3) := by decide +kernel
theorem dX10_builtBy_54 : decode cX10_builtBy 54 = .ok (.iinc 3 1, 3) := by decide +kernel
theorem dX10_builtBy_57 : decode cX10_builtBy 57 = .ok (.goto (-49), 3) := by decide +kernel
theorem dX10_builtBy_60 : decode cX10_builtBy 60 = .ok (.aload_n 0, 1) := by decide +kernel
theorem dX10_builtBy_61 : decode cX10_builtBy 61 = .ok (.invokevirtual 169, 3) := by decide +kernel
theorem dX10_builtBy_64 : decode cX10_builtBy 64 = .ok (.iload_n 2, 1) := by decide +kernel
theorem dX10_builtBy_65 : decode cX10_builtBy 65 = .ok (.ireturn, 1) := by decide +kernel
def lp_X10_builtBy_8 (a1 : Int32) (k60 : Int32 → Mem → Option (Int32 × Mem)) : Nat → Int32 → Int32 → Mem → Option (Int32 × Mem)
  | 0, _, _, _ => none
  | n + 1, x4, x5, μ6 => if 400 < x5 then (k60 x4 μ6) else (if x4 = (-1) then (nm (fun (x7 : Int32) => (f_X10_builds μ6).bind fun (q8 : Mem) => lp_X10_builtBy_8 a1 k60 n x7 (x5 + 1) q8) fun (J50 : Int32 → Option (Int32 × Mem)) => nm (J50 x5) fun (J48 : Option (Int32 × Mem)) => if a1 = 0 then (ix 7 704 (if (μ6 0 13 (Int32.toNatClampNeg 7)) = 0 then (J48) else (J50 x4))) else (ix 8 704 (if (μ6 0 13 (Int32.toNatClampNeg 8)) < a1 then (J50 x4) else (J48)))) else (k60 x4 μ6))
def f_X10_builtBy (μ : Mem) (a1 : Int32) : Option (Int32 × Mem) := (f_X10_putsAside μ).bind fun (q1 : Mem) => lp_X10_builtBy_8 a1 (fun (x2 : Int32) (μ3 : Mem) => (f_X10_comesBack μ3).bind fun (q9 : Mem) => some (x2, q9)) 4096 (-1) 0 q1
set_option maxHeartbeats 4000000 in
set_option maxRecDepth 100000 in
theorem c_X10_builtBy (G : GG) (l : Launch) (μ : Mem) (a1 : Int32) : CI G l yX10_builtBy (.code yX10_builtBy cX10_builtBy 4 (some .int)) 3 [.ref (gad G 0 12), .int a1] μ (f_X10_builtBy μ a1) := by
  refine CI.of (own := "SaturdayKeepModel") (L0 := [some (.ref (gad G 0 12)), some (.int a1), none, none]) rfl rfl rfl (Nat.le_of_ble_eq_true rfl) (fun C hl hC => ?_)
  subst hl
  delta f_X10_builtBy
  refine aw_aload_n (pc := 0) (i := 0) hC dX10_builtBy_0 rfl rfl ?_
  refine aw_callVV (pc := 1) (As := []) hC mb_X10_putsAside kw1401 (by decide) (c_X10_putsAside G C.2.1   μ ) (v0 (j := 12) (by decide)) rfl rfl rfl (Nat.le_of_ble_eq_true rfl) dX10_builtBy_1 (fun q1 => ?_)
  refine aw_iconst (pc := 4) (v := (-1)) hC dX10_builtBy_4 icm1 ?_
  refine aw_istore_n (pc := 5) (i := 2) hC dX10_builtBy_5 rfl rfl (by decide) ?_
  refine aw_iconst (pc := 6) (v := 0) hC dX10_builtBy_6 ic0 ?_
  refine aw_istore_n (pc := 7) (i := 3) hC dX10_builtBy_7 rfl rfl (by decide) ?_
  have hL8 : ∀ (k60 : Int32 → Mem → Option (Int32 × Mem)) (hk60 : ∀ (x2 : Int32) (μ3 : Mem), AW G C (qI G C 0 0) 0 0 4 μ3 60 [some (.ref (gad G 0 12)), none, some (.int x2), none] [] (k60 x2 μ3)) (n : Nat) (x4 : Int32) (x5 : Int32) (μ6 : Mem), AW G C (qI G C 0 0) 0 0 4 μ6 8 [some (.ref (gad G 0 12)), some (.int a1), some (.int x4), some (.int x5)] [] (lp_X10_builtBy_8 a1 k60 n x4 x5 μ6) := by
    intro k60 hk60 n
    induction n with
    | zero => intro x4 x5 μ6; exact aw_none
    | succ n ih =>
      intro x4 x5 μ6
      rw [lp_X10_builtBy_8]
      refine aw_iload_n (pc := 8) (i := 3) hC dX10_builtBy_8 rfl rfl ?_
      refine aw_sipush (pc := 9) (v := 400) hC dX10_builtBy_9 sc400 ?_
      refine aw_icmp_gt (pc := 12) (tgt := 60) hC dX10_builtBy_12 (by decide) (fun _ => ?_) (fun _ => ?_)
      · skip
        exact aw_drop [1, 3] (hk60 x4 μ6)
      · skip
        refine aw_iload_n (pc := 15) (i := 2) hC dX10_builtBy_15 rfl rfl ?_
        refine aw_iconst (pc := 16) (v := (-1)) hC dX10_builtBy_16 icm1 ?_
        refine aw_icmp_ne (pc := 17) (tgt := 60) hC dX10_builtBy_17 (by decide) (fun _ => ?_) (fun _ => ?_)
        · skip
          refine aw_iload_n (pc := 20) (i := 1) hC dX10_builtBy_20 rfl rfl ?_
          refine aw_nmJ (fun (J50 : Int32 → Option (Int32 × Mem)) => ∀ (x7 : Int32), AW G C (qI G C 0 0) 0 0 4 μ6 50 [some (.ref (gad G 0 12)), some (.int a1), some (.int x7), some (.int x5)] [] (J50 x7)) (fun x7 => ?_) (fun J50 hJ50 => ?_)
          · skip
            refine aw_aload_n (pc := 50) (i := 0) hC dX10_builtBy_50 rfl rfl ?_
            refine aw_callVV (pc := 51) (As := []) hC mb_X10_builds kw1675 (by decide) (c_X10_builds G C.2.1   μ6 ) (v0 (j := 12) (by decide)) rfl rfl rfl (Nat.le_of_ble_eq_true rfl) dX10_builtBy_51 (fun q8 => ?_)
            refine aw_iinc (pc := 54) (v := x5 + 1) hC dX10_builtBy_54 rfl (congrArg (HAdd.hAdd _) ic1) rfl (by decide) ?_
            refine aw_goto (pc := 57) (tgt := 8) hC dX10_builtBy_57 (by decide) ?_
            exact ih x7 (x5 + 1) q8
          · skip
            refine aw_nmJ (fun (J48 : Option (Int32 × Mem)) => AW G C (qI G C 0 0) 0 0 4 μ6 48 [some (.ref (gad G 0 12)), some (.int a1), none, some (.int x5)] [] (J48)) ?_ (fun J48 hJ48 => ?_)
            · skip
              refine aw_iload_n (pc := 48) (i := 3) hC dX10_builtBy_48 rfl rfl ?_
              refine aw_istore_n (pc := 49) (i := 2) hC dX10_builtBy_49 rfl rfl (by decide) ?_
              exact hJ50 x5
            · skip
              refine aw_if_ne (pc := 21) (tgt := 37) hC dX10_builtBy_21 (by decide) (fun _ => ?_) (fun _ => ?_)
              · skip
                refine aw_aload_n (pc := 24) (i := 0) hC dX10_builtBy_24 rfl rfl ?_
                refine aw_get (pc := 25) hC inX10 (v0 (j := 12) (by decide)) rfl rfl 1 (by decide) kw1315 rfl rfl dX10_builtBy_25 ?_
                refine aw_bipush (pc := 28) (v := 7) hC dX10_builtBy_28 bc7 ?_
                refine aw_iaload (pc := 30) hC (v0 (j := 13) (by decide)) rfl dX10_builtBy_30 ?_
                refine aw_if_ne (pc := 31) (tgt := 50) hC dX10_builtBy_31 (by decide) (fun _ => ?_) (fun _ => ?_)
                · skip
                  refine aw_goto (pc := 34) (tgt := 48) hC dX10_builtBy_34 (by decide) ?_
                  exact aw_drop [2] (hJ48)
                · skip
                  exact hJ50 x4
              · skip
                refine aw_aload_n (pc := 37) (i := 0) hC dX10_builtBy_37 rfl rfl ?_
                refine aw_get (pc := 38) hC inX10 (v0 (j := 12) (by decide)) rfl rfl 1 (by decide) kw1315 rfl rfl dX10_builtBy_38 ?_
                refine aw_bipush (pc := 41) (v := 8) hC dX10_builtBy_41 bc8 ?_
                refine aw_iaload (pc := 43) hC (v0 (j := 13) (by decide)) rfl dX10_builtBy_43 ?_
                refine aw_iload_n (pc := 44) (i := 1) hC dX10_builtBy_44 rfl rfl ?_
                refine aw_icmp_lt (pc := 45) (tgt := 50) hC dX10_builtBy_45 (by decide) (fun _ => ?_) (fun _ => ?_)
                · skip
                  exact hJ50 x4
                · skip
                  exact aw_drop [2] (hJ48)
        · skip
          exact aw_drop [1, 3] (hk60 x4 μ6)
  refine hL8 (fun (x2 : Int32) (μ3 : Mem) => (f_X10_comesBack μ3).bind fun (q9 : Mem) => some (x2, q9)) (fun x2 μ3 => ?_) 4096 (-1) 0 q1
  · skip
    refine aw_aload_n (pc := 60) (i := 0) hC dX10_builtBy_60 rfl rfl ?_
    refine aw_callVV (pc := 61) (As := []) hC mb_X10_comesBack kw1519 (by decide) (c_X10_comesBack G C.2.1   μ3 ) (v0 (j := 12) (by decide)) rfl rfl rfl (Nat.le_of_ble_eq_true rfl) dX10_builtBy_61 (fun q9 => ?_)
    refine aw_iload_n (pc := 64) (i := 2) hC dX10_builtBy_64 rfl rfl ?_
    exact aw_iret hC dX10_builtBy_65
theorem dX10_gone_0 : decode cX10_gone 0 = .ok (.aload_n 0, 1) := by decide +kernel
theorem dX10_gone_1 : decode cX10_gone 1 = .ok (.iconst 0, 1) := by decide +kernel
theorem dX10_gone_2 : decode cX10_gone 2 = .ok (.putfield 42, 3) := by decide +kernel
theorem dX10_gone_5 : decode cX10_gone 5 = .ok (.aload_n 0, 1) := by decide +kernel
theorem dX10_gone_6 : decode cX10_gone 6 = .ok (.iconst 0, 1) := by decide +kernel
theorem dX10_gone_7 : decode cX10_gone 7 = .ok (.invokevirtual 292, 3) := by decide +kernel
theorem dX10_gone_10 : decode cX10_gone 10 = .ok (.ireturn, 1) := by decide +kernel
def f_X10_gone (μ : Mem) : Option (Int32 × Mem) := nm (upm μ 0 12 0 0) fun (μ1 : Mem) => (f_X10_builtBy μ1 0).bind fun (q2 : Int32 × Mem) => some (q2.1, q2.2)
set_option maxHeartbeats 4000000 in
set_option maxRecDepth 100000 in
theorem c_X10_gone (G : GG) (l : Launch) (μ : Mem) : CI G l yX10_gone (.code yX10_gone cX10_gone 1 (some .int)) 4 [.ref (gad G 0 12)] μ (f_X10_gone μ) := by
  refine CI.of (own := "SaturdayKeepModel") (L0 := [some (.ref (gad G 0 12))]) rfl rfl rfl (Nat.le_of_ble_eq_true rfl) (fun C hl hC => ?_)
  subst hl
  delta f_X10_gone
  refine aw_aload_n (pc := 0) (i := 0) hC dX10_gone_0 rfl rfl ?_
  refine aw_iconst (pc := 1) (v := 0) hC dX10_gone_1 ic0 ?_
  refine aw_putIN (pc := 2) hC inX10 (v0 (j := 12) (by decide)) rfl rfl 0 (by decide) kw1314 rfl tyX10 tyX10_ok nmX10 rfl rfl (Nat.le_of_ble_eq_true rfl) rfl dX10_gone_2 (fun μ1 => ?_)
  refine aw_aload_n (pc := 5) (i := 0) hC dX10_gone_5 rfl rfl ?_
  refine aw_iconst (pc := 6) (v := 0) hC dX10_gone_6 ic0 ?_
  refine aw_callVI (pc := 7) (As := [.int 0]) hC mb_X10_builtBy kw1699 (by decide) (c_X10_builtBy G C.2.1   μ1 0) (v0 (j := 12) (by decide)) rfl rfl rfl (Nat.le_of_ble_eq_true rfl) dX10_gone_7 (fun q2 => ?_)
  exact aw_iret hC dX10_gone_10
theorem dX10_stand_0 : decode cX10_stand 0 = .ok (.aload_n 0, 1) := by decide +kernel
theorem dX10_stand_1 : decode cX10_stand 1 = .ok (.iload_n 1, 1) := by decide +kernel
theorem dX10_stand_2 : decode cX10_stand 2 = .ok (.iconst 1, 1) := by decide +kernel
theorem dX10_stand_3 : decode cX10_stand 3 = .ok (.sipush 9999, 3) := by decide +kernel
theorem dX10_stand_6 : decode cX10_stand 6 = .ok (.invokestatic 45, 3) := by decide +kernel
theorem dX10_stand_9 : decode cX10_stand 9 = .ok (.ifCond .ne 7, 3) := by decide +kernel
theorem dX10_stand_12 : decode cX10_stand 12 = .ok (.iconst 1, 1) := by decide +kernel
theorem dX10_stand_13 : decode cX10_stand 13 = .ok (.goto 4, 3) := by decide +kernel
theorem dX10_stand_16 : decode cX10_stand 16 = .ok (.iconst 0, 1) := by decide +kernel
theorem dX10_stand_17 : decode cX10_stand 17 = .ok (.putfield 42, 3) := by decide +kernel
theorem dX10_stand_20 : decode cX10_stand 20 = .ok (.aload_n 0, 1) := by decide +kernel
theorem dX10_stand_21 : decode cX10_stand 21 = .ok (.getfield 42, 3) := by decide +kernel
theorem dX10_stand_24 : decode cX10_stand 24 = .ok (.ifCond .le 7, 3) := by decide +kernel
theorem dX10_stand_27 : decode cX10_stand 27 = .ok (.iconst 0, 1) := by decide +kernel
theorem dX10_stand_28 : decode cX10_stand 28 = .ok (.goto 8, 3) := by decide +kernel
theorem dX10_stand_31 : decode cX10_stand 31 = .ok (.aload_n 0, 1) := by decide +kernel
theorem dX10_stand_32 : decode cX10_stand 32 = .ok (.iload_n 1, 1) := by decide +kernel
theorem dX10_stand_33 : decode cX10_stand 33 = .ok (.invokevirtual 292, 3) := by decide +kernel
theorem dX10_stand_36 : decode cX10_stand 36 = .ok (.ireturn, 1) := by decide +kernel
def f_X10_stand (μ : Mem) (a1 : Int32) : Option (Int32 × Mem) := (f_X10_isIn a1 1 9999).bind fun (q1 : Int32) => nm (fun (x2 : Int32) => nm (upm μ 0 12 0 x2) fun (μ3 : Mem) => if (μ3 0 12 0) ≤ 0 then ((f_X10_builtBy μ3 a1).bind fun (q4 : Int32 × Mem) => some (q4.1, q4.2)) else (some (0, μ3))) fun (J17 : Int32 → Option (Int32 × Mem)) => if q1 = 0 then (J17 1) else (J17 0)
set_option maxHeartbeats 4000000 in
set_option maxRecDepth 100000 in
theorem c_X10_stand (G : GG) (l : Launch) (μ : Mem) (a1 : Int32) : CI G l yX10_stand (.code yX10_stand cX10_stand 2 (some .int)) 4 [.ref (gad G 0 12), .int a1] μ (f_X10_stand μ a1) := by
  refine CI.of (own := "SaturdayKeepModel") (L0 := [some (.ref (gad G 0 12)), some (.int a1)]) rfl rfl rfl (Nat.le_of_ble_eq_true rfl) (fun C hl hC => ?_)
  subst hl
  delta f_X10_stand
  refine aw_aload_n (pc := 0) (i := 0) hC dX10_stand_0 rfl rfl ?_
  refine aw_iload_n (pc := 1) (i := 1) hC dX10_stand_1 rfl rfl ?_
  refine aw_iconst (pc := 2) (v := 1) hC dX10_stand_2 ic1 ?_
  refine aw_sipush (pc := 3) (v := 9999) hC dX10_stand_3 sc9999 ?_
  refine aw_callSR (pc := 6) (As := [.int a1, .int 1, .int 9999]) hC ms_X10_isIn kw1394 (by decide) (c_X10_isIn G C.2.1   μ a1 1 9999) rfl (Nat.le_of_ble_eq_true rfl) dX10_stand_6 (fun q1 => ?_)
  refine aw_nmJ (fun (J17 : Int32 → Option (Int32 × Mem)) => ∀ (x2 : Int32), AW G C (qI G C 0 0) 0 0 2 μ 17 [some (.ref (gad G 0 12)), some (.int a1)] [.int x2, .ref (gad G 0 12)] (J17 x2)) (fun x2 => ?_) (fun J17 hJ17 => ?_)
  · skip
    refine aw_putIN (pc := 17) hC inX10 (v0 (j := 12) (by decide)) rfl rfl 0 (by decide) kw1314 rfl tyX10 tyX10_ok nmX10 rfl rfl (Nat.le_of_ble_eq_true rfl) rfl dX10_stand_17 (fun μ3 => ?_)
    refine aw_aload_n (pc := 20) (i := 0) hC dX10_stand_20 rfl rfl ?_
    refine aw_get (pc := 21) hC inX10 (v0 (j := 12) (by decide)) rfl rfl 0 (by decide) kw1314 rfl rfl dX10_stand_21 ?_
    refine aw_if_le (pc := 24) (tgt := 31) hC dX10_stand_24 (by decide) (fun _ => ?_) (fun _ => ?_)
    · skip
      refine aw_aload_n (pc := 31) (i := 0) hC dX10_stand_31 rfl rfl ?_
      refine aw_iload_n (pc := 32) (i := 1) hC dX10_stand_32 rfl rfl ?_
      refine aw_callVI (pc := 33) (As := [.int a1]) hC mb_X10_builtBy kw1699 (by decide) (c_X10_builtBy G C.2.1   μ3 a1) (v0 (j := 12) (by decide)) rfl rfl rfl (Nat.le_of_ble_eq_true rfl) dX10_stand_33 (fun q4 => ?_)
      exact aw_iret hC dX10_stand_36
    · skip
      refine aw_iconst (pc := 27) (v := 0) hC dX10_stand_27 ic0 ?_
      refine aw_goto (pc := 28) (tgt := 36) hC dX10_stand_28 (by decide) ?_
      exact aw_iret hC dX10_stand_36
  · skip
    refine aw_if_ne (pc := 9) (tgt := 16) hC dX10_stand_9 (by decide) (fun _ => ?_) (fun _ => ?_)
    · skip
      refine aw_iconst (pc := 12) (v := 1) hC dX10_stand_12 ic1 ?_
      refine aw_goto (pc := 13) (tgt := 17) hC dX10_stand_13 (by decide) ?_
      exact hJ17 1
    · skip
      refine aw_iconst (pc := 16) (v := 0) hC dX10_stand_16 ic0 ?_
      exact hJ17 0
theorem dX10_oddsOf_0 : decode cX10_oddsOf 0 = .ok (.lconst 1, 1) := by decide +kernel
theorem dX10_oddsOf_1 : decode cX10_oddsOf 1 = .ok (.lstore_n 2, 1) := by decide +kernel
theorem dX10_oddsOf_2 : decode cX10_oddsOf 2 = .ok (.lconst 1, 1) := by decide +kernel
theorem dX10_oddsOf_3 : decode cX10_oddsOf 3 = .ok (.lstore 4, 2) := by decide +kernel
theorem dX10_oddsOf_5 : decode cX10_oddsOf 5 = .ok (.iconst 0, 1) := by decide +kernel
theorem dX10_oddsOf_6 : decode cX10_oddsOf 6 = .ok (.istore 6, 2) := by decide +kernel
theorem dX10_oddsOf_8 : decode cX10_oddsOf 8 = .ok (.iload 6, 2) := by decide +kernel
theorem dX10_oddsOf_10 : decode cX10_oddsOf 10 = .ok (.aload_n 0, 1) := by decide +kernel
theorem dX10_oddsOf_11 : decode cX10_oddsOf 11 = .ok (.getfield 7, 3) := by decide +kernel
theorem dX10_oddsOf_14 : decode cX10_oddsOf 14 = .ok (.iconst 3, 1) := by decide +kernel
theorem dX10_oddsOf_15 : decode cX10_oddsOf 15 = .ok (.iaload, 1) := by decide +kernel
theorem dX10_oddsOf_16 : decode cX10_oddsOf 16 = .ok (.if_icmp .ge 42, 3) := by decide +kernel
theorem dX10_oddsOf_19 : decode cX10_oddsOf 19 = .ok (.iload_n 1, 1) := by decide +kernel
theorem dX10_oddsOf_20 : decode cX10_oddsOf 20 = .ok (.iload 6, 2) := by decide +kernel
theorem dX10_oddsOf_22 : decode cX10_oddsOf 22 = .ok (.invokestatic 53, 3) := by decide +kernel
theorem dX10_oddsOf_25 : decode cX10_oddsOf 25 = .ok (.ifCond .ne 6, 3) := by decide +kernel
theorem dX10_oddsOf_28 : decode cX10_oddsOf 28 = .ok (.goto 24, 3) := by decide +kernel
theorem dX10_oddsOf_31 : decode cX10_oddsOf 31 = .ok (.lload_n 2, 1) := by decide +kernel
theorem dX10_oddsOf_32 : decode cX10_oddsOf 32 = .ok (.ldc2_w 295, 3) := by decide +kernel
theorem dX10_oddsOf_35 : decode cX10_oddsOf 35 = .ok (.lmul, 1) := by decide +kernel
theorem dX10_oddsOf_36 : decode cX10_oddsOf 36 = .ok (.lstore_n 2, 1) := by decide +kernel
theorem dX10_oddsOf_37 : decode cX10_oddsOf 37 = .ok (.lload 4, 2) := by decide +kernel
theorem dX10_oddsOf_39 : decode cX10_oddsOf 39 = .ok (.bipush 10, 2) := by decide +kernel
theorem dX10_oddsOf_41 : decode cX10_oddsOf 41 = .ok (.aload_n 0, 1) := by decide +kernel
theorem dX10_oddsOf_42 : decode cX10_oddsOf 42 = .ok (.iload 6, 2) := by decide +kernel
theorem dX10_oddsOf_44 : decode cX10_oddsOf 44 = .ok (.invokevirtual 258, 3) := by decide +kernel
theorem dX10_oddsOf_47 : decode cX10_oddsOf 47 = .ok (.isub, 1) := by decide +kernel
theorem dX10_oddsOf_48 : decode cX10_oddsOf 48 = .ok (.i2l, 1) := by decide +kernel
theorem dX10_oddsOf_49 : decode cX10_oddsOf 49 = .ok (.lmul, 1) := by decide +kernel
theorem dX10_oddsOf_50 : decode cX10_oddsOf 50 = .ok (.lstore 4, 2) := by decide +kernel
theorem dX10_oddsOf_52 : decode cX10_oddsOf 52 = .ok (.iinc 6 1, 3) := by decide +kernel
theorem dX10_oddsOf_55 : decode cX10_oddsOf 55 = .ok (.goto (-47), 3) := by decide +kernel
theorem dX10_oddsOf_58 : decode cX10_oddsOf 58 = .ok (.lload_n 2, 1) := by decide +kernel
theorem dX10_oddsOf_59 : decode cX10_oddsOf 59 = .ok (.lload 4, 2) := by decide +kernel
theorem dX10_oddsOf_61 : decode cX10_oddsOf 61 = .ok (.lsub, 1) := by decide +kernel
theorem dX10_oddsOf_62 : decode cX10_oddsOf 62 = .ok (.ldc2_w 297, 3) := by decide +kernel
theorem dX10_oddsOf_65 : decode cX10_oddsOf 65 = .ok (.lmul, 1) := by decide +kernel
theorem dX10_oddsOf_66 : decode cX10_oddsOf 66 = .ok (.lload_n 2, 1) := by decide +kernel
theorem dX10_oddsOf_67 : decode cX10_oddsOf 67 = .ok (.ldiv, 1) := by decide +kernel
theorem dX10_oddsOf_68 : decode cX10_oddsOf 68 = .ok (.l2i, 1) := by decide +kernel
theorem dX10_oddsOf_69 : decode cX10_oddsOf 69 = .ok (.ireturn, 1) := by decide +kernel
def lp_X10_oddsOf_8 (a1 : Int32) (μ : Mem) (k58 : Int64 → Int64 → Option (Int32)) : Nat → Int64 → Int64 → Int32 → Option (Int32)
  | 0, _, _, _ => none
  | n + 1, x3, x4, x5 => ix 3 704 (if (μ 0 13 (Int32.toNatClampNeg 3)) ≤ x5 then (k58 x3 x4) else ((f_X10_isOf a1 x5).bind fun (q6 : Int32) => if q6 = 0 then (lp_X10_oddsOf_8 a1 μ k58 n x3 x4 (x5 + 1)) else ((f_X10_risk μ x5).bind fun (q7 : Int32) => lp_X10_oddsOf_8 a1 μ k58 n (x3 * 10) (x4 * ((10 - q7).toInt64)) (x5 + 1))))
def f_X10_oddsOf (μ : Mem) (a1 : Int32) : Option (Int32) := lp_X10_oddsOf_8 a1 μ (fun (x1 : Int64) (x2 : Int64) => nzl x1 (some ((((x1 - x2) * 10000) / x1).toInt32))) 4096 1 1 0
set_option maxHeartbeats 4000000 in
set_option maxRecDepth 100000 in
theorem c_X10_oddsOf (G : GG) (l : Launch) (μ : Mem) (a1 : Int32) : CR G l yX10_oddsOf (.code yX10_oddsOf cX10_oddsOf 7 (some .int)) 3 [.ref (gad G 0 12), .int a1] μ (f_X10_oddsOf μ a1) := by
  refine CR.of (own := "SaturdayKeepModel") (L0 := [some (.ref (gad G 0 12)), some (.int a1), none, none, none, none, none]) rfl rfl rfl (Nat.le_of_ble_eq_true rfl) (fun C hl hC => ?_)
  subst hl
  delta f_X10_oddsOf
  refine aw_lconst (pc := 0) (v := 1) hC dX10_oddsOf_0 lc1 ?_
  refine aw_lstore_n (pc := 1) (i := 2) hC dX10_oddsOf_1 rfl rfl (by decide) ?_
  refine aw_lconst (pc := 2) (v := 1) hC dX10_oddsOf_2 lc1 ?_
  refine aw_lstore (pc := 3) hC dX10_oddsOf_3 rfl (by decide) ?_
  refine aw_iconst (pc := 5) (v := 0) hC dX10_oddsOf_5 ic0 ?_
  refine aw_istore (pc := 6) hC dX10_oddsOf_6 rfl (by decide) ?_
  have hL8 : ∀ (k58 : Int64 → Int64 → Option (Int32)) (hk58 : ∀ (x1 : Int64) (x2 : Int64), AW G C (qR G C 0 0 μ) 0 0 7 μ 58 [none, none, some (.long x1), none, some (.long x2), none, none] [] (k58 x1 x2)) (n : Nat) (x3 : Int64) (x4 : Int64) (x5 : Int32), AW G C (qR G C 0 0 μ) 0 0 7 μ 8 [some (.ref (gad G 0 12)), some (.int a1), some (.long x3), none, some (.long x4), none, some (.int x5)] [] (lp_X10_oddsOf_8 a1 μ k58 n x3 x4 x5) := by
    intro k58 hk58 n
    induction n with
    | zero => intro x3 x4 x5; exact aw_none
    | succ n ih =>
      intro x3 x4 x5
      rw [lp_X10_oddsOf_8]
      refine aw_iload (pc := 8) hC dX10_oddsOf_8 rfl ?_
      refine aw_aload_n (pc := 10) (i := 0) hC dX10_oddsOf_10 rfl rfl ?_
      refine aw_get (pc := 11) hC inX10 (v0 (j := 12) (by decide)) rfl rfl 1 (by decide) kw1315 rfl rfl dX10_oddsOf_11 ?_
      refine aw_iconst (pc := 14) (v := 3) hC dX10_oddsOf_14 ic3 ?_
      refine aw_iaload (pc := 15) hC (v0 (j := 13) (by decide)) rfl dX10_oddsOf_15 ?_
      refine aw_icmp_ge (pc := 16) (tgt := 58) hC dX10_oddsOf_16 (by decide) (fun _ => ?_) (fun _ => ?_)
      · skip
        exact aw_drop [0, 1, 6] (hk58 x3 x4)
      · skip
        refine aw_iload_n (pc := 19) (i := 1) hC dX10_oddsOf_19 rfl rfl ?_
        refine aw_iload (pc := 20) hC dX10_oddsOf_20 rfl ?_
        refine aw_callSR (pc := 22) (As := [.int a1, .int x5]) hC ms_X10_isOf kw1578 (by decide) (c_X10_isOf G C.2.1   μ a1 x5) rfl (Nat.le_of_ble_eq_true rfl) dX10_oddsOf_22 (fun q6 => ?_)
        refine aw_if_ne (pc := 25) (tgt := 31) hC dX10_oddsOf_25 (by decide) (fun _ => ?_) (fun _ => ?_)
        · skip
          refine aw_goto (pc := 28) (tgt := 52) hC dX10_oddsOf_28 (by decide) ?_
          refine aw_iinc (pc := 52) (v := x5 + 1) hC dX10_oddsOf_52 rfl (congrArg (HAdd.hAdd _) ic1) rfl (by decide) ?_
          refine aw_goto (pc := 55) (tgt := 8) hC dX10_oddsOf_55 (by decide) ?_
          exact ih x3 x4 (x5 + 1)
        · skip
          refine aw_lload_n (pc := 31) (i := 2) hC dX10_oddsOf_31 rfl rfl ?_
          refine aw_ldc2 (pc := 32) hC kw1715 dX10_oddsOf_32 ?_
          refine aw_lmul (pc := 35) hC dX10_oddsOf_35 ?_
          refine aw_lstore_n (pc := 36) (i := 2) hC dX10_oddsOf_36 rfl rfl (by decide) ?_
          refine aw_lload (pc := 37) hC dX10_oddsOf_37 rfl ?_
          refine aw_bipush (pc := 39) (v := 10) hC dX10_oddsOf_39 bc10 ?_
          refine aw_aload_n (pc := 41) (i := 0) hC dX10_oddsOf_41 rfl rfl ?_
          refine aw_iload (pc := 42) hC dX10_oddsOf_42 rfl ?_
          refine aw_callVR (pc := 44) (As := [.int x5]) hC mb_X10_risk kw1543 (by decide) (c_X10_risk G C.2.1   μ x5) (v0 (j := 12) (by decide)) rfl rfl rfl (Nat.le_of_ble_eq_true rfl) dX10_oddsOf_44 (fun q7 => ?_)
          refine aw_isub (pc := 47) hC dX10_oddsOf_47 ?_
          refine aw_i2l (pc := 48) hC dX10_oddsOf_48 ?_
          refine aw_lmul (pc := 49) hC dX10_oddsOf_49 ?_
          refine aw_lstore (pc := 50) hC dX10_oddsOf_50 rfl (by decide) ?_
          refine aw_iinc (pc := 52) (v := x5 + 1) hC dX10_oddsOf_52 rfl (congrArg (HAdd.hAdd _) ic1) rfl (by decide) ?_
          refine aw_goto (pc := 55) (tgt := 8) hC dX10_oddsOf_55 (by decide) ?_
          exact ih (x3 * 10) (x4 * ((10 - q7).toInt64)) (x5 + 1)
  refine hL8 (fun (x1 : Int64) (x2 : Int64) => nzl x1 (some ((((x1 - x2) * 10000) / x1).toInt32))) (fun x1 x2 => ?_) 4096 1 1 0
  · skip
    refine aw_lload_n (pc := 58) (i := 2) hC dX10_oddsOf_58 rfl rfl ?_
    refine aw_lload (pc := 59) hC dX10_oddsOf_59 rfl ?_
    refine aw_lsub (pc := 61) hC dX10_oddsOf_61 ?_
    refine aw_ldc2 (pc := 62) hC kw1716 dX10_oddsOf_62 ?_
    refine aw_lmul (pc := 65) hC dX10_oddsOf_65 ?_
    refine aw_lload_n (pc := 66) (i := 2) hC dX10_oddsOf_66 rfl rfl ?_
    refine aw_ldivZ (pc := 67) hC dX10_oddsOf_67 ?_
    refine aw_l2i (pc := 68) hC dX10_oddsOf_68 ?_
    exact aw_iretR hC dX10_oddsOf_69
theorem dX10_odds_0 : decode cX10_odds 0 = .ok (.aload_n 0, 1) := by decide +kernel
theorem dX10_odds_1 : decode cX10_odds 1 = .ok (.iconst 0, 1) := by decide +kernel
theorem dX10_odds_2 : decode cX10_odds 2 = .ok (.putfield 42, 3) := by decide +kernel
theorem dX10_odds_5 : decode cX10_odds 5 = .ok (.aload_n 0, 1) := by decide +kernel
theorem dX10_odds_6 : decode cX10_odds 6 = .ok (.aload_n 0, 1) := by decide +kernel
theorem dX10_odds_7 : decode cX10_odds 7 = .ok (.aload_n 0, 1) := by decide +kernel
theorem dX10_odds_8 : decode cX10_odds 8 = .ok (.getfield 7, 3) := by decide +kernel
theorem dX10_odds_11 : decode cX10_odds 11 = .ok (.iconst 4, 1) := by decide +kernel
theorem dX10_odds_12 : decode cX10_odds 12 = .ok (.iaload, 1) := by decide +kernel
theorem dX10_odds_13 : decode cX10_odds 13 = .ok (.invokevirtual 252, 3) := by decide +kernel
theorem dX10_odds_16 : decode cX10_odds 16 = .ok (.invokevirtual 299, 3) := by decide +kernel
theorem dX10_odds_19 : decode cX10_odds 19 = .ok (.ireturn, 1) := by decide +kernel
def f_X10_odds (μ : Mem) : Option (Int32 × Mem) := nm (upm μ 0 12 0 0) fun (μ1 : Mem) => ix 4 704 ((f_X10_watchers μ1 (μ1 0 13 (Int32.toNatClampNeg 4))).bind fun (q2 : Int32) => (f_X10_oddsOf μ1 q2).bind fun (q3 : Int32) => some (q3, μ1))
set_option maxHeartbeats 4000000 in
set_option maxRecDepth 100000 in
theorem c_X10_odds (G : GG) (l : Launch) (μ : Mem) : CI G l yX10_odds (.code yX10_odds cX10_odds 1 (some .int)) 6 [.ref (gad G 0 12)] μ (f_X10_odds μ) := by
  refine CI.of (own := "SaturdayKeepModel") (L0 := [some (.ref (gad G 0 12))]) rfl rfl rfl (Nat.le_of_ble_eq_true rfl) (fun C hl hC => ?_)
  subst hl
  delta f_X10_odds
  refine aw_aload_n (pc := 0) (i := 0) hC dX10_odds_0 rfl rfl ?_
  refine aw_iconst (pc := 1) (v := 0) hC dX10_odds_1 ic0 ?_
  refine aw_putIN (pc := 2) hC inX10 (v0 (j := 12) (by decide)) rfl rfl 0 (by decide) kw1314 rfl tyX10 tyX10_ok nmX10 rfl rfl (Nat.le_of_ble_eq_true rfl) rfl dX10_odds_2 (fun μ1 => ?_)
  refine aw_aload_n (pc := 5) (i := 0) hC dX10_odds_5 rfl rfl ?_
  refine aw_aload_n (pc := 6) (i := 0) hC dX10_odds_6 rfl rfl ?_
  refine aw_aload_n (pc := 7) (i := 0) hC dX10_odds_7 rfl rfl ?_
  refine aw_get (pc := 8) hC inX10 (v0 (j := 12) (by decide)) rfl rfl 1 (by decide) kw1315 rfl rfl dX10_odds_8 ?_
  refine aw_iconst (pc := 11) (v := 4) hC dX10_odds_11 ic4 ?_
  refine aw_iaload (pc := 12) hC (v0 (j := 13) (by decide)) rfl dX10_odds_12 ?_
  refine aw_callVR (pc := 13) (As := [.int (μ1 0 13 (Int32.toNatClampNeg 4))]) hC mb_X10_watchers kw1596 (by decide) (c_X10_watchers G C.2.1   μ1 (μ1 0 13 (Int32.toNatClampNeg 4))) (v0 (j := 12) (by decide)) rfl rfl rfl (Nat.le_of_ble_eq_true rfl) dX10_odds_13 (fun q2 => ?_)
  refine aw_callVR (pc := 16) (As := [.int q2]) hC mb_X10_oddsOf kw1711 (by decide) (c_X10_oddsOf G C.2.1   μ1 q2) (v0 (j := 12) (by decide)) rfl rfl rfl (Nat.le_of_ble_eq_true rfl) dX10_odds_16 (fun q3 => ?_)
  exact aw_iret hC dX10_odds_19
theorem dX10_send_0 : decode cX10_send 0 = .ok (.aload_n 0, 1) := by decide +kernel
theorem dX10_send_1 : decode cX10_send 1 = .ok (.iconst 0, 1) := by decide +kernel
theorem dX10_send_2 : decode cX10_send 2 = .ok (.putfield 42, 3) := by decide +kernel
theorem dX10_send_5 : decode cX10_send 5 = .ok (.aload_n 0, 1) := by decide +kernel
theorem dX10_send_6 : decode cX10_send 6 = .ok (.aload_n 0, 1) := by decide +kernel
theorem dX10_send_7 : decode cX10_send 7 = .ok (.getfield 7, 3) := by decide +kernel
theorem dX10_send_10 : decode cX10_send 10 = .ok (.iconst 4, 1) := by decide +kernel
theorem dX10_send_11 : decode cX10_send 11 = .ok (.iaload, 1) := by decide +kernel
theorem dX10_send_12 : decode cX10_send 12 = .ok (.invokevirtual 252, 3) := by decide +kernel
theorem dX10_send_15 : decode cX10_send 15 = .ok (.ireturn, 1) := by decide +kernel
def f_X10_send (μ : Mem) : Option (Int32 × Mem) := nm (upm μ 0 12 0 0) fun (μ1 : Mem) => ix 4 704 ((f_X10_watchers μ1 (μ1 0 13 (Int32.toNatClampNeg 4))).bind fun (q2 : Int32) => some (q2, μ1))
set_option maxHeartbeats 4000000 in
set_option maxRecDepth 100000 in
theorem c_X10_send (G : GG) (l : Launch) (μ : Mem) : CI G l yX10_send (.code yX10_send cX10_send 1 (some .int)) 6 [.ref (gad G 0 12)] μ (f_X10_send μ) := by
  refine CI.of (own := "SaturdayKeepModel") (L0 := [some (.ref (gad G 0 12))]) rfl rfl rfl (Nat.le_of_ble_eq_true rfl) (fun C hl hC => ?_)
  subst hl
  delta f_X10_send
  refine aw_aload_n (pc := 0) (i := 0) hC dX10_send_0 rfl rfl ?_
  refine aw_iconst (pc := 1) (v := 0) hC dX10_send_1 ic0 ?_
  refine aw_putIN (pc := 2) hC inX10 (v0 (j := 12) (by decide)) rfl rfl 0 (by decide) kw1314 rfl tyX10 tyX10_ok nmX10 rfl rfl (Nat.le_of_ble_eq_true rfl) rfl dX10_send_2 (fun μ1 => ?_)
  refine aw_aload_n (pc := 5) (i := 0) hC dX10_send_5 rfl rfl ?_
  refine aw_aload_n (pc := 6) (i := 0) hC dX10_send_6 rfl rfl ?_
  refine aw_get (pc := 7) hC inX10 (v0 (j := 12) (by decide)) rfl rfl 1 (by decide) kw1315 rfl rfl dX10_send_7 ?_
  refine aw_iconst (pc := 10) (v := 4) hC dX10_send_10 ic4 ?_
  refine aw_iaload (pc := 11) hC (v0 (j := 13) (by decide)) rfl dX10_send_11 ?_
  refine aw_callVR (pc := 12) (As := [.int (μ1 0 13 (Int32.toNatClampNeg 4))]) hC mb_X10_watchers kw1596 (by decide) (c_X10_watchers G C.2.1   μ1 (μ1 0 13 (Int32.toNatClampNeg 4))) (v0 (j := 12) (by decide)) rfl rfl rfl (Nat.le_of_ble_eq_true rfl) dX10_send_12 (fun q2 => ?_)
  exact aw_iret hC dX10_send_15
theorem dX10_sent_0 : decode cX10_sent 0 = .ok (.aload_n 0, 1) := by decide +kernel
theorem dX10_sent_1 : decode cX10_sent 1 = .ok (.iload_n 1, 1) := by decide +kernel
theorem dX10_sent_2 : decode cX10_sent 2 = .ok (.iconst 0, 1) := by decide +kernel
theorem dX10_sent_3 : decode cX10_sent 3 = .ok (.sipush 9999, 3) := by decide +kernel
theorem dX10_sent_6 : decode cX10_sent 6 = .ok (.invokestatic 45, 3) := by decide +kernel
theorem dX10_sent_9 : decode cX10_sent 9 = .ok (.ifCond .ne 7, 3) := by decide +kernel
theorem dX10_sent_12 : decode cX10_sent 12 = .ok (.iconst 1, 1) := by decide +kernel
theorem dX10_sent_13 : decode cX10_sent 13 = .ok (.goto 4, 3) := by decide +kernel
theorem dX10_sent_16 : decode cX10_sent 16 = .ok (.iconst 0, 1) := by decide +kernel
theorem dX10_sent_17 : decode cX10_sent 17 = .ok (.putfield 42, 3) := by decide +kernel
theorem dX10_sent_20 : decode cX10_sent 20 = .ok (.aload_n 0, 1) := by decide +kernel
theorem dX10_sent_21 : decode cX10_sent 21 = .ok (.getfield 42, 3) := by decide +kernel
theorem dX10_sent_24 : decode cX10_sent 24 = .ok (.ifCond .le 5, 3) := by decide +kernel
theorem dX10_sent_27 : decode cX10_sent 27 = .ok (.iconst 0, 1) := by decide +kernel
theorem dX10_sent_28 : decode cX10_sent 28 = .ok (.ireturn, 1) := by decide +kernel
theorem dX10_sent_29 : decode cX10_sent 29 = .ok (.aload_n 0, 1) := by decide +kernel
theorem dX10_sent_30 : decode cX10_sent 30 = .ok (.aload_n 0, 1) := by decide +kernel
theorem dX10_sent_31 : decode cX10_sent 31 = .ok (.getfield 7, 3) := by decide +kernel
theorem dX10_sent_34 : decode cX10_sent 34 = .ok (.iconst 4, 1) := by decide +kernel
theorem dX10_sent_35 : decode cX10_sent 35 = .ok (.iaload, 1) := by decide +kernel
theorem dX10_sent_36 : decode cX10_sent 36 = .ok (.invokevirtual 252, 3) := by decide +kernel
theorem dX10_sent_39 : decode cX10_sent 39 = .ok (.istore_n 2, 1) := by decide +kernel
theorem dX10_sent_40 : decode cX10_sent 40 = .ok (.iconst (-1), 1) := by decide +kernel
theorem dX10_sent_41 : decode cX10_sent 41 = .ok (.istore_n 3, 1) := by decide +kernel
theorem dX10_sent_42 : decode cX10_sent 42 = .ok (.iconst 0, 1) := by decide +kernel
theorem dX10_sent_43 : decode cX10_sent 43 = .ok (.istore 4, 2) := by decide +kernel
theorem dX10_sent_45 : decode cX10_sent 45 = .ok (.iload 4, 2) := by decide +kernel
theorem dX10_sent_47 : decode cX10_sent 47 = .ok (.iconst 1, 1) := by decide +kernel
theorem dX10_sent_48 : decode cX10_sent 48 = .ok (.aload_n 0, 1) := by decide +kernel
theorem dX10_sent_49 : decode cX10_sent 49 = .ok (.getfield 7, 3) := by decide +kernel
theorem dX10_sent_52 : decode cX10_sent 52 = .ok (.iconst 3, 1) := by decide +kernel
theorem dX10_sent_53 : decode cX10_sent 53 = .ok (.iaload, 1) := by decide +kernel
theorem dX10_sent_54 : decode cX10_sent 54 = .ok (.ishl, 1) := by decide +kernel
theorem dX10_sent_55 : decode cX10_sent 55 = .ok (.if_icmp .ge 106, 3) := by decide +kernel
theorem dX10_sent_58 : decode cX10_sent 58 = .ok (.iload_n 3, 1) := by decide +kernel
theorem dX10_sent_59 : decode cX10_sent 59 = .ok (.iconst (-1), 1) := by decide +kernel
theorem dX10_sent_60 : decode cX10_sent 60 = .ok (.if_icmp .eq 15, 3) := by decide +kernel
theorem dX10_sent_63 : decode cX10_sent 63 = .ok (.iload 4, 2) := by decide +kernel
theorem dX10_sent_65 : decode cX10_sent 65 = .ok (.invokestatic 57, 3) := by decide +kernel
theorem dX10_sent_68 : decode cX10_sent 68 = .ok (.iload_n 3, 1) := by decide +kernel
theorem dX10_sent_69 : decode cX10_sent 69 = .ok (.invokestatic 57, 3) := by decide +kernel
theorem dX10_sent_72 : decode cX10_sent 72 = .ok (.if_icmp .ge 7, 3) := by decide +kernel
theorem dX10_sent_75 : decode cX10_sent 75 = .ok (.iconst 1, 1) := by decide +kernel
theorem dX10_sent_76 : decode cX10_sent 76 = .ok (.goto 4, 3) := by decide +kernel
theorem dX10_sent_79 : decode cX10_sent 79 = .ok (.iconst 0, 1) := by decide +kernel
theorem dX10_sent_80 : decode cX10_sent 80 = .ok (.istore 5, 2) := by decide +kernel
theorem dX10_sent_82 : decode cX10_sent 82 = .ok (.iconst 0, 1) := by decide +kernel
theorem dX10_sent_83 : decode cX10_sent 83 = .ok (.istore 6, 2) := by decide +kernel
theorem dX10_sent_85 : decode cX10_sent 85 = .ok (.iload 6, 2) := by decide +kernel
theorem dX10_sent_87 : decode cX10_sent 87 = .ok (.aload_n 0, 1) := by decide +kernel
theorem dX10_sent_88 : decode cX10_sent 88 = .ok (.getfield 7, 3) := by decide +kernel
theorem dX10_sent_91 : decode cX10_sent 91 = .ok (.iconst 3, 1) := by decide +kernel
theorem dX10_sent_92 : decode cX10_sent 92 = .ok (.iaload, 1) := by decide +kernel
theorem dX10_sent_93 : decode cX10_sent 93 = .ok (.if_icmp .ge 40, 3) := by decide +kernel
theorem dX10_sent_96 : decode cX10_sent 96 = .ok (.iload 5, 2) := by decide +kernel
theorem dX10_sent_98 : decode cX10_sent 98 = .ok (.ifCond .eq 35, 3) := by decide +kernel
theorem dX10_sent_101 : decode cX10_sent 101 = .ok (.iload 4, 2) := by decide +kernel
theorem dX10_sent_103 : decode cX10_sent 103 = .ok (.iload 6, 2) := by decide +kernel
theorem dX10_sent_105 : decode cX10_sent 105 = .ok (.invokestatic 53, 3) := by decide +kernel
theorem dX10_sent_108 : decode cX10_sent 108 = .ok (.ifCond .eq 12, 3) := by decide +kernel
theorem dX10_sent_111 : decode cX10_sent 111 = .ok (.aload_n 0, 1) := by decide +kernel
theorem dX10_sent_112 : decode cX10_sent 112 = .ok (.iload 6, 2) := by decide +kernel
theorem dX10_sent_114 : decode cX10_sent 114 = .ok (.invokevirtual 236, 3) := by decide +kernel
theorem dX10_sent_117 : decode cX10_sent 117 = .ok (.ifCond .eq 7, 3) := by decide +kernel
theorem dX10_sent_120 : decode cX10_sent 120 = .ok (.iconst 1, 1) := by decide +kernel
theorem dX10_sent_121 : decode cX10_sent 121 = .ok (.goto 4, 3) := by decide +kernel
theorem dX10_sent_124 : decode cX10_sent 124 = .ok (.iconst 0, 1) := by decide +kernel
theorem dX10_sent_125 : decode cX10_sent 125 = .ok (.istore 5, 2) := by decide +kernel
theorem dX10_sent_127 : decode cX10_sent 127 = .ok (.iinc 6 1, 3) := by decide +kernel
theorem dX10_sent_130 : decode cX10_sent 130 = .ok (.goto (-45), 3) := by decide +kernel
theorem dX10_sent_133 : decode cX10_sent 133 = .ok (.iload 5, 2) := by decide +kernel
theorem dX10_sent_135 : decode cX10_sent 135 = .ok (.ifCond .eq 20, 3) := by decide +kernel
theorem dX10_sent_138 : decode cX10_sent 138 = .ok (.aload_n 0, 1) := by decide +kernel
theorem dX10_sent_139 : decode cX10_sent 139 = .ok (.iload_n 2, 1) := by decide +kernel
theorem dX10_sent_140 : decode cX10_sent 140 = .ok (.iload 4, 2) := by decide +kernel
theorem dX10_sent_142 : decode cX10_sent 142 = .ok (.iconst (-1), 1) := by decide +kernel
theorem dX10_sent_143 : decode cX10_sent 143 = .ok (.ixor, 1) := by decide +kernel
theorem dX10_sent_144 : decode cX10_sent 144 = .ok (.iand, 1) := by decide +kernel
theorem dX10_sent_145 : decode cX10_sent 145 = .ok (.invokevirtual 299, 3) := by decide +kernel
theorem dX10_sent_148 : decode cX10_sent 148 = .ok (.iload_n 1, 1) := by decide +kernel
theorem dX10_sent_149 : decode cX10_sent 149 = .ok (.if_icmp .gt 6, 3) := by decide +kernel
theorem dX10_sent_152 : decode cX10_sent 152 = .ok (.iload 4, 2) := by decide +kernel
theorem dX10_sent_154 : decode cX10_sent 154 = .ok (.istore_n 3, 1) := by decide +kernel
theorem dX10_sent_155 : decode cX10_sent 155 = .ok (.iinc 4 1, 3) := by decide +kernel
theorem dX10_sent_158 : decode cX10_sent 158 = .ok (.goto (-113), 3) := by decide +kernel
theorem dX10_sent_161 : decode cX10_sent 161 = .ok (.iload_n 3, 1) := by decide +kernel
theorem dX10_sent_162 : decode cX10_sent 162 = .ok (.ireturn, 1) := by decide +kernel
def lp_X10_sent_85 (μ3 : Mem) (x6 : Int32) (k133 : Int32 → Option (Int32 × Mem)) : Nat → Int32 → Int32 → Option (Int32 × Mem)
  | 0, _, _ => none
  | n + 1, x9, x10 => ix 3 704 (if (μ3 0 13 (Int32.toNatClampNeg 3)) ≤ x10 then (k133 x9) else (if x9 = 0 then (k133 x9) else ((f_X10_isOf x6 x10).bind fun (q11 : Int32) => if q11 = 0 then (lp_X10_sent_85 μ3 x6 k133 n 1 (x10 + 1)) else ((f_X10_isHere μ3 x10).bind fun (q12 : Int32) => if q12 = 0 then (lp_X10_sent_85 μ3 x6 k133 n 0 (x10 + 1)) else (lp_X10_sent_85 μ3 x6 k133 n 1 (x10 + 1))))))
def lp_X10_sent_45 (a1 : Int32) (μ3 : Mem) (q4 : Int32) : Nat → Int32 → Int32 → Option (Int32 × Mem)
  | 0, _, _ => none
  | n + 1, x5, x6 => ix 3 704 (if (jshl 1 (μ3 0 13 (Int32.toNatClampNeg 3))) ≤ x6 then (some (x5, μ3)) else (nm (fun (x7 : Int32) => lp_X10_sent_85 μ3 x6 (fun (x8 : Int32) => if x8 = 0 then (lp_X10_sent_45 a1 μ3 q4 n x5 (x6 + 1)) else ((f_X10_oddsOf μ3 (q4 &&& (x6 ^^^ (-1)))).bind fun (q13 : Int32) => if a1 < q13 then (lp_X10_sent_45 a1 μ3 q4 n x5 (x6 + 1)) else (lp_X10_sent_45 a1 μ3 q4 n x6 (x6 + 1)))) 4096 x7 0) fun (J80 : Int32 → Option (Int32 × Mem)) => nm (J80 1) fun (J75 : Option (Int32 × Mem)) => if x5 = (-1) then (J75) else ((f_X10_bits x6).bind fun (q14 : Int32) => (f_X10_bits x5).bind fun (q15 : Int32) => if q15 ≤ q14 then (J80 0) else (J75))))
def f_X10_sent (μ : Mem) (a1 : Int32) : Option (Int32 × Mem) := (f_X10_isIn a1 0 9999).bind fun (q1 : Int32) => nm (fun (x2 : Int32) => nm (upm μ 0 12 0 x2) fun (μ3 : Mem) => if (μ3 0 12 0) ≤ 0 then (ix 4 704 ((f_X10_watchers μ3 (μ3 0 13 (Int32.toNatClampNeg 4))).bind fun (q4 : Int32) => lp_X10_sent_45 a1 μ3 q4 4096 (-1) 0)) else (some (0, μ3))) fun (J17 : Int32 → Option (Int32 × Mem)) => if q1 = 0 then (J17 1) else (J17 0)
set_option maxHeartbeats 4000000 in
set_option maxRecDepth 100000 in
theorem c_X10_sent (G : GG) (l : Launch) (μ : Mem) (a1 : Int32) : CI G l yX10_sent (.code yX10_sent cX10_sent 7 (some .int)) 6 [.ref (gad G 0 12), .int a1] μ (f_X10_sent μ a1) := by
  refine CI.of (own := "SaturdayKeepModel") (L0 := [some (.ref (gad G 0 12)), some (.int a1), none, none, none, none, none]) rfl rfl rfl (Nat.le_of_ble_eq_true rfl) (fun C hl hC => ?_)
  subst hl
  delta f_X10_sent
  refine aw_aload_n (pc := 0) (i := 0) hC dX10_sent_0 rfl rfl ?_
  refine aw_iload_n (pc := 1) (i := 1) hC dX10_sent_1 rfl rfl ?_
  refine aw_iconst (pc := 2) (v := 0) hC dX10_sent_2 ic0 ?_
  refine aw_sipush (pc := 3) (v := 9999) hC dX10_sent_3 sc9999 ?_
  refine aw_callSR (pc := 6) (As := [.int a1, .int 0, .int 9999]) hC ms_X10_isIn kw1394 (by decide) (c_X10_isIn G C.2.1   μ a1 0 9999) rfl (Nat.le_of_ble_eq_true rfl) dX10_sent_6 (fun q1 => ?_)
  refine aw_nmJ (fun (J17 : Int32 → Option (Int32 × Mem)) => ∀ (x2 : Int32), AW G C (qI G C 0 0) 0 0 7 μ 17 [some (.ref (gad G 0 12)), some (.int a1), none, none, none, none, none] [.int x2, .ref (gad G 0 12)] (J17 x2)) (fun x2 => ?_) (fun J17 hJ17 => ?_)
  · skip
    refine aw_putIN (pc := 17) hC inX10 (v0 (j := 12) (by decide)) rfl rfl 0 (by decide) kw1314 rfl tyX10 tyX10_ok nmX10 rfl rfl (Nat.le_of_ble_eq_true rfl) rfl dX10_sent_17 (fun μ3 => ?_)
    refine aw_aload_n (pc := 20) (i := 0) hC dX10_sent_20 rfl rfl ?_
    refine aw_get (pc := 21) hC inX10 (v0 (j := 12) (by decide)) rfl rfl 0 (by decide) kw1314 rfl rfl dX10_sent_21 ?_
    refine aw_if_le (pc := 24) (tgt := 29) hC dX10_sent_24 (by decide) (fun _ => ?_) (fun _ => ?_)
    · skip
      refine aw_aload_n (pc := 29) (i := 0) hC dX10_sent_29 rfl rfl ?_
      refine aw_aload_n (pc := 30) (i := 0) hC dX10_sent_30 rfl rfl ?_
      refine aw_get (pc := 31) hC inX10 (v0 (j := 12) (by decide)) rfl rfl 1 (by decide) kw1315 rfl rfl dX10_sent_31 ?_
      refine aw_iconst (pc := 34) (v := 4) hC dX10_sent_34 ic4 ?_
      refine aw_iaload (pc := 35) hC (v0 (j := 13) (by decide)) rfl dX10_sent_35 ?_
      refine aw_callVR (pc := 36) (As := [.int (μ3 0 13 (Int32.toNatClampNeg 4))]) hC mb_X10_watchers kw1596 (by decide) (c_X10_watchers G C.2.1   μ3 (μ3 0 13 (Int32.toNatClampNeg 4))) (v0 (j := 12) (by decide)) rfl rfl rfl (Nat.le_of_ble_eq_true rfl) dX10_sent_36 (fun q4 => ?_)
      refine aw_istore_n (pc := 39) (i := 2) hC dX10_sent_39 rfl rfl (by decide) ?_
      refine aw_iconst (pc := 40) (v := (-1)) hC dX10_sent_40 icm1 ?_
      refine aw_istore_n (pc := 41) (i := 3) hC dX10_sent_41 rfl rfl (by decide) ?_
      refine aw_iconst (pc := 42) (v := 0) hC dX10_sent_42 ic0 ?_
      refine aw_istore (pc := 43) hC dX10_sent_43 rfl (by decide) ?_
      have hL45 : ∀ (n : Nat) (x5 : Int32) (x6 : Int32), AW G C (qI G C 0 0) 0 0 7 μ3 45 [some (.ref (gad G 0 12)), some (.int a1), some (.int q4), some (.int x5), some (.int x6), none, none] [] (lp_X10_sent_45 a1 μ3 q4 n x5 x6) := by
        intro n
        induction n with
        | zero => intro x5 x6; exact aw_none
        | succ n ih =>
          intro x5 x6
          rw [lp_X10_sent_45]
          refine aw_iload (pc := 45) hC dX10_sent_45 rfl ?_
          refine aw_iconst (pc := 47) (v := 1) hC dX10_sent_47 ic1 ?_
          refine aw_aload_n (pc := 48) (i := 0) hC dX10_sent_48 rfl rfl ?_
          refine aw_get (pc := 49) hC inX10 (v0 (j := 12) (by decide)) rfl rfl 1 (by decide) kw1315 rfl rfl dX10_sent_49 ?_
          refine aw_iconst (pc := 52) (v := 3) hC dX10_sent_52 ic3 ?_
          refine aw_iaload (pc := 53) hC (v0 (j := 13) (by decide)) rfl dX10_sent_53 ?_
          refine aw_ishl (pc := 54) hC dX10_sent_54 ?_
          refine aw_icmp_ge (pc := 55) (tgt := 161) hC dX10_sent_55 (by decide) (fun _ => ?_) (fun _ => ?_)
          · skip
            refine aw_iload_n (pc := 161) (i := 3) hC dX10_sent_161 rfl rfl ?_
            exact aw_iret hC dX10_sent_162
          · skip
            refine aw_iload_n (pc := 58) (i := 3) hC dX10_sent_58 rfl rfl ?_
            refine aw_iconst (pc := 59) (v := (-1)) hC dX10_sent_59 icm1 ?_
            refine aw_nmJ (fun (J80 : Int32 → Option (Int32 × Mem)) => ∀ (x7 : Int32), AW G C (qI G C 0 0) 0 0 7 μ3 80 [some (.ref (gad G 0 12)), some (.int a1), some (.int q4), some (.int x5), some (.int x6), none, none] [.int x7] (J80 x7)) (fun x7 => ?_) (fun J80 hJ80 => ?_)
            · skip
              refine aw_istore (pc := 80) hC dX10_sent_80 rfl (by decide) ?_
              refine aw_iconst (pc := 82) (v := 0) hC dX10_sent_82 ic0 ?_
              refine aw_istore (pc := 83) hC dX10_sent_83 rfl (by decide) ?_
              have hL85 : ∀ (k133 : Int32 → Option (Int32 × Mem)) (hk133 : ∀ (x8 : Int32), AW G C (qI G C 0 0) 0 0 7 μ3 133 [some (.ref (gad G 0 12)), some (.int a1), some (.int q4), some (.int x5), some (.int x6), some (.int x8), none] [] (k133 x8)) (n : Nat) (x9 : Int32) (x10 : Int32), AW G C (qI G C 0 0) 0 0 7 μ3 85 [some (.ref (gad G 0 12)), some (.int a1), some (.int q4), some (.int x5), some (.int x6), some (.int x9), some (.int x10)] [] (lp_X10_sent_85 μ3 x6 k133 n x9 x10) := by
                intro k133 hk133 n
                induction n with
                | zero => intro x9 x10; exact aw_none
                | succ n ih =>
                  intro x9 x10
                  rw [lp_X10_sent_85]
                  refine aw_iload (pc := 85) hC dX10_sent_85 rfl ?_
                  refine aw_aload_n (pc := 87) (i := 0) hC dX10_sent_87 rfl rfl ?_
                  refine aw_get (pc := 88) hC inX10 (v0 (j := 12) (by decide)) rfl rfl 1 (by decide) kw1315 rfl rfl dX10_sent_88 ?_
                  refine aw_iconst (pc := 91) (v := 3) hC dX10_sent_91 ic3 ?_
                  refine aw_iaload (pc := 92) hC (v0 (j := 13) (by decide)) rfl dX10_sent_92 ?_
                  refine aw_icmp_ge (pc := 93) (tgt := 133) hC dX10_sent_93 (by decide) (fun _ => ?_) (fun _ => ?_)
                  · skip
                    exact aw_drop [6] (hk133 x9)
                  · skip
                    refine aw_iload (pc := 96) hC dX10_sent_96 rfl ?_
                    refine aw_if_eq (pc := 98) (tgt := 133) hC dX10_sent_98 (by decide) (fun _ => ?_) (fun _ => ?_)
                    · skip
                      exact aw_drop [6] (hk133 x9)
                    · skip
                      refine aw_iload (pc := 101) hC dX10_sent_101 rfl ?_
                      refine aw_iload (pc := 103) hC dX10_sent_103 rfl ?_
                      refine aw_callSR (pc := 105) (As := [.int x6, .int x10]) hC ms_X10_isOf kw1578 (by decide) (c_X10_isOf G C.2.1   μ3 x6 x10) rfl (Nat.le_of_ble_eq_true rfl) dX10_sent_105 (fun q11 => ?_)
                      refine aw_if_eq (pc := 108) (tgt := 120) hC dX10_sent_108 (by decide) (fun _ => ?_) (fun _ => ?_)
                      · skip
                        refine aw_iconst (pc := 120) (v := 1) hC dX10_sent_120 ic1 ?_
                        refine aw_goto (pc := 121) (tgt := 125) hC dX10_sent_121 (by decide) ?_
                        refine aw_istore (pc := 125) hC dX10_sent_125 rfl (by decide) ?_
                        refine aw_iinc (pc := 127) (v := x10 + 1) hC dX10_sent_127 rfl (congrArg (HAdd.hAdd _) ic1) rfl (by decide) ?_
                        refine aw_goto (pc := 130) (tgt := 85) hC dX10_sent_130 (by decide) ?_
                        exact ih 1 (x10 + 1)
                      · skip
                        refine aw_aload_n (pc := 111) (i := 0) hC dX10_sent_111 rfl rfl ?_
                        refine aw_iload (pc := 112) hC dX10_sent_112 rfl ?_
                        refine aw_callVR (pc := 114) (As := [.int x10]) hC mb_X10_isHere kw1558 (by decide) (c_X10_isHere G C.2.1   μ3 x10) (v0 (j := 12) (by decide)) rfl rfl rfl (Nat.le_of_ble_eq_true rfl) dX10_sent_114 (fun q12 => ?_)
                        refine aw_if_eq (pc := 117) (tgt := 124) hC dX10_sent_117 (by decide) (fun _ => ?_) (fun _ => ?_)
                        · skip
                          refine aw_iconst (pc := 124) (v := 0) hC dX10_sent_124 ic0 ?_
                          refine aw_istore (pc := 125) hC dX10_sent_125 rfl (by decide) ?_
                          refine aw_iinc (pc := 127) (v := x10 + 1) hC dX10_sent_127 rfl (congrArg (HAdd.hAdd _) ic1) rfl (by decide) ?_
                          refine aw_goto (pc := 130) (tgt := 85) hC dX10_sent_130 (by decide) ?_
                          exact ih 0 (x10 + 1)
                        · skip
                          refine aw_iconst (pc := 120) (v := 1) hC dX10_sent_120 ic1 ?_
                          refine aw_goto (pc := 121) (tgt := 125) hC dX10_sent_121 (by decide) ?_
                          refine aw_istore (pc := 125) hC dX10_sent_125 rfl (by decide) ?_
                          refine aw_iinc (pc := 127) (v := x10 + 1) hC dX10_sent_127 rfl (congrArg (HAdd.hAdd _) ic1) rfl (by decide) ?_
                          refine aw_goto (pc := 130) (tgt := 85) hC dX10_sent_130 (by decide) ?_
                          exact ih 1 (x10 + 1)
              refine hL85 (fun (x8 : Int32) => if x8 = 0 then (lp_X10_sent_45 a1 μ3 q4 n x5 (x6 + 1)) else ((f_X10_oddsOf μ3 (q4 &&& (x6 ^^^ (-1)))).bind fun (q13 : Int32) => if a1 < q13 then (lp_X10_sent_45 a1 μ3 q4 n x5 (x6 + 1)) else (lp_X10_sent_45 a1 μ3 q4 n x6 (x6 + 1)))) (fun x8 => ?_) 4096 x7 0
              · skip
                refine aw_iload (pc := 133) hC dX10_sent_133 rfl ?_
                refine aw_if_eq (pc := 135) (tgt := 155) hC dX10_sent_135 (by decide) (fun _ => ?_) (fun _ => ?_)
                · skip
                  refine aw_iinc (pc := 155) (v := x6 + 1) hC dX10_sent_155 rfl (congrArg (HAdd.hAdd _) ic1) rfl (by decide) ?_
                  refine aw_goto (pc := 158) (tgt := 45) hC dX10_sent_158 (by decide) ?_
                  exact aw_drop [5] (ih x5 (x6 + 1))
                · skip
                  refine aw_aload_n (pc := 138) (i := 0) hC dX10_sent_138 rfl rfl ?_
                  refine aw_iload_n (pc := 139) (i := 2) hC dX10_sent_139 rfl rfl ?_
                  refine aw_iload (pc := 140) hC dX10_sent_140 rfl ?_
                  refine aw_iconst (pc := 142) (v := (-1)) hC dX10_sent_142 icm1 ?_
                  refine aw_ixor (pc := 143) hC dX10_sent_143 ?_
                  refine aw_iand (pc := 144) hC dX10_sent_144 ?_
                  refine aw_callVR (pc := 145) (As := [.int (q4 &&& (x6 ^^^ (-1)))]) hC mb_X10_oddsOf kw1711 (by decide) (c_X10_oddsOf G C.2.1   μ3 (q4 &&& (x6 ^^^ (-1)))) (v0 (j := 12) (by decide)) rfl rfl rfl (Nat.le_of_ble_eq_true rfl) dX10_sent_145 (fun q13 => ?_)
                  refine aw_iload_n (pc := 148) (i := 1) hC dX10_sent_148 rfl rfl ?_
                  refine aw_icmp_gt (pc := 149) (tgt := 155) hC dX10_sent_149 (by decide) (fun _ => ?_) (fun _ => ?_)
                  · skip
                    refine aw_iinc (pc := 155) (v := x6 + 1) hC dX10_sent_155 rfl (congrArg (HAdd.hAdd _) ic1) rfl (by decide) ?_
                    refine aw_goto (pc := 158) (tgt := 45) hC dX10_sent_158 (by decide) ?_
                    exact aw_drop [5] (ih x5 (x6 + 1))
                  · skip
                    refine aw_iload (pc := 152) hC dX10_sent_152 rfl ?_
                    refine aw_istore_n (pc := 154) (i := 3) hC dX10_sent_154 rfl rfl (by decide) ?_
                    refine aw_iinc (pc := 155) (v := x6 + 1) hC dX10_sent_155 rfl (congrArg (HAdd.hAdd _) ic1) rfl (by decide) ?_
                    refine aw_goto (pc := 158) (tgt := 45) hC dX10_sent_158 (by decide) ?_
                    exact aw_drop [5] (ih x6 (x6 + 1))
            · skip
              refine aw_nmJ (fun (J75 : Option (Int32 × Mem)) => AW G C (qI G C 0 0) 0 0 7 μ3 75 [some (.ref (gad G 0 12)), some (.int a1), some (.int q4), some (.int x5), some (.int x6), none, none] [] (J75)) ?_ (fun J75 hJ75 => ?_)
              · skip
                refine aw_iconst (pc := 75) (v := 1) hC dX10_sent_75 ic1 ?_
                refine aw_goto (pc := 76) (tgt := 80) hC dX10_sent_76 (by decide) ?_
                exact hJ80 1
              · skip
                refine aw_icmp_eq (pc := 60) (tgt := 75) hC dX10_sent_60 (by decide) (fun _ => ?_) (fun _ => ?_)
                · skip
                  exact hJ75
                · skip
                  refine aw_iload (pc := 63) hC dX10_sent_63 rfl ?_
                  refine aw_callSR (pc := 65) (As := [.int x6]) hC ms_X10_bits kw1551 (by decide) (c_X10_bits G C.2.1   μ3 x6) rfl (Nat.le_of_ble_eq_true rfl) dX10_sent_65 (fun q14 => ?_)
                  refine aw_iload_n (pc := 68) (i := 3) hC dX10_sent_68 rfl rfl ?_
                  refine aw_callSR (pc := 69) (As := [.int x5]) hC ms_X10_bits kw1551 (by decide) (c_X10_bits G C.2.1   μ3 x5) rfl (Nat.le_of_ble_eq_true rfl) dX10_sent_69 (fun q15 => ?_)
                  refine aw_icmp_ge (pc := 72) (tgt := 79) hC dX10_sent_72 (by decide) (fun _ => ?_) (fun _ => ?_)
                  · skip
                    refine aw_iconst (pc := 79) (v := 0) hC dX10_sent_79 ic0 ?_
                    exact hJ80 0
                  · skip
                    exact hJ75
      exact hL45 4096 (-1) 0
    · skip
      refine aw_iconst (pc := 27) (v := 0) hC dX10_sent_27 ic0 ?_
      exact aw_iret hC dX10_sent_28
  · skip
    refine aw_if_ne (pc := 9) (tgt := 16) hC dX10_sent_9 (by decide) (fun _ => ?_) (fun _ => ?_)
    · skip
      refine aw_iconst (pc := 12) (v := 1) hC dX10_sent_12 ic1 ?_
      refine aw_goto (pc := 13) (tgt := 17) hC dX10_sent_13 (by decide) ?_
      exact hJ17 1
    · skip
      refine aw_iconst (pc := 16) (v := 0) hC dX10_sent_16 ic0 ?_
      exact hJ17 0
theorem dX10_mend_0 : decode cX10_mend 0 = .ok (.aload_n 0, 1) := by decide +kernel
theorem dX10_mend_1 : decode cX10_mend 1 = .ok (.iconst 0, 1) := by decide +kernel
theorem dX10_mend_2 : decode cX10_mend 2 = .ok (.putfield 42, 3) := by decide +kernel
theorem dX10_mend_5 : decode cX10_mend 5 = .ok (.iconst 0, 1) := by decide +kernel
theorem dX10_mend_6 : decode cX10_mend 6 = .ok (.istore_n 1, 1) := by decide +kernel
theorem dX10_mend_7 : decode cX10_mend 7 = .ok (.iconst 0, 1) := by decide +kernel
theorem dX10_mend_8 : decode cX10_mend 8 = .ok (.istore_n 2, 1) := by decide +kernel
theorem dX10_mend_9 : decode cX10_mend 9 = .ok (.iload_n 2, 1) := by decide +kernel
theorem dX10_mend_10 : decode cX10_mend 10 = .ok (.bipush 8, 2) := by decide +kernel
theorem dX10_mend_12 : decode cX10_mend 12 = .ok (.if_icmp .ge 39, 3) := by decide +kernel
theorem dX10_mend_15 : decode cX10_mend 15 = .ok (.iload_n 1, 1) := by decide +kernel
theorem dX10_mend_16 : decode cX10_mend 16 = .ok (.aload_n 0, 1) := by decide +kernel
theorem dX10_mend_17 : decode cX10_mend 17 = .ok (.iload_n 2, 1) := by decide +kernel
theorem dX10_mend_18 : decode cX10_mend 18 = .ok (.aload_n 0, 1) := by decide +kernel
theorem dX10_mend_19 : decode cX10_mend 19 = .ok (.getfield 7, 3) := by decide +kernel
theorem dX10_mend_22 : decode cX10_mend 22 = .ok (.iconst 4, 1) := by decide +kernel
theorem dX10_mend_23 : decode cX10_mend 23 = .ok (.iaload, 1) := by decide +kernel
theorem dX10_mend_24 : decode cX10_mend 24 = .ok (.invokevirtual 229, 3) := by decide +kernel
theorem dX10_mend_27 : decode cX10_mend 27 = .ok (.ifCond .eq 15, 3) := by decide +kernel
theorem dX10_mend_30 : decode cX10_mend 30 = .ok (.aload_n 0, 1) := by decide +kernel
theorem dX10_mend_31 : decode cX10_mend 31 = .ok (.iload_n 2, 1) := by decide +kernel
theorem dX10_mend_32 : decode cX10_mend 32 = .ok (.invokevirtual 279, 3) := by decide +kernel
theorem dX10_mend_35 : decode cX10_mend 35 = .ok (.ifCond .eq 7, 3) := by decide +kernel
theorem dX10_mend_38 : decode cX10_mend 38 = .ok (.iconst 1, 1) := by decide +kernel
theorem dX10_mend_39 : decode cX10_mend 39 = .ok (.goto 4, 3) := by decide +kernel
theorem dX10_mend_42 : decode cX10_mend 42 = .ok (.iconst 0, 1) := by decide +kernel
theorem dX10_mend_43 : decode cX10_mend 43 = .ok (.iadd, 1) := by decide +kernel
theorem dX10_mend_44 : decode cX10_mend 44 = .ok (.istore_n 1, 1) := by decide +kernel
theorem dX10_mend_45 : decode cX10_mend 45 = .ok (.iinc 2 1, 3) := by decide +kernel
theorem dX10_mend_48 : decode cX10_mend 48 = .ok (.goto (-39), 3) := by decide +kernel
theorem dX10_mend_51 : decode cX10_mend 51 = .ok (.iload_n 1, 1) := by decide +kernel
theorem dX10_mend_52 : decode cX10_mend 52 = .ok (.ireturn, 1) := by decide +kernel
def lp_X10_mend_9 (μ1 : Mem) : Nat → Int32 → Int32 → Option (Int32 × Mem)
  | 0, _, _ => none
  | n + 1, x2, x3 => if 8 ≤ x3 then (some (x2, μ1)) else (ix 4 704 ((f_X10_isHole μ1 x3 (μ1 0 13 (Int32.toNatClampNeg 4))).bind fun (q4 : Int32) => if q4 = 0 then (lp_X10_mend_9 μ1 n (x2 + 0) (x3 + 1)) else ((f_X10_guestsIn μ1 x3).bind fun (q5 : Int32) => if q5 = 0 then (lp_X10_mend_9 μ1 n (x2 + 0) (x3 + 1)) else (lp_X10_mend_9 μ1 n (x2 + 1) (x3 + 1)))))
def f_X10_mend (μ : Mem) : Option (Int32 × Mem) := nm (upm μ 0 12 0 0) fun (μ1 : Mem) => lp_X10_mend_9 μ1 4096 0 0
set_option maxHeartbeats 4000000 in
set_option maxRecDepth 100000 in
theorem c_X10_mend (G : GG) (l : Launch) (μ : Mem) : CI G l yX10_mend (.code yX10_mend cX10_mend 3 (some .int)) 4 [.ref (gad G 0 12)] μ (f_X10_mend μ) := by
  refine CI.of (own := "SaturdayKeepModel") (L0 := [some (.ref (gad G 0 12)), none, none]) rfl rfl rfl (Nat.le_of_ble_eq_true rfl) (fun C hl hC => ?_)
  subst hl
  delta f_X10_mend
  refine aw_aload_n (pc := 0) (i := 0) hC dX10_mend_0 rfl rfl ?_
  refine aw_iconst (pc := 1) (v := 0) hC dX10_mend_1 ic0 ?_
  refine aw_putIN (pc := 2) hC inX10 (v0 (j := 12) (by decide)) rfl rfl 0 (by decide) kw1314 rfl tyX10 tyX10_ok nmX10 rfl rfl (Nat.le_of_ble_eq_true rfl) rfl dX10_mend_2 (fun μ1 => ?_)
  refine aw_iconst (pc := 5) (v := 0) hC dX10_mend_5 ic0 ?_
  refine aw_istore_n (pc := 6) (i := 1) hC dX10_mend_6 rfl rfl (by decide) ?_
  refine aw_iconst (pc := 7) (v := 0) hC dX10_mend_7 ic0 ?_
  refine aw_istore_n (pc := 8) (i := 2) hC dX10_mend_8 rfl rfl (by decide) ?_
  have hL9 : ∀ (n : Nat) (x2 : Int32) (x3 : Int32), AW G C (qI G C 0 0) 0 0 3 μ1 9 [some (.ref (gad G 0 12)), some (.int x2), some (.int x3)] [] (lp_X10_mend_9 μ1 n x2 x3) := by
    intro n
    induction n with
    | zero => intro x2 x3; exact aw_none
    | succ n ih =>
      intro x2 x3
      rw [lp_X10_mend_9]
      refine aw_iload_n (pc := 9) (i := 2) hC dX10_mend_9 rfl rfl ?_
      refine aw_bipush (pc := 10) (v := 8) hC dX10_mend_10 bc8 ?_
      refine aw_icmp_ge (pc := 12) (tgt := 51) hC dX10_mend_12 (by decide) (fun _ => ?_) (fun _ => ?_)
      · skip
        refine aw_iload_n (pc := 51) (i := 1) hC dX10_mend_51 rfl rfl ?_
        exact aw_iret hC dX10_mend_52
      · skip
        refine aw_iload_n (pc := 15) (i := 1) hC dX10_mend_15 rfl rfl ?_
        refine aw_aload_n (pc := 16) (i := 0) hC dX10_mend_16 rfl rfl ?_
        refine aw_iload_n (pc := 17) (i := 2) hC dX10_mend_17 rfl rfl ?_
        refine aw_aload_n (pc := 18) (i := 0) hC dX10_mend_18 rfl rfl ?_
        refine aw_get (pc := 19) hC inX10 (v0 (j := 12) (by decide)) rfl rfl 1 (by decide) kw1315 rfl rfl dX10_mend_19 ?_
        refine aw_iconst (pc := 22) (v := 4) hC dX10_mend_22 ic4 ?_
        refine aw_iaload (pc := 23) hC (v0 (j := 13) (by decide)) rfl dX10_mend_23 ?_
        refine aw_callVR (pc := 24) (As := [.int x3, .int (μ1 0 13 (Int32.toNatClampNeg 4))]) hC mb_X10_isHole kw1574 (by decide) (c_X10_isHole G C.2.1   μ1 x3 (μ1 0 13 (Int32.toNatClampNeg 4))) (v0 (j := 12) (by decide)) rfl rfl rfl (Nat.le_of_ble_eq_true rfl) dX10_mend_24 (fun q4 => ?_)
        refine aw_if_eq (pc := 27) (tgt := 42) hC dX10_mend_27 (by decide) (fun _ => ?_) (fun _ => ?_)
        · skip
          refine aw_iconst (pc := 42) (v := 0) hC dX10_mend_42 ic0 ?_
          refine aw_iadd (pc := 43) hC dX10_mend_43 ?_
          refine aw_istore_n (pc := 44) (i := 1) hC dX10_mend_44 rfl rfl (by decide) ?_
          refine aw_iinc (pc := 45) (v := x3 + 1) hC dX10_mend_45 rfl (congrArg (HAdd.hAdd _) ic1) rfl (by decide) ?_
          refine aw_goto (pc := 48) (tgt := 9) hC dX10_mend_48 (by decide) ?_
          exact ih (x2 + 0) (x3 + 1)
        · skip
          refine aw_aload_n (pc := 30) (i := 0) hC dX10_mend_30 rfl rfl ?_
          refine aw_iload_n (pc := 31) (i := 2) hC dX10_mend_31 rfl rfl ?_
          refine aw_callVR (pc := 32) (As := [.int x3]) hC mb_X10_guestsIn kw1592 (by decide) (c_X10_guestsIn G C.2.1   μ1 x3) (v0 (j := 12) (by decide)) rfl rfl rfl (Nat.le_of_ble_eq_true rfl) dX10_mend_32 (fun q5 => ?_)
          refine aw_if_eq (pc := 35) (tgt := 42) hC dX10_mend_35 (by decide) (fun _ => ?_) (fun _ => ?_)
          · skip
            refine aw_iconst (pc := 42) (v := 0) hC dX10_mend_42 ic0 ?_
            refine aw_iadd (pc := 43) hC dX10_mend_43 ?_
            refine aw_istore_n (pc := 44) (i := 1) hC dX10_mend_44 rfl rfl (by decide) ?_
            refine aw_iinc (pc := 45) (v := x3 + 1) hC dX10_mend_45 rfl (congrArg (HAdd.hAdd _) ic1) rfl (by decide) ?_
            refine aw_goto (pc := 48) (tgt := 9) hC dX10_mend_48 (by decide) ?_
            exact ih (x2 + 0) (x3 + 1)
          · skip
            refine aw_iconst (pc := 38) (v := 1) hC dX10_mend_38 ic1 ?_
            refine aw_goto (pc := 39) (tgt := 43) hC dX10_mend_39 (by decide) ?_
            refine aw_iadd (pc := 43) hC dX10_mend_43 ?_
            refine aw_istore_n (pc := 44) (i := 1) hC dX10_mend_44 rfl rfl (by decide) ?_
            refine aw_iinc (pc := 45) (v := x3 + 1) hC dX10_mend_45 rfl (congrArg (HAdd.hAdd _) ic1) rfl (by decide) ?_
            refine aw_goto (pc := 48) (tgt := 9) hC dX10_mend_48 (by decide) ?_
            exact ih (x2 + 1) (x3 + 1)
  exact hL9 4096 0 0
theorem dX10_shuts_0 : decode cX10_shuts 0 = .ok (.iconst 0, 1) := by decide +kernel
theorem dX10_shuts_1 : decode cX10_shuts 1 = .ok (.istore_n 2, 1) := by decide +kernel
theorem dX10_shuts_2 : decode cX10_shuts 2 = .ok (.iload_n 2, 1) := by decide +kernel
theorem dX10_shuts_3 : decode cX10_shuts 3 = .ok (.bipush 8, 2) := by decide +kernel
theorem dX10_shuts_5 : decode cX10_shuts 5 = .ok (.if_icmp .ge 35, 3) := by decide +kernel
theorem dX10_shuts_8 : decode cX10_shuts 8 = .ok (.iload_n 1, 1) := by decide +kernel
theorem dX10_shuts_9 : decode cX10_shuts 9 = .ok (.iload_n 2, 1) := by decide +kernel
theorem dX10_shuts_10 : decode cX10_shuts 10 = .ok (.invokestatic 53, 3) := by decide +kernel
theorem dX10_shuts_13 : decode cX10_shuts 13 = .ok (.ifCond .ne 21, 3) := by decide +kernel
theorem dX10_shuts_16 : decode cX10_shuts 16 = .ok (.aload_n 0, 1) := by decide +kernel
theorem dX10_shuts_17 : decode cX10_shuts 17 = .ok (.getfield 7, 3) := by decide +kernel
theorem dX10_shuts_20 : decode cX10_shuts 20 = .ok (.bipush 16, 2) := by decide +kernel
theorem dX10_shuts_22 : decode cX10_shuts 22 = .ok (.iload_n 2, 1) := by decide +kernel
theorem dX10_shuts_23 : decode cX10_shuts 23 = .ok (.iadd, 1) := by decide +kernel
theorem dX10_shuts_24 : decode cX10_shuts 24 = .ok (.iaload, 1) := by decide +kernel
theorem dX10_shuts_25 : decode cX10_shuts 25 = .ok (.iload_n 1, 1) := by decide +kernel
theorem dX10_shuts_26 : decode cX10_shuts 26 = .ok (.iconst (-1), 1) := by decide +kernel
theorem dX10_shuts_27 : decode cX10_shuts 27 = .ok (.ixor, 1) := by decide +kernel
theorem dX10_shuts_28 : decode cX10_shuts 28 = .ok (.iand, 1) := by decide +kernel
theorem dX10_shuts_29 : decode cX10_shuts 29 = .ok (.ifCond .eq 5, 3) := by decide +kernel
theorem dX10_shuts_32 : decode cX10_shuts 32 = .ok (.iconst 0, 1) := by decide +kernel
theorem dX10_shuts_33 : decode cX10_shuts 33 = .ok (.ireturn, 1) := by decide +kernel
theorem dX10_shuts_34 : decode cX10_shuts 34 = .ok (.iinc 2 1, 3) := by decide +kernel
theorem dX10_shuts_37 : decode cX10_shuts 37 = .ok (.goto (-35), 3) := by decide +kernel
theorem dX10_shuts_40 : decode cX10_shuts 40 = .ok (.iconst 1, 1) := by decide +kernel
theorem dX10_shuts_41 : decode cX10_shuts 41 = .ok (.ireturn, 1) := by decide +kernel
def lp_X10_shuts_2 (a1 : Int32) (μ : Mem) : Nat → Int32 → Option (Int32)
  | 0, _ => none
  | n + 1, x1 => if 8 ≤ x1 then (some 1) else ((f_X10_isOf a1 x1).bind fun (q2 : Int32) => if q2 = 0 then (ix (16 + x1) 704 (if ((μ 0 13 (16 + x1).toNatClampNeg) &&& (a1 ^^^ (-1))) = 0 then (lp_X10_shuts_2 a1 μ n (x1 + 1)) else (some 0))) else (lp_X10_shuts_2 a1 μ n (x1 + 1)))
def f_X10_shuts (μ : Mem) (a1 : Int32) : Option (Int32) := lp_X10_shuts_2 a1 μ 4096 0
set_option maxHeartbeats 4000000 in
set_option maxRecDepth 100000 in
theorem c_X10_shuts (G : GG) (l : Launch) (μ : Mem) (a1 : Int32) : CR G l yX10_shuts (.code yX10_shuts cX10_shuts 3 (some .boolean)) 2 [.ref (gad G 0 12), .int a1] μ (f_X10_shuts μ a1) := by
  refine CR.of (own := "SaturdayKeepModel") (L0 := [some (.ref (gad G 0 12)), some (.int a1), none]) rfl rfl rfl (Nat.le_of_ble_eq_true rfl) (fun C hl hC => ?_)
  subst hl
  delta f_X10_shuts
  refine aw_iconst (pc := 0) (v := 0) hC dX10_shuts_0 ic0 ?_
  refine aw_istore_n (pc := 1) (i := 2) hC dX10_shuts_1 rfl rfl (by decide) ?_
  have hL2 : ∀ (n : Nat) (x1 : Int32), AW G C (qR G C 0 0 μ) 0 0 3 μ 2 [some (.ref (gad G 0 12)), some (.int a1), some (.int x1)] [] (lp_X10_shuts_2 a1 μ n x1) := by
    intro n
    induction n with
    | zero => intro x1; exact aw_none
    | succ n ih =>
      intro x1
      rw [lp_X10_shuts_2]
      refine aw_iload_n (pc := 2) (i := 2) hC dX10_shuts_2 rfl rfl ?_
      refine aw_bipush (pc := 3) (v := 8) hC dX10_shuts_3 bc8 ?_
      refine aw_icmp_ge (pc := 5) (tgt := 40) hC dX10_shuts_5 (by decide) (fun _ => ?_) (fun _ => ?_)
      · skip
        refine aw_iconst (pc := 40) (v := 1) hC dX10_shuts_40 ic1 ?_
        exact aw_zret1R hC dX10_shuts_41
      · skip
        refine aw_iload_n (pc := 8) (i := 1) hC dX10_shuts_8 rfl rfl ?_
        refine aw_iload_n (pc := 9) (i := 2) hC dX10_shuts_9 rfl rfl ?_
        refine aw_callSR (pc := 10) (As := [.int a1, .int x1]) hC ms_X10_isOf kw1578 (by decide) (c_X10_isOf G C.2.1   μ a1 x1) rfl (Nat.le_of_ble_eq_true rfl) dX10_shuts_10 (fun q2 => ?_)
        refine aw_if_ne (pc := 13) (tgt := 34) hC dX10_shuts_13 (by decide) (fun _ => ?_) (fun _ => ?_)
        · skip
          refine aw_aload_n (pc := 16) (i := 0) hC dX10_shuts_16 rfl rfl ?_
          refine aw_get (pc := 17) hC inX10 (v0 (j := 12) (by decide)) rfl rfl 1 (by decide) kw1315 rfl rfl dX10_shuts_17 ?_
          refine aw_bipush (pc := 20) (v := 16) hC dX10_shuts_20 bc16 ?_
          refine aw_iload_n (pc := 22) (i := 2) hC dX10_shuts_22 rfl rfl ?_
          refine aw_iadd (pc := 23) hC dX10_shuts_23 ?_
          refine aw_iaload (pc := 24) hC (v0 (j := 13) (by decide)) rfl dX10_shuts_24 ?_
          refine aw_iload_n (pc := 25) (i := 1) hC dX10_shuts_25 rfl rfl ?_
          refine aw_iconst (pc := 26) (v := (-1)) hC dX10_shuts_26 icm1 ?_
          refine aw_ixor (pc := 27) hC dX10_shuts_27 ?_
          refine aw_iand (pc := 28) hC dX10_shuts_28 ?_
          refine aw_if_eq (pc := 29) (tgt := 34) hC dX10_shuts_29 (by decide) (fun _ => ?_) (fun _ => ?_)
          · skip
            refine aw_iinc (pc := 34) (v := x1 + 1) hC dX10_shuts_34 rfl (congrArg (HAdd.hAdd _) ic1) rfl (by decide) ?_
            refine aw_goto (pc := 37) (tgt := 2) hC dX10_shuts_37 (by decide) ?_
            exact ih (x1 + 1)
          · skip
            refine aw_iconst (pc := 32) (v := 0) hC dX10_shuts_32 ic0 ?_
            exact aw_zret0R hC dX10_shuts_33
        · skip
          refine aw_iinc (pc := 34) (v := x1 + 1) hC dX10_shuts_34 rfl (congrArg (HAdd.hAdd _) ic1) rfl (by decide) ?_
          refine aw_goto (pc := 37) (tgt := 2) hC dX10_shuts_37 (by decide) ?_
          exact ih (x1 + 1)
  exact hL2 4096 0
theorem dX10_shut_0 : decode cX10_shut 0 = .ok (.aload_n 0, 1) := by decide +kernel
theorem dX10_shut_1 : decode cX10_shut 1 = .ok (.iconst 0, 1) := by decide +kernel
theorem dX10_shut_2 : decode cX10_shut 2 = .ok (.putfield 42, 3) := by decide +kernel
theorem dX10_shut_5 : decode cX10_shut 5 = .ok (.iconst (-1), 1) := by decide +kernel
theorem dX10_shut_6 : decode cX10_shut 6 = .ok (.istore_n 1, 1) := by decide +kernel
theorem dX10_shut_7 : decode cX10_shut 7 = .ok (.iconst 0, 1) := by decide +kernel
theorem dX10_shut_8 : decode cX10_shut 8 = .ok (.istore_n 2, 1) := by decide +kernel
theorem dX10_shut_9 : decode cX10_shut 9 = .ok (.iload_n 2, 1) := by decide +kernel
theorem dX10_shut_10 : decode cX10_shut 10 = .ok (.sipush 256, 3) := by decide +kernel
theorem dX10_shut_13 : decode cX10_shut 13 = .ok (.if_icmp .ge 35, 3) := by decide +kernel
theorem dX10_shut_16 : decode cX10_shut 16 = .ok (.iload_n 1, 1) := by decide +kernel
theorem dX10_shut_17 : decode cX10_shut 17 = .ok (.iconst (-1), 1) := by decide +kernel
theorem dX10_shut_18 : decode cX10_shut 18 = .ok (.if_icmp .eq 14, 3) := by decide +kernel
theorem dX10_shut_21 : decode cX10_shut 21 = .ok (.iload_n 2, 1) := by decide +kernel
theorem dX10_shut_22 : decode cX10_shut 22 = .ok (.invokestatic 57, 3) := by decide +kernel
theorem dX10_shut_25 : decode cX10_shut 25 = .ok (.iload_n 1, 1) := by decide +kernel
theorem dX10_shut_26 : decode cX10_shut 26 = .ok (.invokestatic 57, 3) := by decide +kernel
theorem dX10_shut_29 : decode cX10_shut 29 = .ok (.if_icmp .ge 13, 3) := by decide +kernel
theorem dX10_shut_32 : decode cX10_shut 32 = .ok (.aload_n 0, 1) := by decide +kernel
theorem dX10_shut_33 : decode cX10_shut 33 = .ok (.iload_n 2, 1) := by decide +kernel
theorem dX10_shut_34 : decode cX10_shut 34 = .ok (.invokevirtual 302, 3) := by decide +kernel
theorem dX10_shut_37 : decode cX10_shut 37 = .ok (.ifCond .eq 5, 3) := by decide +kernel
theorem dX10_shut_40 : decode cX10_shut 40 = .ok (.iload_n 2, 1) := by decide +kernel
theorem dX10_shut_41 : decode cX10_shut 41 = .ok (.istore_n 1, 1) := by decide +kernel
theorem dX10_shut_42 : decode cX10_shut 42 = .ok (.iinc 2 1, 3) := by decide +kernel
theorem dX10_shut_45 : decode cX10_shut 45 = .ok (.goto (-36), 3) := by decide +kernel
theorem dX10_shut_48 : decode cX10_shut 48 = .ok (.iload_n 1, 1) := by decide +kernel
theorem dX10_shut_49 : decode cX10_shut 49 = .ok (.ireturn, 1) := by decide +kernel
def lp_X10_shut_9 (μ1 : Mem) : Nat → Int32 → Int32 → Option (Int32 × Mem)
  | 0, _, _ => none
  | n + 1, x2, x3 => if 256 ≤ x3 then (some (x2, μ1)) else (nm ((f_X10_shuts μ1 x3).bind fun (q4 : Int32) => if q4 = 0 then (lp_X10_shut_9 μ1 n x2 (x3 + 1)) else (lp_X10_shut_9 μ1 n x3 (x3 + 1))) fun (J32 : Option (Int32 × Mem)) => if x2 = (-1) then (J32) else ((f_X10_bits x3).bind fun (q5 : Int32) => (f_X10_bits x2).bind fun (q6 : Int32) => if q6 ≤ q5 then (lp_X10_shut_9 μ1 n x2 (x3 + 1)) else (J32)))
def f_X10_shut (μ : Mem) : Option (Int32 × Mem) := nm (upm μ 0 12 0 0) fun (μ1 : Mem) => lp_X10_shut_9 μ1 4096 (-1) 0
set_option maxHeartbeats 4000000 in
set_option maxRecDepth 100000 in
theorem c_X10_shut (G : GG) (l : Launch) (μ : Mem) : CI G l yX10_shut (.code yX10_shut cX10_shut 3 (some .int)) 3 [.ref (gad G 0 12)] μ (f_X10_shut μ) := by
  refine CI.of (own := "SaturdayKeepModel") (L0 := [some (.ref (gad G 0 12)), none, none]) rfl rfl rfl (Nat.le_of_ble_eq_true rfl) (fun C hl hC => ?_)
  subst hl
  delta f_X10_shut
  refine aw_aload_n (pc := 0) (i := 0) hC dX10_shut_0 rfl rfl ?_
  refine aw_iconst (pc := 1) (v := 0) hC dX10_shut_1 ic0 ?_
  refine aw_putIN (pc := 2) hC inX10 (v0 (j := 12) (by decide)) rfl rfl 0 (by decide) kw1314 rfl tyX10 tyX10_ok nmX10 rfl rfl (Nat.le_of_ble_eq_true rfl) rfl dX10_shut_2 (fun μ1 => ?_)
  refine aw_iconst (pc := 5) (v := (-1)) hC dX10_shut_5 icm1 ?_
  refine aw_istore_n (pc := 6) (i := 1) hC dX10_shut_6 rfl rfl (by decide) ?_
  refine aw_iconst (pc := 7) (v := 0) hC dX10_shut_7 ic0 ?_
  refine aw_istore_n (pc := 8) (i := 2) hC dX10_shut_8 rfl rfl (by decide) ?_
  have hL9 : ∀ (n : Nat) (x2 : Int32) (x3 : Int32), AW G C (qI G C 0 0) 0 0 3 μ1 9 [some (.ref (gad G 0 12)), some (.int x2), some (.int x3)] [] (lp_X10_shut_9 μ1 n x2 x3) := by
    intro n
    induction n with
    | zero => intro x2 x3; exact aw_none
    | succ n ih =>
      intro x2 x3
      rw [lp_X10_shut_9]
      refine aw_iload_n (pc := 9) (i := 2) hC dX10_shut_9 rfl rfl ?_
      refine aw_sipush (pc := 10) (v := 256) hC dX10_shut_10 sc256 ?_
      refine aw_icmp_ge (pc := 13) (tgt := 48) hC dX10_shut_13 (by decide) (fun _ => ?_) (fun _ => ?_)
      · skip
        refine aw_iload_n (pc := 48) (i := 1) hC dX10_shut_48 rfl rfl ?_
        exact aw_iret hC dX10_shut_49
      · skip
        refine aw_iload_n (pc := 16) (i := 1) hC dX10_shut_16 rfl rfl ?_
        refine aw_iconst (pc := 17) (v := (-1)) hC dX10_shut_17 icm1 ?_
        refine aw_nmJ (fun (J32 : Option (Int32 × Mem)) => AW G C (qI G C 0 0) 0 0 3 μ1 32 [some (.ref (gad G 0 12)), some (.int x2), some (.int x3)] [] (J32)) ?_ (fun J32 hJ32 => ?_)
        · skip
          refine aw_aload_n (pc := 32) (i := 0) hC dX10_shut_32 rfl rfl ?_
          refine aw_iload_n (pc := 33) (i := 2) hC dX10_shut_33 rfl rfl ?_
          refine aw_callVR (pc := 34) (As := [.int x3]) hC mb_X10_shuts kw1733 (by decide) (c_X10_shuts G C.2.1   μ1 x3) (v0 (j := 12) (by decide)) rfl rfl rfl (Nat.le_of_ble_eq_true rfl) dX10_shut_34 (fun q4 => ?_)
          refine aw_if_eq (pc := 37) (tgt := 42) hC dX10_shut_37 (by decide) (fun _ => ?_) (fun _ => ?_)
          · skip
            refine aw_iinc (pc := 42) (v := x3 + 1) hC dX10_shut_42 rfl (congrArg (HAdd.hAdd _) ic1) rfl (by decide) ?_
            refine aw_goto (pc := 45) (tgt := 9) hC dX10_shut_45 (by decide) ?_
            exact ih x2 (x3 + 1)
          · skip
            refine aw_iload_n (pc := 40) (i := 2) hC dX10_shut_40 rfl rfl ?_
            refine aw_istore_n (pc := 41) (i := 1) hC dX10_shut_41 rfl rfl (by decide) ?_
            refine aw_iinc (pc := 42) (v := x3 + 1) hC dX10_shut_42 rfl (congrArg (HAdd.hAdd _) ic1) rfl (by decide) ?_
            refine aw_goto (pc := 45) (tgt := 9) hC dX10_shut_45 (by decide) ?_
            exact ih x3 (x3 + 1)
        · skip
          refine aw_icmp_eq (pc := 18) (tgt := 32) hC dX10_shut_18 (by decide) (fun _ => ?_) (fun _ => ?_)
          · skip
            exact hJ32
          · skip
            refine aw_iload_n (pc := 21) (i := 2) hC dX10_shut_21 rfl rfl ?_
            refine aw_callSR (pc := 22) (As := [.int x3]) hC ms_X10_bits kw1551 (by decide) (c_X10_bits G C.2.1   μ1 x3) rfl (Nat.le_of_ble_eq_true rfl) dX10_shut_22 (fun q5 => ?_)
            refine aw_iload_n (pc := 25) (i := 1) hC dX10_shut_25 rfl rfl ?_
            refine aw_callSR (pc := 26) (As := [.int x2]) hC ms_X10_bits kw1551 (by decide) (c_X10_bits G C.2.1   μ1 x2) rfl (Nat.le_of_ble_eq_true rfl) dX10_shut_26 (fun q6 => ?_)
            refine aw_icmp_ge (pc := 29) (tgt := 42) hC dX10_shut_29 (by decide) (fun _ => ?_) (fun _ => ?_)
            · skip
              refine aw_iinc (pc := 42) (v := x3 + 1) hC dX10_shut_42 rfl (congrArg (HAdd.hAdd _) ic1) rfl (by decide) ?_
              refine aw_goto (pc := 45) (tgt := 9) hC dX10_shut_45 (by decide) ?_
              exact ih x2 (x3 + 1)
            · skip
              exact hJ32
  exact hL9 4096 (-1) 0
theorem dX10_quiet_0 : decode cX10_quiet 0 = .ok (.aload_n 0, 1) := by decide +kernel
theorem dX10_quiet_1 : decode cX10_quiet 1 = .ok (.iconst 0, 1) := by decide +kernel
theorem dX10_quiet_2 : decode cX10_quiet 2 = .ok (.putfield 42, 3) := by decide +kernel
theorem dX10_quiet_5 : decode cX10_quiet 5 = .ok (.iconst 0, 1) := by decide +kernel
theorem dX10_quiet_6 : decode cX10_quiet 6 = .ok (.istore_n 1, 1) := by decide +kernel
theorem dX10_quiet_7 : decode cX10_quiet 7 = .ok (.iconst 0, 1) := by decide +kernel
theorem dX10_quiet_8 : decode cX10_quiet 8 = .ok (.istore_n 2, 1) := by decide +kernel
theorem dX10_quiet_9 : decode cX10_quiet 9 = .ok (.iload_n 2, 1) := by decide +kernel
theorem dX10_quiet_10 : decode cX10_quiet 10 = .ok (.bipush 8, 2) := by decide +kernel
theorem dX10_quiet_12 : decode cX10_quiet 12 = .ok (.if_icmp .ge 27, 3) := by decide +kernel
theorem dX10_quiet_15 : decode cX10_quiet 15 = .ok (.iload_n 1, 1) := by decide +kernel
theorem dX10_quiet_16 : decode cX10_quiet 16 = .ok (.aload_n 0, 1) := by decide +kernel
theorem dX10_quiet_17 : decode cX10_quiet 17 = .ok (.iload_n 2, 1) := by decide +kernel
theorem dX10_quiet_18 : decode cX10_quiet 18 = .ok (.invokevirtual 252, 3) := by decide +kernel
theorem dX10_quiet_21 : decode cX10_quiet 21 = .ok (.ifCond .ne 9, 3) := by decide +kernel
theorem dX10_quiet_24 : decode cX10_quiet 24 = .ok (.iconst 1, 1) := by decide +kernel
theorem dX10_quiet_25 : decode cX10_quiet 25 = .ok (.iload_n 2, 1) := by decide +kernel
theorem dX10_quiet_26 : decode cX10_quiet 26 = .ok (.ishl, 1) := by decide +kernel
theorem dX10_quiet_27 : decode cX10_quiet 27 = .ok (.goto 4, 3) := by decide +kernel
theorem dX10_quiet_30 : decode cX10_quiet 30 = .ok (.iconst 0, 1) := by decide +kernel
theorem dX10_quiet_31 : decode cX10_quiet 31 = .ok (.ior, 1) := by decide +kernel
theorem dX10_quiet_32 : decode cX10_quiet 32 = .ok (.istore_n 1, 1) := by decide +kernel
theorem dX10_quiet_33 : decode cX10_quiet 33 = .ok (.iinc 2 1, 3) := by decide +kernel
theorem dX10_quiet_36 : decode cX10_quiet 36 = .ok (.goto (-27), 3) := by decide +kernel
theorem dX10_quiet_39 : decode cX10_quiet 39 = .ok (.iload_n 1, 1) := by decide +kernel
theorem dX10_quiet_40 : decode cX10_quiet 40 = .ok (.ireturn, 1) := by decide +kernel
def lp_X10_quiet_9 (μ1 : Mem) : Nat → Int32 → Int32 → Option (Int32 × Mem)
  | 0, _, _ => none
  | n + 1, x2, x3 => if 8 ≤ x3 then (some (x2, μ1)) else ((f_X10_watchers μ1 x3).bind fun (q4 : Int32) => if q4 = 0 then (lp_X10_quiet_9 μ1 n (x2 ||| (jshl 1 x3)) (x3 + 1)) else (lp_X10_quiet_9 μ1 n (x2 ||| 0) (x3 + 1)))
def f_X10_quiet (μ : Mem) : Option (Int32 × Mem) := nm (upm μ 0 12 0 0) fun (μ1 : Mem) => lp_X10_quiet_9 μ1 4096 0 0
set_option maxHeartbeats 4000000 in
set_option maxRecDepth 100000 in
theorem c_X10_quiet (G : GG) (l : Launch) (μ : Mem) : CI G l yX10_quiet (.code yX10_quiet cX10_quiet 3 (some .int)) 6 [.ref (gad G 0 12)] μ (f_X10_quiet μ) := by
  refine CI.of (own := "SaturdayKeepModel") (L0 := [some (.ref (gad G 0 12)), none, none]) rfl rfl rfl (Nat.le_of_ble_eq_true rfl) (fun C hl hC => ?_)
  subst hl
  delta f_X10_quiet
  refine aw_aload_n (pc := 0) (i := 0) hC dX10_quiet_0 rfl rfl ?_
  refine aw_iconst (pc := 1) (v := 0) hC dX10_quiet_1 ic0 ?_
  refine aw_putIN (pc := 2) hC inX10 (v0 (j := 12) (by decide)) rfl rfl 0 (by decide) kw1314 rfl tyX10 tyX10_ok nmX10 rfl rfl (Nat.le_of_ble_eq_true rfl) rfl dX10_quiet_2 (fun μ1 => ?_)
  refine aw_iconst (pc := 5) (v := 0) hC dX10_quiet_5 ic0 ?_
  refine aw_istore_n (pc := 6) (i := 1) hC dX10_quiet_6 rfl rfl (by decide) ?_
  refine aw_iconst (pc := 7) (v := 0) hC dX10_quiet_7 ic0 ?_
  refine aw_istore_n (pc := 8) (i := 2) hC dX10_quiet_8 rfl rfl (by decide) ?_
  have hL9 : ∀ (n : Nat) (x2 : Int32) (x3 : Int32), AW G C (qI G C 0 0) 0 0 3 μ1 9 [some (.ref (gad G 0 12)), some (.int x2), some (.int x3)] [] (lp_X10_quiet_9 μ1 n x2 x3) := by
    intro n
    induction n with
    | zero => intro x2 x3; exact aw_none
    | succ n ih =>
      intro x2 x3
      rw [lp_X10_quiet_9]
      refine aw_iload_n (pc := 9) (i := 2) hC dX10_quiet_9 rfl rfl ?_
      refine aw_bipush (pc := 10) (v := 8) hC dX10_quiet_10 bc8 ?_
      refine aw_icmp_ge (pc := 12) (tgt := 39) hC dX10_quiet_12 (by decide) (fun _ => ?_) (fun _ => ?_)
      · skip
        refine aw_iload_n (pc := 39) (i := 1) hC dX10_quiet_39 rfl rfl ?_
        exact aw_iret hC dX10_quiet_40
      · skip
        refine aw_iload_n (pc := 15) (i := 1) hC dX10_quiet_15 rfl rfl ?_
        refine aw_aload_n (pc := 16) (i := 0) hC dX10_quiet_16 rfl rfl ?_
        refine aw_iload_n (pc := 17) (i := 2) hC dX10_quiet_17 rfl rfl ?_
        refine aw_callVR (pc := 18) (As := [.int x3]) hC mb_X10_watchers kw1596 (by decide) (c_X10_watchers G C.2.1   μ1 x3) (v0 (j := 12) (by decide)) rfl rfl rfl (Nat.le_of_ble_eq_true rfl) dX10_quiet_18 (fun q4 => ?_)
        refine aw_if_ne (pc := 21) (tgt := 30) hC dX10_quiet_21 (by decide) (fun _ => ?_) (fun _ => ?_)
        · skip
          refine aw_iconst (pc := 24) (v := 1) hC dX10_quiet_24 ic1 ?_
          refine aw_iload_n (pc := 25) (i := 2) hC dX10_quiet_25 rfl rfl ?_
          refine aw_ishl (pc := 26) hC dX10_quiet_26 ?_
          refine aw_goto (pc := 27) (tgt := 31) hC dX10_quiet_27 (by decide) ?_
          refine aw_ior (pc := 31) hC dX10_quiet_31 ?_
          refine aw_istore_n (pc := 32) (i := 1) hC dX10_quiet_32 rfl rfl (by decide) ?_
          refine aw_iinc (pc := 33) (v := x3 + 1) hC dX10_quiet_33 rfl (congrArg (HAdd.hAdd _) ic1) rfl (by decide) ?_
          refine aw_goto (pc := 36) (tgt := 9) hC dX10_quiet_36 (by decide) ?_
          exact ih (x2 ||| (jshl 1 x3)) (x3 + 1)
        · skip
          refine aw_iconst (pc := 30) (v := 0) hC dX10_quiet_30 ic0 ?_
          refine aw_ior (pc := 31) hC dX10_quiet_31 ?_
          refine aw_istore_n (pc := 32) (i := 1) hC dX10_quiet_32 rfl rfl (by decide) ?_
          refine aw_iinc (pc := 33) (v := x3 + 1) hC dX10_quiet_33 rfl (congrArg (HAdd.hAdd _) ic1) rfl (by decide) ?_
          refine aw_goto (pc := 36) (tgt := 9) hC dX10_quiet_36 (by decide) ?_
          exact ih (x2 ||| 0) (x3 + 1)
  exact hL9 4096 0 0
theorem dX10_risksOf_0 : decode cX10_risksOf 0 = .ok (.iconst 0, 1) := by decide +kernel
theorem dX10_risksOf_1 : decode cX10_risksOf 1 = .ok (.istore_n 2, 1) := by decide +kernel
theorem dX10_risksOf_2 : decode cX10_risksOf 2 = .ok (.iconst 0, 1) := by decide +kernel
theorem dX10_risksOf_3 : decode cX10_risksOf 3 = .ok (.istore_n 3, 1) := by decide +kernel
theorem dX10_risksOf_4 : decode cX10_risksOf 4 = .ok (.iload_n 3, 1) := by decide +kernel
theorem dX10_risksOf_5 : decode cX10_risksOf 5 = .ok (.aload_n 0, 1) := by decide +kernel
theorem dX10_risksOf_6 : decode cX10_risksOf 6 = .ok (.getfield 7, 3) := by decide +kernel
theorem dX10_risksOf_9 : decode cX10_risksOf 9 = .ok (.iconst 3, 1) := by decide +kernel
theorem dX10_risksOf_10 : decode cX10_risksOf 10 = .ok (.iaload, 1) := by decide +kernel
theorem dX10_risksOf_11 : decode cX10_risksOf 11 = .ok (.if_icmp .ge 29, 3) := by decide +kernel
theorem dX10_risksOf_14 : decode cX10_risksOf 14 = .ok (.iload_n 2, 1) := by decide +kernel
theorem dX10_risksOf_15 : decode cX10_risksOf 15 = .ok (.iload_n 1, 1) := by decide +kernel
theorem dX10_risksOf_16 : decode cX10_risksOf 16 = .ok (.iload_n 3, 1) := by decide +kernel
theorem dX10_risksOf_17 : decode cX10_risksOf 17 = .ok (.invokestatic 53, 3) := by decide +kernel
theorem dX10_risksOf_20 : decode cX10_risksOf 20 = .ok (.ifCond .eq 11, 3) := by decide +kernel
theorem dX10_risksOf_23 : decode cX10_risksOf 23 = .ok (.aload_n 0, 1) := by decide +kernel
theorem dX10_risksOf_24 : decode cX10_risksOf 24 = .ok (.iload_n 3, 1) := by decide +kernel
theorem dX10_risksOf_25 : decode cX10_risksOf 25 = .ok (.invokevirtual 258, 3) := by decide +kernel
theorem dX10_risksOf_28 : decode cX10_risksOf 28 = .ok (.goto 4, 3) := by decide +kernel
theorem dX10_risksOf_31 : decode cX10_risksOf 31 = .ok (.iconst 0, 1) := by decide +kernel
theorem dX10_risksOf_32 : decode cX10_risksOf 32 = .ok (.iadd, 1) := by decide +kernel
theorem dX10_risksOf_33 : decode cX10_risksOf 33 = .ok (.istore_n 2, 1) := by decide +kernel
theorem dX10_risksOf_34 : decode cX10_risksOf 34 = .ok (.iinc 3 1, 3) := by decide +kernel
theorem dX10_risksOf_37 : decode cX10_risksOf 37 = .ok (.goto (-33), 3) := by decide +kernel
theorem dX10_risksOf_40 : decode cX10_risksOf 40 = .ok (.iload_n 2, 1) := by decide +kernel
theorem dX10_risksOf_41 : decode cX10_risksOf 41 = .ok (.ireturn, 1) := by decide +kernel
def lp_X10_risksOf_4 (a1 : Int32) (μ : Mem) : Nat → Int32 → Int32 → Option (Int32)
  | 0, _, _ => none
  | n + 1, x1, x2 => ix 3 704 (if (μ 0 13 (Int32.toNatClampNeg 3)) ≤ x2 then (some x1) else ((f_X10_isOf a1 x2).bind fun (q3 : Int32) => if q3 = 0 then (lp_X10_risksOf_4 a1 μ n (x1 + 0) (x2 + 1)) else ((f_X10_risk μ x2).bind fun (q4 : Int32) => lp_X10_risksOf_4 a1 μ n (x1 + q4) (x2 + 1))))
def f_X10_risksOf (μ : Mem) (a1 : Int32) : Option (Int32) := lp_X10_risksOf_4 a1 μ 4096 0 0
set_option maxHeartbeats 4000000 in
set_option maxRecDepth 100000 in
theorem c_X10_risksOf (G : GG) (l : Launch) (μ : Mem) (a1 : Int32) : CR G l yX10_risksOf (.code yX10_risksOf cX10_risksOf 4 (some .int)) 3 [.ref (gad G 0 12), .int a1] μ (f_X10_risksOf μ a1) := by
  refine CR.of (own := "SaturdayKeepModel") (L0 := [some (.ref (gad G 0 12)), some (.int a1), none, none]) rfl rfl rfl (Nat.le_of_ble_eq_true rfl) (fun C hl hC => ?_)
  subst hl
  delta f_X10_risksOf
  refine aw_iconst (pc := 0) (v := 0) hC dX10_risksOf_0 ic0 ?_
  refine aw_istore_n (pc := 1) (i := 2) hC dX10_risksOf_1 rfl rfl (by decide) ?_
  refine aw_iconst (pc := 2) (v := 0) hC dX10_risksOf_2 ic0 ?_
  refine aw_istore_n (pc := 3) (i := 3) hC dX10_risksOf_3 rfl rfl (by decide) ?_
  have hL4 : ∀ (n : Nat) (x1 : Int32) (x2 : Int32), AW G C (qR G C 0 0 μ) 0 0 4 μ 4 [some (.ref (gad G 0 12)), some (.int a1), some (.int x1), some (.int x2)] [] (lp_X10_risksOf_4 a1 μ n x1 x2) := by
    intro n
    induction n with
    | zero => intro x1 x2; exact aw_none
    | succ n ih =>
      intro x1 x2
      rw [lp_X10_risksOf_4]
      refine aw_iload_n (pc := 4) (i := 3) hC dX10_risksOf_4 rfl rfl ?_
      refine aw_aload_n (pc := 5) (i := 0) hC dX10_risksOf_5 rfl rfl ?_
      refine aw_get (pc := 6) hC inX10 (v0 (j := 12) (by decide)) rfl rfl 1 (by decide) kw1315 rfl rfl dX10_risksOf_6 ?_
      refine aw_iconst (pc := 9) (v := 3) hC dX10_risksOf_9 ic3 ?_
      refine aw_iaload (pc := 10) hC (v0 (j := 13) (by decide)) rfl dX10_risksOf_10 ?_
      refine aw_icmp_ge (pc := 11) (tgt := 40) hC dX10_risksOf_11 (by decide) (fun _ => ?_) (fun _ => ?_)
      · skip
        refine aw_iload_n (pc := 40) (i := 2) hC dX10_risksOf_40 rfl rfl ?_
        exact aw_iretR hC dX10_risksOf_41
      · skip
        refine aw_iload_n (pc := 14) (i := 2) hC dX10_risksOf_14 rfl rfl ?_
        refine aw_iload_n (pc := 15) (i := 1) hC dX10_risksOf_15 rfl rfl ?_
        refine aw_iload_n (pc := 16) (i := 3) hC dX10_risksOf_16 rfl rfl ?_
        refine aw_callSR (pc := 17) (As := [.int a1, .int x2]) hC ms_X10_isOf kw1578 (by decide) (c_X10_isOf G C.2.1   μ a1 x2) rfl (Nat.le_of_ble_eq_true rfl) dX10_risksOf_17 (fun q3 => ?_)
        refine aw_if_eq (pc := 20) (tgt := 31) hC dX10_risksOf_20 (by decide) (fun _ => ?_) (fun _ => ?_)
        · skip
          refine aw_iconst (pc := 31) (v := 0) hC dX10_risksOf_31 ic0 ?_
          refine aw_iadd (pc := 32) hC dX10_risksOf_32 ?_
          refine aw_istore_n (pc := 33) (i := 2) hC dX10_risksOf_33 rfl rfl (by decide) ?_
          refine aw_iinc (pc := 34) (v := x2 + 1) hC dX10_risksOf_34 rfl (congrArg (HAdd.hAdd _) ic1) rfl (by decide) ?_
          refine aw_goto (pc := 37) (tgt := 4) hC dX10_risksOf_37 (by decide) ?_
          exact ih (x1 + 0) (x2 + 1)
        · skip
          refine aw_aload_n (pc := 23) (i := 0) hC dX10_risksOf_23 rfl rfl ?_
          refine aw_iload_n (pc := 24) (i := 3) hC dX10_risksOf_24 rfl rfl ?_
          refine aw_callVR (pc := 25) (As := [.int x2]) hC mb_X10_risk kw1543 (by decide) (c_X10_risk G C.2.1   μ x2) (v0 (j := 12) (by decide)) rfl rfl rfl (Nat.le_of_ble_eq_true rfl) dX10_risksOf_25 (fun q4 => ?_)
          refine aw_goto (pc := 28) (tgt := 32) hC dX10_risksOf_28 (by decide) ?_
          refine aw_iadd (pc := 32) hC dX10_risksOf_32 ?_
          refine aw_istore_n (pc := 33) (i := 2) hC dX10_risksOf_33 rfl rfl (by decide) ?_
          refine aw_iinc (pc := 34) (v := x2 + 1) hC dX10_risksOf_34 rfl (congrArg (HAdd.hAdd _) ic1) rfl (by decide) ?_
          refine aw_goto (pc := 37) (tgt := 4) hC dX10_risksOf_37 (by decide) ?_
          exact ih (x1 + q4) (x2 + 1)
  exact hL4 4096 0 0
