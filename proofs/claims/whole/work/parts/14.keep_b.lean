theorem dX9_count_0 : decode cX9_count 0 = .ok (.iload_n 1, 1) := by decide +kernel
theorem dX9_count_1 : decode cX9_count 1 = .ok (.tableswitch 222 0 15 #[79, 90, 98, 109, 117, 125, 133, 141, 149, 157, 165, 173, 181, 192, 203, 214], 79) := by decide +kernel
theorem dX9_count_80 : decode cX9_count 80 = .ok (.aload_n 0, 1) := by decide +kernel
theorem dX9_count_81 : decode cX9_count 81 = .ok (.getfield 42, 3) := by decide +kernel
theorem dX9_count_84 : decode cX9_count 84 = .ok (.getfield 139, 3) := by decide +kernel
theorem dX9_count_87 : decode cX9_count 87 = .ok (.getfield 378, 3) := by decide +kernel
theorem dX9_count_90 : decode cX9_count 90 = .ok (.ireturn, 1) := by decide +kernel
theorem dX9_count_91 : decode cX9_count 91 = .ok (.aload_n 0, 1) := by decide +kernel
theorem dX9_count_92 : decode cX9_count 92 = .ok (.getfield 42, 3) := by decide +kernel
theorem dX9_count_95 : decode cX9_count 95 = .ok (.getfield 100, 3) := by decide +kernel
theorem dX9_count_98 : decode cX9_count 98 = .ok (.ireturn, 1) := by decide +kernel
theorem dX9_count_99 : decode cX9_count 99 = .ok (.aload_n 0, 1) := by decide +kernel
theorem dX9_count_100 : decode cX9_count 100 = .ok (.getfield 42, 3) := by decide +kernel
theorem dX9_count_103 : decode cX9_count 103 = .ok (.getfield 116, 3) := by decide +kernel
theorem dX9_count_106 : decode cX9_count 106 = .ok (.getfield 127, 3) := by decide +kernel
theorem dX9_count_109 : decode cX9_count 109 = .ok (.ireturn, 1) := by decide +kernel
theorem dX9_count_110 : decode cX9_count 110 = .ok (.aload_n 0, 1) := by decide +kernel
theorem dX9_count_111 : decode cX9_count 111 = .ok (.getfield 42, 3) := by decide +kernel
theorem dX9_count_114 : decode cX9_count 114 = .ok (.getfield 416, 3) := by decide +kernel
theorem dX9_count_117 : decode cX9_count 117 = .ok (.ireturn, 1) := by decide +kernel
theorem dX9_count_118 : decode cX9_count 118 = .ok (.aload_n 0, 1) := by decide +kernel
theorem dX9_count_119 : decode cX9_count 119 = .ok (.getfield 42, 3) := by decide +kernel
theorem dX9_count_122 : decode cX9_count 122 = .ok (.getfield 239, 3) := by decide +kernel
theorem dX9_count_125 : decode cX9_count 125 = .ok (.ireturn, 1) := by decide +kernel
theorem dX9_count_126 : decode cX9_count 126 = .ok (.aload_n 0, 1) := by decide +kernel
theorem dX9_count_127 : decode cX9_count 127 = .ok (.getfield 42, 3) := by decide +kernel
theorem dX9_count_130 : decode cX9_count 130 = .ok (.getfield 242, 3) := by decide +kernel
theorem dX9_count_133 : decode cX9_count 133 = .ok (.ireturn, 1) := by decide +kernel
theorem dX9_count_134 : decode cX9_count 134 = .ok (.aload_n 0, 1) := by decide +kernel
theorem dX9_count_135 : decode cX9_count 135 = .ok (.getfield 42, 3) := by decide +kernel
theorem dX9_count_138 : decode cX9_count 138 = .ok (.getfield 247, 3) := by decide +kernel
theorem dX9_count_141 : decode cX9_count 141 = .ok (.ireturn, 1) := by decide +kernel
theorem dX9_count_142 : decode cX9_count 142 = .ok (.aload_n 0, 1) := by decide +kernel
theorem dX9_count_143 : decode cX9_count 143 = .ok (.getfield 42, 3) := by decide +kernel
theorem dX9_count_146 : decode cX9_count 146 = .ok (.getfield 252, 3) := by decide +kernel
theorem dX9_count_149 : decode cX9_count 149 = .ok (.ireturn, 1) := by decide +kernel
theorem dX9_count_150 : decode cX9_count 150 = .ok (.aload_n 0, 1) := by decide +kernel
theorem dX9_count_151 : decode cX9_count 151 = .ok (.getfield 42, 3) := by decide +kernel
theorem dX9_count_154 : decode cX9_count 154 = .ok (.getfield 284, 3) := by decide +kernel
theorem dX9_count_157 : decode cX9_count 157 = .ok (.ireturn, 1) := by decide +kernel
theorem dX9_count_158 : decode cX9_count 158 = .ok (.aload_n 0, 1) := by decide +kernel
theorem dX9_count_159 : decode cX9_count 159 = .ok (.getfield 42, 3) := by decide +kernel
theorem dX9_count_162 : decode cX9_count 162 = .ok (.getfield 419, 3) := by decide +kernel
theorem dX9_count_165 : decode cX9_count 165 = .ok (.ireturn, 1) := by decide +kernel
theorem dX9_count_166 : decode cX9_count 166 = .ok (.aload_n 0, 1) := by decide +kernel
theorem dX9_count_167 : decode cX9_count 167 = .ok (.getfield 42, 3) := by decide +kernel
theorem dX9_count_170 : decode cX9_count 170 = .ok (.getfield 270, 3) := by decide +kernel
theorem dX9_count_173 : decode cX9_count 173 = .ok (.ireturn, 1) := by decide +kernel
theorem dX9_count_174 : decode cX9_count 174 = .ok (.aload_n 0, 1) := by decide +kernel
theorem dX9_count_175 : decode cX9_count 175 = .ok (.getfield 42, 3) := by decide +kernel
theorem dX9_count_178 : decode cX9_count 178 = .ok (.invokevirtual 390, 3) := by decide +kernel
theorem dX9_count_181 : decode cX9_count 181 = .ok (.ireturn, 1) := by decide +kernel
theorem dX9_count_182 : decode cX9_count 182 = .ok (.aload_n 0, 1) := by decide +kernel
theorem dX9_count_183 : decode cX9_count 183 = .ok (.getfield 42, 3) := by decide +kernel
theorem dX9_count_186 : decode cX9_count 186 = .ok (.getfield 139, 3) := by decide +kernel
theorem dX9_count_189 : decode cX9_count 189 = .ok (.getfield 162, 3) := by decide +kernel
theorem dX9_count_192 : decode cX9_count 192 = .ok (.ireturn, 1) := by decide +kernel
theorem dX9_count_193 : decode cX9_count 193 = .ok (.aload_n 0, 1) := by decide +kernel
theorem dX9_count_194 : decode cX9_count 194 = .ok (.getfield 42, 3) := by decide +kernel
theorem dX9_count_197 : decode cX9_count 197 = .ok (.getfield 139, 3) := by decide +kernel
theorem dX9_count_200 : decode cX9_count 200 = .ok (.invokevirtual 182, 3) := by decide +kernel
theorem dX9_count_203 : decode cX9_count 203 = .ok (.ireturn, 1) := by decide +kernel
theorem dX9_count_204 : decode cX9_count 204 = .ok (.aload_n 0, 1) := by decide +kernel
theorem dX9_count_205 : decode cX9_count 205 = .ok (.getfield 42, 3) := by decide +kernel
theorem dX9_count_208 : decode cX9_count 208 = .ok (.getfield 396, 3) := by decide +kernel
theorem dX9_count_211 : decode cX9_count 211 = .ok (.getfield 422, 3) := by decide +kernel
theorem dX9_count_214 : decode cX9_count 214 = .ok (.ireturn, 1) := by decide +kernel
theorem dX9_count_215 : decode cX9_count 215 = .ok (.aload_n 0, 1) := by decide +kernel
theorem dX9_count_216 : decode cX9_count 216 = .ok (.getfield 55, 3) := by decide +kernel
theorem dX9_count_219 : decode cX9_count 219 = .ok (.getfield 425, 3) := by decide +kernel
theorem dX9_count_222 : decode cX9_count 222 = .ok (.ireturn, 1) := by decide +kernel
theorem dX9_count_223 : decode cX9_count 223 = .ok (.iconst (-1), 1) := by decide +kernel
theorem dX9_count_224 : decode cX9_count 224 = .ok (.ireturn, 1) := by decide +kernel
def f_X9_count (μ : Mem) (a1 : Int32) : Option (Int32) := if a1 = 0 then (some (μ 1 1 3)) else (if a1 = 1 then (some (μ 1 0 16)) else (if a1 = 2 then (some (μ 1 7 4)) else (if a1 = 3 then (some (μ 1 0 13)) else (if a1 = 4 then (some (μ 1 0 8)) else (if a1 = 5 then (some (μ 1 0 7)) else (if a1 = 6 then (some (μ 1 0 9)) else (if a1 = 7 then (some (μ 1 0 10)) else (if a1 = 8 then (some (μ 1 0 11)) else (if a1 = 9 then (some (μ 1 0 12)) else (if a1 = 10 then (some (μ 1 0 14)) else (if a1 = 11 then ((f_X2_allHoles 0 μ).bind fun (q1 : Int32) => some q1) else (if a1 = 12 then (some (μ 1 1 5)) else (if a1 = 13 then ((f_X1_doubtHere 0 μ).bind fun (q2 : Int32) => some q2) else (if a1 = 14 then (some (μ 1 5 1)) else (if a1 = 15 then (some (μ 0 9 2)) else (some (-1)))))))))))))))))
set_option maxHeartbeats 4000000 in
set_option maxRecDepth 100000 in
theorem c_X9_count (G : GG) (l : Launch) (μ : Mem) (a1 : Int32) : CR G l yX9_count (.code yX9_count cX9_count 2 (some .int)) 3 [.ref (gad G 0 0), .int a1] μ (f_X9_count μ a1) := by
  refine CR.of (own := "SaturdayKeep") (L0 := [some (.ref (gad G 0 0)), some (.int a1)]) rfl rfl rfl (Nat.le_of_ble_eq_true rfl) (fun C hl hC => ?_)
  subst hl
  delta f_X9_count
  refine aw_iload_n (pc := 0) (i := 1) hC dX9_count_0 rfl rfl ?_
  refine aw_case (k := 0) (fun hc1 => ?_) (fun hn1_0 => ?_)
  · skip
    refine aw_tswIn (pc := 1) (kI := 0) (tgt := 80) hC dX9_count_1 hc1 (by decide) (by decide) (by decide) rfl (by decide) ?_
    refine aw_aload_n (pc := 80) (i := 0) hC dX9_count_80 rfl rfl ?_
    refine aw_get (pc := 81) hC inX9 (v0 (j := 0) (by decide)) rfl rfl 4 (by decide) kw280 rfl rfl dX9_count_81 ?_
    refine aw_get (pc := 84) hC inX2 (vH (h := 0) (j := 0) (by decide) (by decide)) rfl rfl 0 (by decide) kw186 rfl rfl dX9_count_84 ?_
    refine aw_get (pc := 87) hC inX1 (vH (h := 0) (j := 1) (by decide) (by decide)) rfl rfl 3 (by decide) kw145 rfl rfl dX9_count_87 ?_
    exact aw_iretR hC dX9_count_90
  refine aw_case (k := 1) (fun hc1 => ?_) (fun hn1_1 => ?_)
  · skip
    refine aw_tswIn (pc := 1) (kI := 1) (tgt := 91) hC dX9_count_1 hc1 (by decide) (by decide) (by decide) rfl (by decide) ?_
    refine aw_aload_n (pc := 91) (i := 0) hC dX9_count_91 rfl rfl ?_
    refine aw_get (pc := 92) hC inX9 (v0 (j := 0) (by decide)) rfl rfl 4 (by decide) kw280 rfl rfl dX9_count_92 ?_
    refine aw_get (pc := 95) hC inX2 (vH (h := 0) (j := 0) (by decide) (by decide)) rfl rfl 16 (by decide) kw220 rfl rfl dX9_count_95 ?_
    exact aw_iretR hC dX9_count_98
  refine aw_case (k := 2) (fun hc1 => ?_) (fun hn1_2 => ?_)
  · skip
    refine aw_tswIn (pc := 1) (kI := 2) (tgt := 99) hC dX9_count_1 hc1 (by decide) (by decide) (by decide) rfl (by decide) ?_
    refine aw_aload_n (pc := 99) (i := 0) hC dX9_count_99 rfl rfl ?_
    refine aw_get (pc := 100) hC inX9 (v0 (j := 0) (by decide)) rfl rfl 4 (by decide) kw280 rfl rfl dX9_count_100 ?_
    refine aw_get (pc := 103) hC inX2 (vH (h := 0) (j := 0) (by decide) (by decide)) rfl rfl 2 (by decide) kw190 rfl rfl dX9_count_103 ?_
    refine aw_get (pc := 106) hC inX4 (vH (h := 0) (j := 7) (by decide) (by decide)) rfl rfl 4 (by decide) kw108 rfl rfl dX9_count_106 ?_
    exact aw_iretR hC dX9_count_109
  refine aw_case (k := 3) (fun hc1 => ?_) (fun hn1_3 => ?_)
  · skip
    refine aw_tswIn (pc := 1) (kI := 3) (tgt := 110) hC dX9_count_1 hc1 (by decide) (by decide) (by decide) rfl (by decide) ?_
    refine aw_aload_n (pc := 110) (i := 0) hC dX9_count_110 rfl rfl ?_
    refine aw_get (pc := 111) hC inX9 (v0 (j := 0) (by decide)) rfl rfl 4 (by decide) kw280 rfl rfl dX9_count_111 ?_
    refine aw_get (pc := 114) hC inX2 (vH (h := 0) (j := 0) (by decide) (by decide)) rfl rfl 13 (by decide) kw214 rfl rfl dX9_count_114 ?_
    exact aw_iretR hC dX9_count_117
  refine aw_case (k := 4) (fun hc1 => ?_) (fun hn1_4 => ?_)
  · skip
    refine aw_tswIn (pc := 1) (kI := 4) (tgt := 118) hC dX9_count_1 hc1 (by decide) (by decide) (by decide) rfl (by decide) ?_
    refine aw_aload_n (pc := 118) (i := 0) hC dX9_count_118 rfl rfl ?_
    refine aw_get (pc := 119) hC inX9 (v0 (j := 0) (by decide)) rfl rfl 4 (by decide) kw280 rfl rfl dX9_count_119 ?_
    refine aw_get (pc := 122) hC inX2 (vH (h := 0) (j := 0) (by decide) (by decide)) rfl rfl 8 (by decide) kw200 rfl rfl dX9_count_122 ?_
    exact aw_iretR hC dX9_count_125
  refine aw_case (k := 5) (fun hc1 => ?_) (fun hn1_5 => ?_)
  · skip
    refine aw_tswIn (pc := 1) (kI := 5) (tgt := 126) hC dX9_count_1 hc1 (by decide) (by decide) (by decide) rfl (by decide) ?_
    refine aw_aload_n (pc := 126) (i := 0) hC dX9_count_126 rfl rfl ?_
    refine aw_get (pc := 127) hC inX9 (v0 (j := 0) (by decide)) rfl rfl 4 (by decide) kw280 rfl rfl dX9_count_127 ?_
    refine aw_get (pc := 130) hC inX2 (vH (h := 0) (j := 0) (by decide) (by decide)) rfl rfl 7 (by decide) kw197 rfl rfl dX9_count_130 ?_
    exact aw_iretR hC dX9_count_133
  refine aw_case (k := 6) (fun hc1 => ?_) (fun hn1_6 => ?_)
  · skip
    refine aw_tswIn (pc := 1) (kI := 6) (tgt := 134) hC dX9_count_1 hc1 (by decide) (by decide) (by decide) rfl (by decide) ?_
    refine aw_aload_n (pc := 134) (i := 0) hC dX9_count_134 rfl rfl ?_
    refine aw_get (pc := 135) hC inX9 (v0 (j := 0) (by decide)) rfl rfl 4 (by decide) kw280 rfl rfl dX9_count_135 ?_
    refine aw_get (pc := 138) hC inX2 (vH (h := 0) (j := 0) (by decide) (by decide)) rfl rfl 9 (by decide) kw203 rfl rfl dX9_count_138 ?_
    exact aw_iretR hC dX9_count_141
  refine aw_case (k := 7) (fun hc1 => ?_) (fun hn1_7 => ?_)
  · skip
    refine aw_tswIn (pc := 1) (kI := 7) (tgt := 142) hC dX9_count_1 hc1 (by decide) (by decide) (by decide) rfl (by decide) ?_
    refine aw_aload_n (pc := 142) (i := 0) hC dX9_count_142 rfl rfl ?_
    refine aw_get (pc := 143) hC inX9 (v0 (j := 0) (by decide)) rfl rfl 4 (by decide) kw280 rfl rfl dX9_count_143 ?_
    refine aw_get (pc := 146) hC inX2 (vH (h := 0) (j := 0) (by decide) (by decide)) rfl rfl 10 (by decide) kw206 rfl rfl dX9_count_146 ?_
    exact aw_iretR hC dX9_count_149
  refine aw_case (k := 8) (fun hc1 => ?_) (fun hn1_8 => ?_)
  · skip
    refine aw_tswIn (pc := 1) (kI := 8) (tgt := 150) hC dX9_count_1 hc1 (by decide) (by decide) (by decide) rfl (by decide) ?_
    refine aw_aload_n (pc := 150) (i := 0) hC dX9_count_150 rfl rfl ?_
    refine aw_get (pc := 151) hC inX9 (v0 (j := 0) (by decide)) rfl rfl 4 (by decide) kw280 rfl rfl dX9_count_151 ?_
    refine aw_get (pc := 154) hC inX2 (vH (h := 0) (j := 0) (by decide) (by decide)) rfl rfl 11 (by decide) kw208 rfl rfl dX9_count_154 ?_
    exact aw_iretR hC dX9_count_157
  refine aw_case (k := 9) (fun hc1 => ?_) (fun hn1_9 => ?_)
  · skip
    refine aw_tswIn (pc := 1) (kI := 9) (tgt := 158) hC dX9_count_1 hc1 (by decide) (by decide) (by decide) rfl (by decide) ?_
    refine aw_aload_n (pc := 158) (i := 0) hC dX9_count_158 rfl rfl ?_
    refine aw_get (pc := 159) hC inX9 (v0 (j := 0) (by decide)) rfl rfl 4 (by decide) kw280 rfl rfl dX9_count_159 ?_
    refine aw_get (pc := 162) hC inX2 (vH (h := 0) (j := 0) (by decide) (by decide)) rfl rfl 12 (by decide) kw211 rfl rfl dX9_count_162 ?_
    exact aw_iretR hC dX9_count_165
  refine aw_case (k := 10) (fun hc1 => ?_) (fun hn1_10 => ?_)
  · skip
    refine aw_tswIn (pc := 1) (kI := 10) (tgt := 166) hC dX9_count_1 hc1 (by decide) (by decide) (by decide) rfl (by decide) ?_
    refine aw_aload_n (pc := 166) (i := 0) hC dX9_count_166 rfl rfl ?_
    refine aw_get (pc := 167) hC inX9 (v0 (j := 0) (by decide)) rfl rfl 4 (by decide) kw280 rfl rfl dX9_count_167 ?_
    refine aw_get (pc := 170) hC inX2 (vH (h := 0) (j := 0) (by decide) (by decide)) rfl rfl 14 (by decide) kw216 rfl rfl dX9_count_170 ?_
    exact aw_iretR hC dX9_count_173
  refine aw_case (k := 11) (fun hc1 => ?_) (fun hn1_11 => ?_)
  · skip
    refine aw_tswIn (pc := 1) (kI := 11) (tgt := 174) hC dX9_count_1 hc1 (by decide) (by decide) (by decide) rfl (by decide) ?_
    refine aw_aload_n (pc := 174) (i := 0) hC dX9_count_174 rfl rfl ?_
    refine aw_get (pc := 175) hC inX9 (v0 (j := 0) (by decide)) rfl rfl 4 (by decide) kw280 rfl rfl dX9_count_175 ?_
    refine aw_callVR (pc := 178) (As := []) hC mb_X2_allHoles kw568 (by decide) (c_X2_allHoles G C.2.1 0 (by decide) μ ) (vH (h := 0) (j := 0) (by decide) (by decide)) rfl rfl rfl (Nat.le_of_ble_eq_true rfl) dX9_count_178 (fun q1 => ?_)
    exact aw_iretR hC dX9_count_181
  refine aw_case (k := 12) (fun hc1 => ?_) (fun hn1_12 => ?_)
  · skip
    refine aw_tswIn (pc := 1) (kI := 12) (tgt := 182) hC dX9_count_1 hc1 (by decide) (by decide) (by decide) rfl (by decide) ?_
    refine aw_aload_n (pc := 182) (i := 0) hC dX9_count_182 rfl rfl ?_
    refine aw_get (pc := 183) hC inX9 (v0 (j := 0) (by decide)) rfl rfl 4 (by decide) kw280 rfl rfl dX9_count_183 ?_
    refine aw_get (pc := 186) hC inX2 (vH (h := 0) (j := 0) (by decide) (by decide)) rfl rfl 0 (by decide) kw186 rfl rfl dX9_count_186 ?_
    refine aw_get (pc := 189) hC inX1 (vH (h := 0) (j := 1) (by decide) (by decide)) rfl rfl 5 (by decide) kw150 rfl rfl dX9_count_189 ?_
    exact aw_iretR hC dX9_count_192
  refine aw_case (k := 13) (fun hc1 => ?_) (fun hn1_13 => ?_)
  · skip
    refine aw_tswIn (pc := 1) (kI := 13) (tgt := 193) hC dX9_count_1 hc1 (by decide) (by decide) (by decide) rfl (by decide) ?_
    refine aw_aload_n (pc := 193) (i := 0) hC dX9_count_193 rfl rfl ?_
    refine aw_get (pc := 194) hC inX9 (v0 (j := 0) (by decide)) rfl rfl 4 (by decide) kw280 rfl rfl dX9_count_194 ?_
    refine aw_get (pc := 197) hC inX2 (vH (h := 0) (j := 0) (by decide) (by decide)) rfl rfl 0 (by decide) kw186 rfl rfl dX9_count_197 ?_
    refine aw_callVR (pc := 200) (As := []) hC mb_X1_doubtHere kw573 (by decide) (c_X1_doubtHere G C.2.1 0 (by decide) μ ) (vH (h := 0) (j := 1) (by decide) (by decide)) rfl rfl rfl (Nat.le_of_ble_eq_true rfl) dX9_count_200 (fun q2 => ?_)
    exact aw_iretR hC dX9_count_203
  refine aw_case (k := 14) (fun hc1 => ?_) (fun hn1_14 => ?_)
  · skip
    refine aw_tswIn (pc := 1) (kI := 14) (tgt := 204) hC dX9_count_1 hc1 (by decide) (by decide) (by decide) rfl (by decide) ?_
    refine aw_aload_n (pc := 204) (i := 0) hC dX9_count_204 rfl rfl ?_
    refine aw_get (pc := 205) hC inX9 (v0 (j := 0) (by decide)) rfl rfl 4 (by decide) kw280 rfl rfl dX9_count_205 ?_
    refine aw_get (pc := 208) hC inX2 (vH (h := 0) (j := 0) (by decide) (by decide)) rfl rfl 1 (by decide) kw188 rfl rfl dX9_count_208 ?_
    refine aw_get (pc := 211) hC inX0 (vH (h := 0) (j := 5) (by decide) (by decide)) rfl rfl 1 (by decide) kw173 rfl rfl dX9_count_211 ?_
    exact aw_iretR hC dX9_count_214
  refine aw_case (k := 15) (fun hc1 => ?_) (fun hn1_15 => ?_)
  · skip
    refine aw_tswIn (pc := 1) (kI := 15) (tgt := 215) hC dX9_count_1 hc1 (by decide) (by decide) (by decide) rfl (by decide) ?_
    refine aw_aload_n (pc := 215) (i := 0) hC dX9_count_215 rfl rfl ?_
    refine aw_get (pc := 216) hC inX9 (v0 (j := 0) (by decide)) rfl rfl 7 (by decide) kw283 rfl rfl dX9_count_216 ?_
    refine aw_get (pc := 219) hC inX6 (v0 (j := 9) (by decide)) rfl rfl 2 (by decide) kw268 rfl rfl dX9_count_219 ?_
    exact aw_iretR hC dX9_count_222
  refine aw_tswOut (pc := 1) (tgt := 223) hC dX9_count_1 (by have e0 := lv_neT (a := 0) hn1_0 (by decide); have e1 := lv_neT (a := 1) hn1_1 (by decide); have e2 := lv_neT (a := 2) hn1_2 (by decide); have e3 := lv_neT (a := 3) hn1_3 (by decide); have e4 := lv_neT (a := 4) hn1_4 (by decide); have e5 := lv_neT (a := 5) hn1_5 (by decide); have e6 := lv_neT (a := 6) hn1_6 (by decide); have e7 := lv_neT (a := 7) hn1_7 (by decide); have e8 := lv_neT (a := 8) hn1_8 (by decide); have e9 := lv_neT (a := 9) hn1_9 (by decide); have e10 := lv_neT (a := 10) hn1_10 (by decide); have e11 := lv_neT (a := 11) hn1_11 (by decide); have e12 := lv_neT (a := 12) hn1_12 (by decide); have e13 := lv_neT (a := 13) hn1_13 (by decide); have e14 := lv_neT (a := 14) hn1_14 (by decide); have e15 := lv_neT (a := 15) hn1_15 (by decide); omega) (by decide) ?_
  refine aw_iconst (pc := 223) (v := (-1)) hC dX9_count_223 icm1 ?_
  exact aw_iretR hC dX9_count_224
theorem dX9_house_0 : decode cX9_house 0 = .ok (.aload_n 0, 1) := by decide +kernel
theorem dX9_house_1 : decode cX9_house 1 = .ok (.getfield 19, 3) := by decide +kernel
theorem dX9_house_4 : decode cX9_house 4 = .ok (.aload_n 0, 1) := by decide +kernel
theorem dX9_house_5 : decode cX9_house 5 = .ok (.getfield 10, 3) := by decide +kernel
theorem dX9_house_8 : decode cX9_house 8 = .ok (.invokevirtual 78, 3) := by decide +kernel
theorem dX9_house_11 : decode cX9_house 11 = .ok (.aload_n 0, 1) := by decide +kernel
theorem dX9_house_12 : decode cX9_house 12 = .ok (.getfield 10, 3) := by decide +kernel
theorem dX9_house_15 : decode cX9_house 15 = .ok (.iconst 0, 1) := by decide +kernel
theorem dX9_house_16 : decode cX9_house 16 = .ok (.putfield 71, 3) := by decide +kernel
theorem dX9_house_19 : decode cX9_house 19 = .ok (.aload_n 0, 1) := by decide +kernel
theorem dX9_house_20 : decode cX9_house 20 = .ok (.getfield 46, 3) := by decide +kernel
theorem dX9_house_23 : decode cX9_house 23 = .ok (.aload_n 0, 1) := by decide +kernel
theorem dX9_house_24 : decode cX9_house 24 = .ok (.getfield 42, 3) := by decide +kernel
theorem dX9_house_27 : decode cX9_house 27 = .ok (.invokevirtual 82, 3) := by decide +kernel
theorem dX9_house_30 : decode cX9_house 30 = .ok (.aload_n 0, 1) := by decide +kernel
theorem dX9_house_31 : decode cX9_house 31 = .ok (.getfield 28, 3) := by decide +kernel
theorem dX9_house_34 : decode cX9_house 34 = .ok (.aload_n 0, 1) := by decide +kernel
theorem dX9_house_35 : decode cX9_house 35 = .ok (.getfield 46, 3) := by decide +kernel
theorem dX9_house_38 : decode cX9_house 38 = .ok (.invokevirtual 86, 3) := by decide +kernel
theorem dX9_house_41 : decode cX9_house 41 = .ok (.istore_n 1, 1) := by decide +kernel
theorem dX9_house_42 : decode cX9_house 42 = .ok (.aload_n 0, 1) := by decide +kernel
theorem dX9_house_43 : decode cX9_house 43 = .ok (.iload_n 1, 1) := by decide +kernel
theorem dX9_house_44 : decode cX9_house 44 = .ok (.ifCond .eq 7, 3) := by decide +kernel
theorem dX9_house_47 : decode cX9_house 47 = .ok (.iconst (-1), 1) := by decide +kernel
theorem dX9_house_48 : decode cX9_house 48 = .ok (.goto 10, 3) := by decide +kernel
theorem dX9_house_51 : decode cX9_house 51 = .ok (.aload_n 0, 1) := by decide +kernel
theorem dX9_house_52 : decode cX9_house 52 = .ok (.getfield 19, 3) := by decide +kernel
theorem dX9_house_55 : decode cX9_house 55 = .ok (.invokevirtual 89, 3) := by decide +kernel
theorem dX9_house_58 : decode cX9_house 58 = .ok (.putfield 67, 3) := by decide +kernel
theorem dX9_house_61 : decode cX9_house 61 = .ok (.iload_n 1, 1) := by decide +kernel
theorem dX9_house_62 : decode cX9_house 62 = .ok (.ifCond .ne 13, 3) := by decide +kernel
theorem dX9_house_65 : decode cX9_house 65 = .ok (.new 93, 3) := by decide +kernel
theorem dX9_house_68 : decode cX9_house 68 = .ok (.dup, 1) := by decide +kernel
theorem dX9_house_69 : decode cX9_house 69 = .ok (.ldc 95, 2) := by decide +kernel
theorem dX9_house_71 : decode cX9_house 71 = .ok (.invokespecial 97, 3) := by decide +kernel
theorem dX9_house_74 : decode cX9_house 74 = .ok (.athrow, 1) := by decide +kernel
theorem dX9_house_75 : decode cX9_house 75 = .ok (.aload_n 0, 1) := by decide +kernel
theorem dX9_house_76 : decode cX9_house 76 = .ok (.getfield 42, 3) := by decide +kernel
theorem dX9_house_79 : decode cX9_house 79 = .ok (.getfield 100, 3) := by decide +kernel
theorem dX9_house_82 : decode cX9_house 82 = .ok (.bipush 12, 2) := by decide +kernel
theorem dX9_house_84 : decode cX9_house 84 = .ok (.if_icmp .lt 13, 3) := by decide +kernel
theorem dX9_house_87 : decode cX9_house 87 = .ok (.new 103, 3) := by decide +kernel
theorem dX9_house_90 : decode cX9_house 90 = .ok (.dup, 1) := by decide +kernel
theorem dX9_house_91 : decode cX9_house 91 = .ok (.ldc 105, 2) := by decide +kernel
theorem dX9_house_93 : decode cX9_house 93 = .ok (.invokespecial 107, 3) := by decide +kernel
theorem dX9_house_96 : decode cX9_house 96 = .ok (.athrow, 1) := by decide +kernel
theorem dX9_house_97 : decode cX9_house 97 = .ok (.aload_n 0, 1) := by decide +kernel
theorem dX9_house_98 : decode cX9_house 98 = .ok (.getfield 42, 3) := by decide +kernel
theorem dX9_house_101 : decode cX9_house 101 = .ok (.aload_n 0, 1) := by decide +kernel
theorem dX9_house_102 : decode cX9_house 102 = .ok (.getfield 46, 3) := by decide +kernel
theorem dX9_house_105 : decode cX9_house 105 = .ok (.invokevirtual 82, 3) := by decide +kernel
theorem dX9_house_108 : decode cX9_house 108 = .ok (.aload_n 0, 1) := by decide +kernel
theorem dX9_house_109 : decode cX9_house 109 = .ok (.getfield 42, 3) := by decide +kernel
theorem dX9_house_112 : decode cX9_house 112 = .ok (.dup, 1) := by decide +kernel
theorem dX9_house_113 : decode cX9_house 113 = .ok (.getfield 100, 3) := by decide +kernel
theorem dX9_house_116 : decode cX9_house 116 = .ok (.iconst 1, 1) := by decide +kernel
theorem dX9_house_117 : decode cX9_house 117 = .ok (.iadd, 1) := by decide +kernel
theorem dX9_house_118 : decode cX9_house 118 = .ok (.putfield 100, 3) := by decide +kernel
theorem dX9_house_121 : decode cX9_house 121 = .ok (.aload_n 0, 1) := by decide +kernel
theorem dX9_house_122 : decode cX9_house 122 = .ok (.getfield 55, 3) := by decide +kernel
theorem dX9_house_125 : decode cX9_house 125 = .ok (.invokevirtual 108, 3) := by decide +kernel
theorem dX9_house_128 : decode cX9_house 128 = .ok (.aload_n 0, 1) := by decide +kernel
theorem dX9_house_129 : decode cX9_house 129 = .ok (.getfield 42, 3) := by decide +kernel
theorem dX9_house_132 : decode cX9_house 132 = .ok (.getfield 100, 3) := by decide +kernel
theorem dX9_house_135 : decode cX9_house 135 = .ok (.ireturn, 1) := by decide +kernel
def f_X9_house (μ : Mem) : Option (Nat × Int32 × Mem) := (f_X8_read μ).bind fun (q1 : Mem) => nm (upm q1 0 1 1 0) fun (μ2 : Mem) => (f_X2_copy 1 0 μ2).bind fun (q3 : Mem) => (f_X3_read 1 q3).bind fun (q4 : Int32 × Mem) => nm (fun (x5 : Int32) => nm (upm q4.2 0 0 10 x5) fun (μ6 : Mem) => if q4.1 = 0 then (some (1, 0, μ6)) else (if (μ6 1 0 16) < 12 then ((f_X2_copy 0 1 μ6).bind fun (q7 : Mem) => nm (upm q7 1 0 16 ((q7 1 0 16) + 1)) fun (μ8 : Mem) => (f_X6_forget μ8).bind fun (q9 : Mem) => some (0, (q9 1 0 16), q9)) else (some (2, 0, μ6)))) fun (J58 : Int32 → Option (Nat × Int32 × Mem)) => if q4.1 = 0 then ((f_X8_begin q4.2).bind fun (q10 : Int32) => J58 q10) else (J58 (-1))
set_option maxHeartbeats 4000000 in
set_option maxRecDepth 100000 in
theorem c_X9_house (G : GG) (l : Launch) (hl0 : l.stackTraces = false) (μ : Mem) : CXT G l yX9_house (.code yX9_house cX9_house 2 (some .int)) 14 [.ref (gad G 0 0)] μ (f_X9_house μ) := by
  refine CXT.of (own := "SaturdayKeep") (L0 := [some (.ref (gad G 0 0)), none]) hl0 rfl rfl rfl (Nat.le_of_ble_eq_true rfl) (fun C hl1 hl hout hcs hC => ?_)
  subst hl1
  delta f_X9_house
  refine aw_aload_n (pc := 0) (i := 0) hC dX9_house_0 rfl rfl ?_
  refine aw_get (pc := 1) hC inX9 (v0 (j := 0) (by decide)) rfl rfl 1 (by decide) kw277 rfl rfl dX9_house_1 ?_
  refine aw_aload_n (pc := 4) (i := 0) hC dX9_house_4 rfl rfl ?_
  refine aw_get (pc := 5) hC inX9 (v0 (j := 0) (by decide)) rfl rfl 0 (by decide) kw276 rfl rfl dX9_house_5 ?_
  refine aw_callVV (pc := 8) (As := [.ref (gad G 0 1)]) hC mb_X8_read kw586 (by decide) (c_X8_read G C.2.1   μ ) (v0 (j := 3) (by decide)) rfl rfl rfl (Nat.le_of_ble_eq_true rfl) dX9_house_8 (fun q1 => ?_)
  refine aw_aload_n (pc := 11) (i := 0) hC dX9_house_11 rfl rfl ?_
  refine aw_get (pc := 12) hC inX9 (v0 (j := 0) (by decide)) rfl rfl 0 (by decide) kw276 rfl rfl dX9_house_12 ?_
  refine aw_iconst (pc := 15) (v := 0) hC dX9_house_15 ic0 ?_
  refine aw_putIN (pc := 16) hC inX7 (v0 (j := 1) (by decide)) rfl rfl 1 (by decide) kw42 rfl tyX7 tyX7_ok nmX7 rfl rfl (Nat.le_of_ble_eq_true rfl) rfl dX9_house_16 (fun μ2 => ?_)
  refine aw_aload_n (pc := 19) (i := 0) hC dX9_house_19 rfl rfl ?_
  refine aw_get (pc := 20) hC inX9 (v0 (j := 0) (by decide)) rfl rfl 5 (by decide) kw281 rfl rfl dX9_house_20 ?_
  refine aw_aload_n (pc := 23) (i := 0) hC dX9_house_23 rfl rfl ?_
  refine aw_get (pc := 24) hC inX9 (v0 (j := 0) (by decide)) rfl rfl 4 (by decide) kw280 rfl rfl dX9_house_24 ?_
  refine aw_callVV (pc := 27) (As := [.ref (gad G 1 0)]) hC mb_X2_copy kw346 (by decide) (c_X2_copy G C.2.1 1 0 (by decide) (by decide) μ2 ) (vH (h := 1) (j := 0) (by decide) (by decide)) rfl rfl rfl (Nat.le_of_ble_eq_true rfl) dX9_house_27 (fun q3 => ?_)
  refine aw_aload_n (pc := 30) (i := 0) hC dX9_house_30 rfl rfl ?_
  refine aw_get (pc := 31) hC inX9 (v0 (j := 0) (by decide)) rfl rfl 2 (by decide) kw278 rfl rfl dX9_house_31 ?_
  refine aw_aload_n (pc := 34) (i := 0) hC dX9_house_34 rfl rfl ?_
  refine aw_get (pc := 35) hC inX9 (v0 (j := 0) (by decide)) rfl rfl 5 (by decide) kw281 rfl rfl dX9_house_35 ?_
  refine aw_callVI (pc := 38) (As := [.ref (gad G 2 0)]) hC mb_X3_read kw693 (by decide) (c_X3_read G C.2.1 1 (by decide) q3 ) (v0 (j := 7) (by decide)) rfl rfl rfl (Nat.le_of_ble_eq_true rfl) dX9_house_38 (fun q4 => ?_)
  refine aw_istore_n (pc := 41) (i := 1) hC dX9_house_41 rfl rfl (by decide) ?_
  refine aw_aload_n (pc := 42) (i := 0) hC dX9_house_42 rfl rfl ?_
  refine aw_iload_n (pc := 43) (i := 1) hC dX9_house_43 rfl rfl ?_
  refine aw_nmJ (fun (J58 : Int32 → Option (Nat × Int32 × Mem)) => ∀ (x5 : Int32), AW G C (qX G C) 0 0 2 q4.2 58 [some (.ref (gad G 0 0)), some (.int q4.1)] [.int x5, .ref (gad G 0 0)] (J58 x5)) (fun x5 => ?_) (fun J58 hJ58 => ?_)
  · skip
    refine aw_putIN (pc := 58) hC inX9 (v0 (j := 0) (by decide)) rfl rfl 10 (by decide) kw286 rfl tyX9 tyX9_ok nmX9 rfl rfl (Nat.le_of_ble_eq_true rfl) rfl dX9_house_58 (fun μ6 => ?_)
    refine aw_iload_n (pc := 61) (i := 1) hC dX9_house_61 rfl rfl ?_
    refine aw_if_ne (pc := 62) (tgt := 75) hC dX9_house_62 (by decide) (fun _ => ?_) (fun _ => ?_)
    · skip
      exact aw_throw (k := 1) (i := 24) hC hl hout hcs rfl rfl kw745 kw21 thr1_97 (by decide) (by decide) (Nat.le_of_ble_eq_true rfl) dX9_house_65 dX9_house_68 dX9_house_69 dX9_house_71 dX9_house_74
    · skip
      refine aw_aload_n (pc := 75) (i := 0) hC dX9_house_75 rfl rfl ?_
      refine aw_get (pc := 76) hC inX9 (v0 (j := 0) (by decide)) rfl rfl 4 (by decide) kw280 rfl rfl dX9_house_76 ?_
      refine aw_get (pc := 79) hC inX2 (vH (h := 0) (j := 0) (by decide) (by decide)) rfl rfl 16 (by decide) kw220 rfl rfl dX9_house_79 ?_
      refine aw_bipush (pc := 82) (v := 12) hC dX9_house_82 bc12 ?_
      refine aw_icmp_lt (pc := 84) (tgt := 97) hC dX9_house_84 (by decide) (fun _ => ?_) (fun _ => ?_)
      · skip
        refine aw_aload_n (pc := 97) (i := 0) hC dX9_house_97 rfl rfl ?_
        refine aw_get (pc := 98) hC inX9 (v0 (j := 0) (by decide)) rfl rfl 4 (by decide) kw280 rfl rfl dX9_house_98 ?_
        refine aw_aload_n (pc := 101) (i := 0) hC dX9_house_101 rfl rfl ?_
        refine aw_get (pc := 102) hC inX9 (v0 (j := 0) (by decide)) rfl rfl 5 (by decide) kw281 rfl rfl dX9_house_102 ?_
        refine aw_callVV (pc := 105) (As := [.ref (gad G 2 0)]) hC mb_X2_copy kw346 (by decide) (c_X2_copy G C.2.1 0 1 (by decide) (by decide) μ6 ) (vH (h := 0) (j := 0) (by decide) (by decide)) rfl rfl rfl (Nat.le_of_ble_eq_true rfl) dX9_house_105 (fun q7 => ?_)
        refine aw_aload_n (pc := 108) (i := 0) hC dX9_house_108 rfl rfl ?_
        refine aw_get (pc := 109) hC inX9 (v0 (j := 0) (by decide)) rfl rfl 4 (by decide) kw280 rfl rfl dX9_house_109 ?_
        refine aw_dup (pc := 112) hC dX9_house_112 rfl ?_
        refine aw_get (pc := 113) hC inX2 (vH (h := 0) (j := 0) (by decide) (by decide)) rfl rfl 16 (by decide) kw220 rfl rfl dX9_house_113 ?_
        refine aw_iconst (pc := 116) (v := 1) hC dX9_house_116 ic1 ?_
        refine aw_iadd (pc := 117) hC dX9_house_117 ?_
        refine aw_putIN (pc := 118) hC inX2 (vH (h := 0) (j := 0) (by decide) (by decide)) rfl rfl 16 (by decide) kw220 rfl tyX2 tyX2_ok nmX2 rfl rfl (Nat.le_of_ble_eq_true rfl) rfl dX9_house_118 (fun μ8 => ?_)
        refine aw_aload_n (pc := 121) (i := 0) hC dX9_house_121 rfl rfl ?_
        refine aw_get (pc := 122) hC inX9 (v0 (j := 0) (by decide)) rfl rfl 7 (by decide) kw283 rfl rfl dX9_house_122 ?_
        refine aw_callVV (pc := 125) (As := []) hC mb_X6_forget kw560 (by decide) (c_X6_forget G C.2.1   μ8 ) (v0 (j := 9) (by decide)) rfl rfl rfl (Nat.le_of_ble_eq_true rfl) dX9_house_125 (fun q9 => ?_)
        refine aw_aload_n (pc := 128) (i := 0) hC dX9_house_128 rfl rfl ?_
        refine aw_get (pc := 129) hC inX9 (v0 (j := 0) (by decide)) rfl rfl 4 (by decide) kw280 rfl rfl dX9_house_129 ?_
        refine aw_get (pc := 132) hC inX2 (vH (h := 0) (j := 0) (by decide) (by decide)) rfl rfl 16 (by decide) kw220 rfl rfl dX9_house_132 ?_
        exact aw_iretX hC dX9_house_135
      · skip
        exact aw_throw (k := 2) (i := 25) hC hl hout hcs rfl rfl kw814 kw22 thr2_107 (by decide) (by decide) (Nat.le_of_ble_eq_true rfl) dX9_house_87 dX9_house_90 dX9_house_91 dX9_house_93 dX9_house_96
  · skip
    refine aw_if_eq (pc := 44) (tgt := 51) hC dX9_house_44 (by decide) (fun _ => ?_) (fun _ => ?_)
    · skip
      refine aw_aload_n (pc := 51) (i := 0) hC dX9_house_51 rfl rfl ?_
      refine aw_get (pc := 52) hC inX9 (v0 (j := 0) (by decide)) rfl rfl 1 (by decide) kw277 rfl rfl dX9_house_52 ?_
      refine aw_callVR (pc := 55) (As := []) hC mb_X8_begin kw741 (by decide) (c_X8_begin G C.2.1   q4.2 ) (v0 (j := 3) (by decide)) rfl rfl rfl (Nat.le_of_ble_eq_true rfl) dX9_house_55 (fun q10 => ?_)
      exact hJ58 q10
    · skip
      refine aw_iconst (pc := 47) (v := (-1)) hC dX9_house_47 icm1 ?_
      refine aw_goto (pc := 48) (tgt := 58) hC dX9_house_48 (by decide) ?_
      exact hJ58 (-1)
theorem dX9_law_0 : decode cX9_law 0 = .ok (.aload_n 0, 1) := by decide +kernel
theorem dX9_law_1 : decode cX9_law 1 = .ok (.getfield 19, 3) := by decide +kernel
theorem dX9_law_4 : decode cX9_law 4 = .ok (.aload_n 0, 1) := by decide +kernel
theorem dX9_law_5 : decode cX9_law 5 = .ok (.getfield 10, 3) := by decide +kernel
theorem dX9_law_8 : decode cX9_law 8 = .ok (.invokevirtual 78, 3) := by decide +kernel
theorem dX9_law_11 : decode cX9_law 11 = .ok (.aload_n 0, 1) := by decide +kernel
theorem dX9_law_12 : decode cX9_law 12 = .ok (.getfield 10, 3) := by decide +kernel
theorem dX9_law_15 : decode cX9_law 15 = .ok (.iconst 0, 1) := by decide +kernel
theorem dX9_law_16 : decode cX9_law 16 = .ok (.putfield 71, 3) := by decide +kernel
theorem dX9_law_19 : decode cX9_law 19 = .ok (.aload_n 0, 1) := by decide +kernel
theorem dX9_law_20 : decode cX9_law 20 = .ok (.getfield 35, 3) := by decide +kernel
theorem dX9_law_23 : decode cX9_law 23 = .ok (.invokevirtual 111, 3) := by decide +kernel
theorem dX9_law_26 : decode cX9_law 26 = .ok (.istore_n 1, 1) := by decide +kernel
theorem dX9_law_27 : decode cX9_law 27 = .ok (.aload_n 0, 1) := by decide +kernel
theorem dX9_law_28 : decode cX9_law 28 = .ok (.iload_n 1, 1) := by decide +kernel
theorem dX9_law_29 : decode cX9_law 29 = .ok (.ifCond .eq 7, 3) := by decide +kernel
theorem dX9_law_32 : decode cX9_law 32 = .ok (.iconst (-1), 1) := by decide +kernel
theorem dX9_law_33 : decode cX9_law 33 = .ok (.goto 10, 3) := by decide +kernel
theorem dX9_law_36 : decode cX9_law 36 = .ok (.aload_n 0, 1) := by decide +kernel
theorem dX9_law_37 : decode cX9_law 37 = .ok (.getfield 19, 3) := by decide +kernel
theorem dX9_law_40 : decode cX9_law 40 = .ok (.invokevirtual 89, 3) := by decide +kernel
theorem dX9_law_43 : decode cX9_law 43 = .ok (.putfield 67, 3) := by decide +kernel
theorem dX9_law_46 : decode cX9_law 46 = .ok (.iload_n 1, 1) := by decide +kernel
theorem dX9_law_47 : decode cX9_law 47 = .ok (.ifCond .ne 13, 3) := by decide +kernel
theorem dX9_law_50 : decode cX9_law 50 = .ok (.new 93, 3) := by decide +kernel
theorem dX9_law_53 : decode cX9_law 53 = .ok (.dup, 1) := by decide +kernel
theorem dX9_law_54 : decode cX9_law 54 = .ok (.ldc 114, 2) := by decide +kernel
theorem dX9_law_56 : decode cX9_law 56 = .ok (.invokespecial 97, 3) := by decide +kernel
theorem dX9_law_59 : decode cX9_law 59 = .ok (.athrow, 1) := by decide +kernel
theorem dX9_law_60 : decode cX9_law 60 = .ok (.aload_n 0, 1) := by decide +kernel
theorem dX9_law_61 : decode cX9_law 61 = .ok (.getfield 42, 3) := by decide +kernel
theorem dX9_law_64 : decode cX9_law 64 = .ok (.getfield 116, 3) := by decide +kernel
theorem dX9_law_67 : decode cX9_law 67 = .ok (.aload_n 0, 1) := by decide +kernel
theorem dX9_law_68 : decode cX9_law 68 = .ok (.getfield 35, 3) := by decide +kernel
theorem dX9_law_71 : decode cX9_law 71 = .ok (.getfield 120, 3) := by decide +kernel
theorem dX9_law_74 : decode cX9_law 74 = .ok (.invokevirtual 122, 3) := by decide +kernel
theorem dX9_law_77 : decode cX9_law 77 = .ok (.aload_n 0, 1) := by decide +kernel
theorem dX9_law_78 : decode cX9_law 78 = .ok (.getfield 55, 3) := by decide +kernel
theorem dX9_law_81 : decode cX9_law 81 = .ok (.invokevirtual 108, 3) := by decide +kernel
theorem dX9_law_84 : decode cX9_law 84 = .ok (.aload_n 0, 1) := by decide +kernel
theorem dX9_law_85 : decode cX9_law 85 = .ok (.getfield 42, 3) := by decide +kernel
theorem dX9_law_88 : decode cX9_law 88 = .ok (.getfield 116, 3) := by decide +kernel
theorem dX9_law_91 : decode cX9_law 91 = .ok (.getfield 127, 3) := by decide +kernel
theorem dX9_law_94 : decode cX9_law 94 = .ok (.ireturn, 1) := by decide +kernel
def f_X9_law (μ : Mem) : Option (Nat × Int32 × Mem) := (f_X8_read μ).bind fun (q1 : Mem) => nm (upm q1 0 1 1 0) fun (μ2 : Mem) => (f_X5_read μ2).bind fun (q3 : Int32 × Mem) => nm (fun (x4 : Int32) => nm (upm q3.2 0 0 10 x4) fun (μ5 : Mem) => if q3.1 = 0 then (some (1, 0, μ5)) else ((f_X4_copy 0 15 μ5).bind fun (q6 : Mem) => (f_X6_forget q6).bind fun (q7 : Mem) => some (0, (q7 1 7 4), q7))) fun (J43 : Int32 → Option (Nat × Int32 × Mem)) => if q3.1 = 0 then ((f_X8_begin q3.2).bind fun (q8 : Int32) => J43 q8) else (J43 (-1))
set_option maxHeartbeats 4000000 in
set_option maxRecDepth 100000 in
theorem c_X9_law (G : GG) (l : Launch) (hl0 : l.stackTraces = false) (μ : Mem) : CXT G l yX9_law (.code yX9_law cX9_law 2 (some .int)) 57 [.ref (gad G 0 0)] μ (f_X9_law μ) := by
  refine CXT.of (own := "SaturdayKeep") (L0 := [some (.ref (gad G 0 0)), none]) hl0 rfl rfl rfl (Nat.le_of_ble_eq_true rfl) (fun C hl1 hl hout hcs hC => ?_)
  subst hl1
  delta f_X9_law
  refine aw_aload_n (pc := 0) (i := 0) hC dX9_law_0 rfl rfl ?_
  refine aw_get (pc := 1) hC inX9 (v0 (j := 0) (by decide)) rfl rfl 1 (by decide) kw277 rfl rfl dX9_law_1 ?_
  refine aw_aload_n (pc := 4) (i := 0) hC dX9_law_4 rfl rfl ?_
  refine aw_get (pc := 5) hC inX9 (v0 (j := 0) (by decide)) rfl rfl 0 (by decide) kw276 rfl rfl dX9_law_5 ?_
  refine aw_callVV (pc := 8) (As := [.ref (gad G 0 1)]) hC mb_X8_read kw586 (by decide) (c_X8_read G C.2.1   μ ) (v0 (j := 3) (by decide)) rfl rfl rfl (Nat.le_of_ble_eq_true rfl) dX9_law_8 (fun q1 => ?_)
  refine aw_aload_n (pc := 11) (i := 0) hC dX9_law_11 rfl rfl ?_
  refine aw_get (pc := 12) hC inX9 (v0 (j := 0) (by decide)) rfl rfl 0 (by decide) kw276 rfl rfl dX9_law_12 ?_
  refine aw_iconst (pc := 15) (v := 0) hC dX9_law_15 ic0 ?_
  refine aw_putIN (pc := 16) hC inX7 (v0 (j := 1) (by decide)) rfl rfl 1 (by decide) kw42 rfl tyX7 tyX7_ok nmX7 rfl rfl (Nat.le_of_ble_eq_true rfl) rfl dX9_law_16 (fun μ2 => ?_)
  refine aw_aload_n (pc := 19) (i := 0) hC dX9_law_19 rfl rfl ?_
  refine aw_get (pc := 20) hC inX9 (v0 (j := 0) (by decide)) rfl rfl 3 (by decide) kw279 rfl rfl dX9_law_20 ?_
  refine aw_callVI (pc := 23) (As := []) hC mb_X5_read kw837 (by decide) (c_X5_read G C.2.1   μ2 ) (v0 (j := 8) (by decide)) rfl rfl rfl (Nat.le_of_ble_eq_true rfl) dX9_law_23 (fun q3 => ?_)
  refine aw_istore_n (pc := 26) (i := 1) hC dX9_law_26 rfl rfl (by decide) ?_
  refine aw_aload_n (pc := 27) (i := 0) hC dX9_law_27 rfl rfl ?_
  refine aw_iload_n (pc := 28) (i := 1) hC dX9_law_28 rfl rfl ?_
  refine aw_nmJ (fun (J43 : Int32 → Option (Nat × Int32 × Mem)) => ∀ (x4 : Int32), AW G C (qX G C) 0 0 2 q3.2 43 [some (.ref (gad G 0 0)), some (.int q3.1)] [.int x4, .ref (gad G 0 0)] (J43 x4)) (fun x4 => ?_) (fun J43 hJ43 => ?_)
  · skip
    refine aw_putIN (pc := 43) hC inX9 (v0 (j := 0) (by decide)) rfl rfl 10 (by decide) kw286 rfl tyX9 tyX9_ok nmX9 rfl rfl (Nat.le_of_ble_eq_true rfl) rfl dX9_law_43 (fun μ5 => ?_)
    refine aw_iload_n (pc := 46) (i := 1) hC dX9_law_46 rfl rfl ?_
    refine aw_if_ne (pc := 47) (tgt := 60) hC dX9_law_47 (by decide) (fun _ => ?_) (fun _ => ?_)
    · skip
      exact aw_throw (k := 1) (i := 26) hC hl hout hcs rfl rfl kw745 kw21 thr1_97 (by decide) (by decide) (Nat.le_of_ble_eq_true rfl) dX9_law_50 dX9_law_53 dX9_law_54 dX9_law_56 dX9_law_59
    · skip
      refine aw_aload_n (pc := 60) (i := 0) hC dX9_law_60 rfl rfl ?_
      refine aw_get (pc := 61) hC inX9 (v0 (j := 0) (by decide)) rfl rfl 4 (by decide) kw280 rfl rfl dX9_law_61 ?_
      refine aw_get (pc := 64) hC inX2 (vH (h := 0) (j := 0) (by decide) (by decide)) rfl rfl 2 (by decide) kw190 rfl rfl dX9_law_64 ?_
      refine aw_aload_n (pc := 67) (i := 0) hC dX9_law_67 rfl rfl ?_
      refine aw_get (pc := 68) hC inX9 (v0 (j := 0) (by decide)) rfl rfl 3 (by decide) kw279 rfl rfl dX9_law_68 ?_
      refine aw_get (pc := 71) hC inX5 (v0 (j := 8) (by decide)) rfl rfl 1 (by decide) kw122 rfl rfl dX9_law_71 ?_
      refine aw_callVV (pc := 74) (As := [.ref (gad G 16 7)]) hC mb_X4_copy kw869 (by decide) (c_X4_copy G C.2.1 0 15 (by decide) (by decide) μ5 ) (vH (h := 0) (j := 7) (by decide) (by decide)) rfl rfl rfl (Nat.le_of_ble_eq_true rfl) dX9_law_74 (fun q6 => ?_)
      refine aw_aload_n (pc := 77) (i := 0) hC dX9_law_77 rfl rfl ?_
      refine aw_get (pc := 78) hC inX9 (v0 (j := 0) (by decide)) rfl rfl 7 (by decide) kw283 rfl rfl dX9_law_78 ?_
      refine aw_callVV (pc := 81) (As := []) hC mb_X6_forget kw560 (by decide) (c_X6_forget G C.2.1   q6 ) (v0 (j := 9) (by decide)) rfl rfl rfl (Nat.le_of_ble_eq_true rfl) dX9_law_81 (fun q7 => ?_)
      refine aw_aload_n (pc := 84) (i := 0) hC dX9_law_84 rfl rfl ?_
      refine aw_get (pc := 85) hC inX9 (v0 (j := 0) (by decide)) rfl rfl 4 (by decide) kw280 rfl rfl dX9_law_85 ?_
      refine aw_get (pc := 88) hC inX2 (vH (h := 0) (j := 0) (by decide) (by decide)) rfl rfl 2 (by decide) kw190 rfl rfl dX9_law_88 ?_
      refine aw_get (pc := 91) hC inX4 (vH (h := 0) (j := 7) (by decide) (by decide)) rfl rfl 4 (by decide) kw108 rfl rfl dX9_law_91 ?_
      exact aw_iretX hC dX9_law_94
  · skip
    refine aw_if_eq (pc := 29) (tgt := 36) hC dX9_law_29 (by decide) (fun _ => ?_) (fun _ => ?_)
    · skip
      refine aw_aload_n (pc := 36) (i := 0) hC dX9_law_36 rfl rfl ?_
      refine aw_get (pc := 37) hC inX9 (v0 (j := 0) (by decide)) rfl rfl 1 (by decide) kw277 rfl rfl dX9_law_37 ?_
      refine aw_callVR (pc := 40) (As := []) hC mb_X8_begin kw741 (by decide) (c_X8_begin G C.2.1   q3.2 ) (v0 (j := 3) (by decide)) rfl rfl rfl (Nat.le_of_ble_eq_true rfl) dX9_law_40 (fun q8 => ?_)
      exact hJ43 q8
    · skip
      refine aw_iconst (pc := 32) (v := (-1)) hC dX9_law_32 icm1 ?_
      refine aw_goto (pc := 33) (tgt := 43) hC dX9_law_33 (by decide) ?_
      exact hJ43 (-1)
theorem dX9_isGuest_0 : decode cX9_isGuest 0 = .ok (.iload_n 1, 1) := by decide +kernel
theorem dX9_isGuest_1 : decode cX9_isGuest 1 = .ok (.ifCond .lt 21, 3) := by decide +kernel
theorem dX9_isGuest_4 : decode cX9_isGuest 4 = .ok (.iload_n 1, 1) := by decide +kernel
theorem dX9_isGuest_5 : decode cX9_isGuest 5 = .ok (.aload_n 0, 1) := by decide +kernel
theorem dX9_isGuest_6 : decode cX9_isGuest 6 = .ok (.getfield 42, 3) := by decide +kernel
theorem dX9_isGuest_9 : decode cX9_isGuest 9 = .ok (.getfield 139, 3) := by decide +kernel
theorem dX9_isGuest_12 : decode cX9_isGuest 12 = .ok (.getfield 378, 3) := by decide +kernel
theorem dX9_isGuest_15 : decode cX9_isGuest 15 = .ok (.if_icmp .ge 7, 3) := by decide +kernel
theorem dX9_isGuest_18 : decode cX9_isGuest 18 = .ok (.iconst 1, 1) := by decide +kernel
theorem dX9_isGuest_19 : decode cX9_isGuest 19 = .ok (.goto 4, 3) := by decide +kernel
theorem dX9_isGuest_22 : decode cX9_isGuest 22 = .ok (.iconst 0, 1) := by decide +kernel
theorem dX9_isGuest_23 : decode cX9_isGuest 23 = .ok (.ireturn, 1) := by decide +kernel
def f_X9_isGuest (μ : Mem) (a1 : Int32) : Option (Int32) := if a1 < 0 then (some 0) else (if (μ 1 1 3) ≤ a1 then (some 0) else (some 1))
set_option maxHeartbeats 4000000 in
set_option maxRecDepth 100000 in
theorem c_X9_isGuest (G : GG) (l : Launch) (μ : Mem) (a1 : Int32) : CR G l yX9_isGuest (.code yX9_isGuest cX9_isGuest 2 (some .boolean)) 1 [.ref (gad G 0 0), .int a1] μ (f_X9_isGuest μ a1) := by
  refine CR.of (own := "SaturdayKeep") (L0 := [some (.ref (gad G 0 0)), some (.int a1)]) rfl rfl rfl (Nat.le_of_ble_eq_true rfl) (fun C hl hC => ?_)
  subst hl
  delta f_X9_isGuest
  refine aw_iload_n (pc := 0) (i := 1) hC dX9_isGuest_0 rfl rfl ?_
  refine aw_if_lt (pc := 1) (tgt := 22) hC dX9_isGuest_1 (by decide) (fun _ => ?_) (fun _ => ?_)
  · skip
    refine aw_iconst (pc := 22) (v := 0) hC dX9_isGuest_22 ic0 ?_
    exact aw_zret0R hC dX9_isGuest_23
  · skip
    refine aw_iload_n (pc := 4) (i := 1) hC dX9_isGuest_4 rfl rfl ?_
    refine aw_aload_n (pc := 5) (i := 0) hC dX9_isGuest_5 rfl rfl ?_
    refine aw_get (pc := 6) hC inX9 (v0 (j := 0) (by decide)) rfl rfl 4 (by decide) kw280 rfl rfl dX9_isGuest_6 ?_
    refine aw_get (pc := 9) hC inX2 (vH (h := 0) (j := 0) (by decide) (by decide)) rfl rfl 0 (by decide) kw186 rfl rfl dX9_isGuest_9 ?_
    refine aw_get (pc := 12) hC inX1 (vH (h := 0) (j := 1) (by decide) (by decide)) rfl rfl 3 (by decide) kw145 rfl rfl dX9_isGuest_12 ?_
    refine aw_icmp_ge (pc := 15) (tgt := 22) hC dX9_isGuest_15 (by decide) (fun _ => ?_) (fun _ => ?_)
    · skip
      refine aw_iconst (pc := 22) (v := 0) hC dX9_isGuest_22 ic0 ?_
      exact aw_zret0R hC dX9_isGuest_23
    · skip
      refine aw_iconst (pc := 18) (v := 1) hC dX9_isGuest_18 ic1 ?_
      refine aw_goto (pc := 19) (tgt := 23) hC dX9_isGuest_19 (by decide) ?_
      exact aw_zret1R hC dX9_isGuest_23
theorem dX9_shareOf_0 : decode cX9_shareOf 0 = .ok (.aload_n 0, 1) := by decide +kernel
theorem dX9_shareOf_1 : decode cX9_shareOf 1 = .ok (.getfield 42, 3) := by decide +kernel
theorem dX9_shareOf_4 : decode cX9_shareOf 4 = .ok (.getfield 139, 3) := by decide +kernel
theorem dX9_shareOf_7 : decode cX9_shareOf 7 = .ok (.invokevirtual 182, 3) := by decide +kernel
theorem dX9_shareOf_10 : decode cX9_shareOf 10 = .ok (.istore_n 2, 1) := by decide +kernel
theorem dX9_shareOf_11 : decode cX9_shareOf 11 = .ok (.iload_n 2, 1) := by decide +kernel
theorem dX9_shareOf_12 : decode cX9_shareOf 12 = .ok (.ifCond .le 20, 3) := by decide +kernel
theorem dX9_shareOf_15 : decode cX9_shareOf 15 = .ok (.aload_n 0, 1) := by decide +kernel
theorem dX9_shareOf_16 : decode cX9_shareOf 16 = .ok (.getfield 42, 3) := by decide +kernel
theorem dX9_shareOf_19 : decode cX9_shareOf 19 = .ok (.getfield 139, 3) := by decide +kernel
theorem dX9_shareOf_22 : decode cX9_shareOf 22 = .ok (.getfield 162, 3) := by decide +kernel
theorem dX9_shareOf_25 : decode cX9_shareOf 25 = .ok (.iload_n 1, 1) := by decide +kernel
theorem dX9_shareOf_26 : decode cX9_shareOf 26 = .ok (.invokestatic 158, 3) := by decide +kernel
theorem dX9_shareOf_29 : decode cX9_shareOf 29 = .ok (.ifCond .ne 5, 3) := by decide +kernel
theorem dX9_shareOf_32 : decode cX9_shareOf 32 = .ok (.iconst 0, 1) := by decide +kernel
theorem dX9_shareOf_33 : decode cX9_shareOf 33 = .ok (.ireturn, 1) := by decide +kernel
theorem dX9_shareOf_34 : decode cX9_shareOf 34 = .ok (.bipush 100, 2) := by decide +kernel
theorem dX9_shareOf_36 : decode cX9_shareOf 36 = .ok (.aload_n 0, 1) := by decide +kernel
theorem dX9_shareOf_37 : decode cX9_shareOf 37 = .ok (.getfield 42, 3) := by decide +kernel
theorem dX9_shareOf_40 : decode cX9_shareOf 40 = .ok (.getfield 139, 3) := by decide +kernel
theorem dX9_shareOf_43 : decode cX9_shareOf 43 = .ok (.iload_n 1, 1) := by decide +kernel
theorem dX9_shareOf_44 : decode cX9_shareOf 44 = .ok (.invokevirtual 152, 3) := by decide +kernel
theorem dX9_shareOf_47 : decode cX9_shareOf 47 = .ok (.imul, 1) := by decide +kernel
theorem dX9_shareOf_48 : decode cX9_shareOf 48 = .ok (.iload_n 2, 1) := by decide +kernel
theorem dX9_shareOf_49 : decode cX9_shareOf 49 = .ok (.idiv, 1) := by decide +kernel
theorem dX9_shareOf_50 : decode cX9_shareOf 50 = .ok (.ireturn, 1) := by decide +kernel
def f_X9_shareOf (μ : Mem) (a1 : Int32) : Option (Int32) := (f_X1_doubtHere 0 μ).bind fun (q1 : Int32) => if q1 ≤ 0 then (some 0) else ((f_X9_holds (μ 1 1 5) a1).bind fun (q2 : Int32) => if q2 = 0 then (some 0) else ((f_X1_doubtOf 0 μ a1).bind fun (q3 : Int32) => nz q1 (some ((100 * q3) / q1))))
set_option maxHeartbeats 4000000 in
set_option maxRecDepth 100000 in
theorem c_X9_shareOf (G : GG) (l : Launch) (μ : Mem) (a1 : Int32) : CR G l yX9_shareOf (.code yX9_shareOf cX9_shareOf 3 (some .int)) 3 [.ref (gad G 0 0), .int a1] μ (f_X9_shareOf μ a1) := by
  refine CR.of (own := "SaturdayKeep") (L0 := [some (.ref (gad G 0 0)), some (.int a1), none]) rfl rfl rfl (Nat.le_of_ble_eq_true rfl) (fun C hl hC => ?_)
  subst hl
  delta f_X9_shareOf
  refine aw_aload_n (pc := 0) (i := 0) hC dX9_shareOf_0 rfl rfl ?_
  refine aw_get (pc := 1) hC inX9 (v0 (j := 0) (by decide)) rfl rfl 4 (by decide) kw280 rfl rfl dX9_shareOf_1 ?_
  refine aw_get (pc := 4) hC inX2 (vH (h := 0) (j := 0) (by decide) (by decide)) rfl rfl 0 (by decide) kw186 rfl rfl dX9_shareOf_4 ?_
  refine aw_callVR (pc := 7) (As := []) hC mb_X1_doubtHere kw573 (by decide) (c_X1_doubtHere G C.2.1 0 (by decide) μ ) (vH (h := 0) (j := 1) (by decide) (by decide)) rfl rfl rfl (Nat.le_of_ble_eq_true rfl) dX9_shareOf_7 (fun q1 => ?_)
  refine aw_istore_n (pc := 10) (i := 2) hC dX9_shareOf_10 rfl rfl (by decide) ?_
  refine aw_iload_n (pc := 11) (i := 2) hC dX9_shareOf_11 rfl rfl ?_
  refine aw_if_le (pc := 12) (tgt := 32) hC dX9_shareOf_12 (by decide) (fun _ => ?_) (fun _ => ?_)
  · skip
    refine aw_iconst (pc := 32) (v := 0) hC dX9_shareOf_32 ic0 ?_
    exact aw_iretR hC dX9_shareOf_33
  · skip
    refine aw_aload_n (pc := 15) (i := 0) hC dX9_shareOf_15 rfl rfl ?_
    refine aw_get (pc := 16) hC inX9 (v0 (j := 0) (by decide)) rfl rfl 4 (by decide) kw280 rfl rfl dX9_shareOf_16 ?_
    refine aw_get (pc := 19) hC inX2 (vH (h := 0) (j := 0) (by decide) (by decide)) rfl rfl 0 (by decide) kw186 rfl rfl dX9_shareOf_19 ?_
    refine aw_get (pc := 22) hC inX1 (vH (h := 0) (j := 1) (by decide) (by decide)) rfl rfl 5 (by decide) kw150 rfl rfl dX9_shareOf_22 ?_
    refine aw_iload_n (pc := 25) (i := 1) hC dX9_shareOf_25 rfl rfl ?_
    refine aw_callSR (pc := 26) (As := [.int (μ 1 1 5), .int a1]) hC ms_X9_holds kw415 (by decide) (c_X9_holds G C.2.1   μ (μ 1 1 5) a1) rfl (Nat.le_of_ble_eq_true rfl) dX9_shareOf_26 (fun q2 => ?_)
    refine aw_if_ne (pc := 29) (tgt := 34) hC dX9_shareOf_29 (by decide) (fun _ => ?_) (fun _ => ?_)
    · skip
      refine aw_iconst (pc := 32) (v := 0) hC dX9_shareOf_32 ic0 ?_
      exact aw_iretR hC dX9_shareOf_33
    · skip
      refine aw_bipush (pc := 34) (v := 100) hC dX9_shareOf_34 bc100 ?_
      refine aw_aload_n (pc := 36) (i := 0) hC dX9_shareOf_36 rfl rfl ?_
      refine aw_get (pc := 37) hC inX9 (v0 (j := 0) (by decide)) rfl rfl 4 (by decide) kw280 rfl rfl dX9_shareOf_37 ?_
      refine aw_get (pc := 40) hC inX2 (vH (h := 0) (j := 0) (by decide) (by decide)) rfl rfl 0 (by decide) kw186 rfl rfl dX9_shareOf_40 ?_
      refine aw_iload_n (pc := 43) (i := 1) hC dX9_shareOf_43 rfl rfl ?_
      refine aw_callVR (pc := 44) (As := [.int a1]) hC mb_X1_doubtOf kw899 (by decide) (c_X1_doubtOf G C.2.1 0 (by decide) μ a1) (vH (h := 0) (j := 1) (by decide) (by decide)) rfl rfl rfl (Nat.le_of_ble_eq_true rfl) dX9_shareOf_44 (fun q3 => ?_)
      refine aw_imul (pc := 47) hC dX9_shareOf_47 ?_
      refine aw_iload_n (pc := 48) (i := 2) hC dX9_shareOf_48 rfl rfl ?_
      refine aw_idivZ (pc := 49) hC dX9_shareOf_49 ?_
      exact aw_iretR hC dX9_shareOf_50
theorem dX9_guest_0 : decode cX9_guest 0 = .ok (.aload_n 0, 1) := by decide +kernel
theorem dX9_guest_1 : decode cX9_guest 1 = .ok (.iload_n 1, 1) := by decide +kernel
theorem dX9_guest_2 : decode cX9_guest 2 = .ok (.invokevirtual 130, 3) := by decide +kernel
theorem dX9_guest_5 : decode cX9_guest 5 = .ok (.ifCond .ne 13, 3) := by decide +kernel
theorem dX9_guest_8 : decode cX9_guest 8 = .ok (.new 134, 3) := by decide +kernel
theorem dX9_guest_11 : decode cX9_guest 11 = .ok (.dup, 1) := by decide +kernel
theorem dX9_guest_12 : decode cX9_guest 12 = .ok (.ldc 136, 2) := by decide +kernel
theorem dX9_guest_14 : decode cX9_guest 14 = .ok (.invokespecial 138, 3) := by decide +kernel
theorem dX9_guest_17 : decode cX9_guest 17 = .ok (.athrow, 1) := by decide +kernel
theorem dX9_guest_18 : decode cX9_guest 18 = .ok (.iload_n 2, 1) := by decide +kernel
theorem dX9_guest_19 : decode cX9_guest 19 = .ok (.tableswitch 167 0 8 #[49, 61, 73, 85, 108, 131, 143, 152, 161], 49) := by decide +kernel
theorem dX9_guest_68 : decode cX9_guest 68 = .ok (.aload_n 0, 1) := by decide +kernel
theorem dX9_guest_69 : decode cX9_guest 69 = .ok (.getfield 42, 3) := by decide +kernel
theorem dX9_guest_72 : decode cX9_guest 72 = .ok (.getfield 139, 3) := by decide +kernel
theorem dX9_guest_75 : decode cX9_guest 75 = .ok (.iload_n 1, 1) := by decide +kernel
theorem dX9_guest_76 : decode cX9_guest 76 = .ok (.invokevirtual 143, 3) := by decide +kernel
theorem dX9_guest_79 : decode cX9_guest 79 = .ok (.ireturn, 1) := by decide +kernel
theorem dX9_guest_80 : decode cX9_guest 80 = .ok (.aload_n 0, 1) := by decide +kernel
theorem dX9_guest_81 : decode cX9_guest 81 = .ok (.getfield 42, 3) := by decide +kernel
theorem dX9_guest_84 : decode cX9_guest 84 = .ok (.getfield 139, 3) := by decide +kernel
theorem dX9_guest_87 : decode cX9_guest 87 = .ok (.iload_n 1, 1) := by decide +kernel
theorem dX9_guest_88 : decode cX9_guest 88 = .ok (.invokevirtual 149, 3) := by decide +kernel
theorem dX9_guest_91 : decode cX9_guest 91 = .ok (.ireturn, 1) := by decide +kernel
theorem dX9_guest_92 : decode cX9_guest 92 = .ok (.aload_n 0, 1) := by decide +kernel
theorem dX9_guest_93 : decode cX9_guest 93 = .ok (.getfield 42, 3) := by decide +kernel
theorem dX9_guest_96 : decode cX9_guest 96 = .ok (.getfield 139, 3) := by decide +kernel
theorem dX9_guest_99 : decode cX9_guest 99 = .ok (.iload_n 1, 1) := by decide +kernel
theorem dX9_guest_100 : decode cX9_guest 100 = .ok (.invokevirtual 152, 3) := by decide +kernel
theorem dX9_guest_103 : decode cX9_guest 103 = .ok (.ireturn, 1) := by decide +kernel
theorem dX9_guest_104 : decode cX9_guest 104 = .ok (.aload_n 0, 1) := by decide +kernel
theorem dX9_guest_105 : decode cX9_guest 105 = .ok (.getfield 42, 3) := by decide +kernel
theorem dX9_guest_108 : decode cX9_guest 108 = .ok (.getfield 139, 3) := by decide +kernel
theorem dX9_guest_111 : decode cX9_guest 111 = .ok (.getfield 155, 3) := by decide +kernel
theorem dX9_guest_114 : decode cX9_guest 114 = .ok (.iload_n 1, 1) := by decide +kernel
theorem dX9_guest_115 : decode cX9_guest 115 = .ok (.invokestatic 158, 3) := by decide +kernel
theorem dX9_guest_118 : decode cX9_guest 118 = .ok (.ifCond .eq 7, 3) := by decide +kernel
theorem dX9_guest_121 : decode cX9_guest 121 = .ok (.iconst 1, 1) := by decide +kernel
theorem dX9_guest_122 : decode cX9_guest 122 = .ok (.goto 4, 3) := by decide +kernel
theorem dX9_guest_125 : decode cX9_guest 125 = .ok (.iconst 0, 1) := by decide +kernel
theorem dX9_guest_126 : decode cX9_guest 126 = .ok (.ireturn, 1) := by decide +kernel
theorem dX9_guest_127 : decode cX9_guest 127 = .ok (.aload_n 0, 1) := by decide +kernel
theorem dX9_guest_128 : decode cX9_guest 128 = .ok (.getfield 42, 3) := by decide +kernel
theorem dX9_guest_131 : decode cX9_guest 131 = .ok (.getfield 139, 3) := by decide +kernel
theorem dX9_guest_134 : decode cX9_guest 134 = .ok (.getfield 162, 3) := by decide +kernel
theorem dX9_guest_137 : decode cX9_guest 137 = .ok (.iload_n 1, 1) := by decide +kernel
theorem dX9_guest_138 : decode cX9_guest 138 = .ok (.invokestatic 158, 3) := by decide +kernel
theorem dX9_guest_141 : decode cX9_guest 141 = .ok (.ifCond .eq 7, 3) := by decide +kernel
theorem dX9_guest_144 : decode cX9_guest 144 = .ok (.iconst 1, 1) := by decide +kernel
theorem dX9_guest_145 : decode cX9_guest 145 = .ok (.goto 4, 3) := by decide +kernel
theorem dX9_guest_148 : decode cX9_guest 148 = .ok (.iconst 0, 1) := by decide +kernel
theorem dX9_guest_149 : decode cX9_guest 149 = .ok (.ireturn, 1) := by decide +kernel
theorem dX9_guest_150 : decode cX9_guest 150 = .ok (.aload_n 0, 1) := by decide +kernel
theorem dX9_guest_151 : decode cX9_guest 151 = .ok (.getfield 42, 3) := by decide +kernel
theorem dX9_guest_154 : decode cX9_guest 154 = .ok (.getfield 139, 3) := by decide +kernel
theorem dX9_guest_157 : decode cX9_guest 157 = .ok (.iload_n 1, 1) := by decide +kernel
theorem dX9_guest_158 : decode cX9_guest 158 = .ok (.invokevirtual 165, 3) := by decide +kernel
theorem dX9_guest_161 : decode cX9_guest 161 = .ok (.ireturn, 1) := by decide +kernel
theorem dX9_guest_162 : decode cX9_guest 162 = .ok (.aload_n 0, 1) := by decide +kernel
theorem dX9_guest_163 : decode cX9_guest 163 = .ok (.getfield 42, 3) := by decide +kernel
theorem dX9_guest_166 : decode cX9_guest 166 = .ok (.iload_n 1, 1) := by decide +kernel
theorem dX9_guest_167 : decode cX9_guest 167 = .ok (.invokevirtual 168, 3) := by decide +kernel
theorem dX9_guest_170 : decode cX9_guest 170 = .ok (.ireturn, 1) := by decide +kernel
theorem dX9_guest_171 : decode cX9_guest 171 = .ok (.aload_n 0, 1) := by decide +kernel
theorem dX9_guest_172 : decode cX9_guest 172 = .ok (.getfield 42, 3) := by decide +kernel
theorem dX9_guest_175 : decode cX9_guest 175 = .ok (.iload_n 1, 1) := by decide +kernel
theorem dX9_guest_176 : decode cX9_guest 176 = .ok (.invokevirtual 171, 3) := by decide +kernel
theorem dX9_guest_179 : decode cX9_guest 179 = .ok (.ireturn, 1) := by decide +kernel
theorem dX9_guest_180 : decode cX9_guest 180 = .ok (.aload_n 0, 1) := by decide +kernel
theorem dX9_guest_181 : decode cX9_guest 181 = .ok (.iload_n 1, 1) := by decide +kernel
theorem dX9_guest_182 : decode cX9_guest 182 = .ok (.invokevirtual 174, 3) := by decide +kernel
theorem dX9_guest_185 : decode cX9_guest 185 = .ok (.ireturn, 1) := by decide +kernel
theorem dX9_guest_186 : decode cX9_guest 186 = .ok (.new 177, 3) := by decide +kernel
theorem dX9_guest_189 : decode cX9_guest 189 = .ok (.dup, 1) := by decide +kernel
theorem dX9_guest_190 : decode cX9_guest 190 = .ok (.ldc 179, 2) := by decide +kernel
theorem dX9_guest_192 : decode cX9_guest 192 = .ok (.invokespecial 181, 3) := by decide +kernel
theorem dX9_guest_195 : decode cX9_guest 195 = .ok (.athrow, 1) := by decide +kernel
def f_X9_guest (μ : Mem) (a1 : Int32) (a2 : Int32) : Option (Nat × Int32 × Mem) := (f_X9_isGuest μ a1).bind fun (q1 : Int32) => if q1 = 0 then (some (3, 0, μ)) else (if a2 = 0 then ((f_X1_roomOf 0 μ a1).bind fun (q2 : Int32) => some (0, q2, μ)) else (if a2 = 1 then ((f_X1_wishOf 0 μ a1).bind fun (q3 : Int32) => some (0, q3, μ)) else (if a2 = 2 then ((f_X1_doubtOf 0 μ a1).bind fun (q4 : Int32) => some (0, q4, μ)) else (if a2 = 3 then ((f_X9_holds (μ 1 1 4) a1).bind fun (q5 : Int32) => if q5 = 0 then (some (0, 0, μ)) else (some (0, 1, μ))) else (if a2 = 4 then ((f_X9_holds (μ 1 1 5) a1).bind fun (q6 : Int32) => if q6 = 0 then (some (0, 0, μ)) else (some (0, 1, μ))) else (if a2 = 5 then ((f_X1_risk 0 μ a1).bind fun (q7 : Int32) => some (0, q7, μ)) else (if a2 = 6 then ((f_X2_turns 0 μ a1).bind fun (q8 : Int32 × Mem) => some (0, q8.1, q8.2)) else (if a2 = 7 then ((f_X2_spies 0 μ a1).bind fun (q9 : Int32) => some (0, q9, μ)) else (if a2 = 8 then ((f_X9_shareOf μ a1).bind fun (q10 : Int32) => some (0, q10, μ)) else (some (4, 0, μ)))))))))))
set_option maxHeartbeats 4000000 in
set_option maxRecDepth 100000 in
theorem c_X9_guest (G : GG) (l : Launch) (hl0 : l.stackTraces = false) (μ : Mem) (a1 : Int32) (a2 : Int32) : CXT G l yX9_guest (.code yX9_guest cX9_guest 3 (some .int)) 5 [.ref (gad G 0 0), .int a1, .int a2] μ (f_X9_guest μ a1 a2) := by
  refine CXT.of (own := "SaturdayKeep") (L0 := [some (.ref (gad G 0 0)), some (.int a1), some (.int a2)]) hl0 rfl rfl rfl (Nat.le_of_ble_eq_true rfl) (fun C hl1 hl hout hcs hC => ?_)
  subst hl1
  delta f_X9_guest
  refine aw_aload_n (pc := 0) (i := 0) hC dX9_guest_0 rfl rfl ?_
  refine aw_iload_n (pc := 1) (i := 1) hC dX9_guest_1 rfl rfl ?_
  refine aw_callVR (pc := 2) (As := [.int a1]) hC mb_X9_isGuest kw879 (by decide) (c_X9_isGuest G C.2.1   μ a1) (v0 (j := 0) (by decide)) rfl rfl rfl (Nat.le_of_ble_eq_true rfl) dX9_guest_2 (fun q1 => ?_)
  refine aw_if_ne (pc := 5) (tgt := 18) hC dX9_guest_5 (by decide) (fun _ => ?_) (fun _ => ?_)
  · skip
    exact aw_throw (k := 3) (i := 27) hC hl hout hcs rfl rfl kw883 kw23 thr3_138 (by decide) (by decide) (Nat.le_of_ble_eq_true rfl) dX9_guest_8 dX9_guest_11 dX9_guest_12 dX9_guest_14 dX9_guest_17
  · skip
    refine aw_iload_n (pc := 18) (i := 2) hC dX9_guest_18 rfl rfl ?_
    refine aw_case (k := 0) (fun hc19 => ?_) (fun hn19_0 => ?_)
    · skip
      refine aw_tswIn (pc := 19) (kI := 0) (tgt := 68) hC dX9_guest_19 hc19 (by decide) (by decide) (by decide) rfl (by decide) ?_
      refine aw_aload_n (pc := 68) (i := 0) hC dX9_guest_68 rfl rfl ?_
      refine aw_get (pc := 69) hC inX9 (v0 (j := 0) (by decide)) rfl rfl 4 (by decide) kw280 rfl rfl dX9_guest_69 ?_
      refine aw_get (pc := 72) hC inX2 (vH (h := 0) (j := 0) (by decide) (by decide)) rfl rfl 0 (by decide) kw186 rfl rfl dX9_guest_72 ?_
      refine aw_iload_n (pc := 75) (i := 1) hC dX9_guest_75 rfl rfl ?_
      refine aw_callVR (pc := 76) (As := [.int a1]) hC mb_X1_roomOf kw493 (by decide) (c_X1_roomOf G C.2.1 0 (by decide) μ a1) (vH (h := 0) (j := 1) (by decide) (by decide)) rfl rfl rfl (Nat.le_of_ble_eq_true rfl) dX9_guest_76 (fun q2 => ?_)
      exact aw_iretX hC dX9_guest_79
    refine aw_case (k := 1) (fun hc19 => ?_) (fun hn19_1 => ?_)
    · skip
      refine aw_tswIn (pc := 19) (kI := 1) (tgt := 80) hC dX9_guest_19 hc19 (by decide) (by decide) (by decide) rfl (by decide) ?_
      refine aw_aload_n (pc := 80) (i := 0) hC dX9_guest_80 rfl rfl ?_
      refine aw_get (pc := 81) hC inX9 (v0 (j := 0) (by decide)) rfl rfl 4 (by decide) kw280 rfl rfl dX9_guest_81 ?_
      refine aw_get (pc := 84) hC inX2 (vH (h := 0) (j := 0) (by decide) (by decide)) rfl rfl 0 (by decide) kw186 rfl rfl dX9_guest_84 ?_
      refine aw_iload_n (pc := 87) (i := 1) hC dX9_guest_87 rfl rfl ?_
      refine aw_callVR (pc := 88) (As := [.int a1]) hC mb_X1_wishOf kw529 (by decide) (c_X1_wishOf G C.2.1 0 (by decide) μ a1) (vH (h := 0) (j := 1) (by decide) (by decide)) rfl rfl rfl (Nat.le_of_ble_eq_true rfl) dX9_guest_88 (fun q3 => ?_)
      exact aw_iretX hC dX9_guest_91
    refine aw_case (k := 2) (fun hc19 => ?_) (fun hn19_2 => ?_)
    · skip
      refine aw_tswIn (pc := 19) (kI := 2) (tgt := 92) hC dX9_guest_19 hc19 (by decide) (by decide) (by decide) rfl (by decide) ?_
      refine aw_aload_n (pc := 92) (i := 0) hC dX9_guest_92 rfl rfl ?_
      refine aw_get (pc := 93) hC inX9 (v0 (j := 0) (by decide)) rfl rfl 4 (by decide) kw280 rfl rfl dX9_guest_93 ?_
      refine aw_get (pc := 96) hC inX2 (vH (h := 0) (j := 0) (by decide) (by decide)) rfl rfl 0 (by decide) kw186 rfl rfl dX9_guest_96 ?_
      refine aw_iload_n (pc := 99) (i := 1) hC dX9_guest_99 rfl rfl ?_
      refine aw_callVR (pc := 100) (As := [.int a1]) hC mb_X1_doubtOf kw899 (by decide) (c_X1_doubtOf G C.2.1 0 (by decide) μ a1) (vH (h := 0) (j := 1) (by decide) (by decide)) rfl rfl rfl (Nat.le_of_ble_eq_true rfl) dX9_guest_100 (fun q4 => ?_)
      exact aw_iretX hC dX9_guest_103
    refine aw_case (k := 3) (fun hc19 => ?_) (fun hn19_3 => ?_)
    · skip
      refine aw_tswIn (pc := 19) (kI := 3) (tgt := 104) hC dX9_guest_19 hc19 (by decide) (by decide) (by decide) rfl (by decide) ?_
      refine aw_aload_n (pc := 104) (i := 0) hC dX9_guest_104 rfl rfl ?_
      refine aw_get (pc := 105) hC inX9 (v0 (j := 0) (by decide)) rfl rfl 4 (by decide) kw280 rfl rfl dX9_guest_105 ?_
      refine aw_get (pc := 108) hC inX2 (vH (h := 0) (j := 0) (by decide) (by decide)) rfl rfl 0 (by decide) kw186 rfl rfl dX9_guest_108 ?_
      refine aw_get (pc := 111) hC inX1 (vH (h := 0) (j := 1) (by decide) (by decide)) rfl rfl 4 (by decide) kw147 rfl rfl dX9_guest_111 ?_
      refine aw_iload_n (pc := 114) (i := 1) hC dX9_guest_114 rfl rfl ?_
      refine aw_callSR (pc := 115) (As := [.int (μ 1 1 4), .int a1]) hC ms_X9_holds kw415 (by decide) (c_X9_holds G C.2.1   μ (μ 1 1 4) a1) rfl (Nat.le_of_ble_eq_true rfl) dX9_guest_115 (fun q5 => ?_)
      refine aw_if_eq (pc := 118) (tgt := 125) hC dX9_guest_118 (by decide) (fun _ => ?_) (fun _ => ?_)
      · skip
        refine aw_iconst (pc := 125) (v := 0) hC dX9_guest_125 ic0 ?_
        exact aw_iretX hC dX9_guest_126
      · skip
        refine aw_iconst (pc := 121) (v := 1) hC dX9_guest_121 ic1 ?_
        refine aw_goto (pc := 122) (tgt := 126) hC dX9_guest_122 (by decide) ?_
        exact aw_iretX hC dX9_guest_126
    refine aw_case (k := 4) (fun hc19 => ?_) (fun hn19_4 => ?_)
    · skip
      refine aw_tswIn (pc := 19) (kI := 4) (tgt := 127) hC dX9_guest_19 hc19 (by decide) (by decide) (by decide) rfl (by decide) ?_
      refine aw_aload_n (pc := 127) (i := 0) hC dX9_guest_127 rfl rfl ?_
      refine aw_get (pc := 128) hC inX9 (v0 (j := 0) (by decide)) rfl rfl 4 (by decide) kw280 rfl rfl dX9_guest_128 ?_
      refine aw_get (pc := 131) hC inX2 (vH (h := 0) (j := 0) (by decide) (by decide)) rfl rfl 0 (by decide) kw186 rfl rfl dX9_guest_131 ?_
      refine aw_get (pc := 134) hC inX1 (vH (h := 0) (j := 1) (by decide) (by decide)) rfl rfl 5 (by decide) kw150 rfl rfl dX9_guest_134 ?_
      refine aw_iload_n (pc := 137) (i := 1) hC dX9_guest_137 rfl rfl ?_
      refine aw_callSR (pc := 138) (As := [.int (μ 1 1 5), .int a1]) hC ms_X9_holds kw415 (by decide) (c_X9_holds G C.2.1   μ (μ 1 1 5) a1) rfl (Nat.le_of_ble_eq_true rfl) dX9_guest_138 (fun q6 => ?_)
      refine aw_if_eq (pc := 141) (tgt := 148) hC dX9_guest_141 (by decide) (fun _ => ?_) (fun _ => ?_)
      · skip
        refine aw_iconst (pc := 148) (v := 0) hC dX9_guest_148 ic0 ?_
        exact aw_iretX hC dX9_guest_149
      · skip
        refine aw_iconst (pc := 144) (v := 1) hC dX9_guest_144 ic1 ?_
        refine aw_goto (pc := 145) (tgt := 149) hC dX9_guest_145 (by decide) ?_
        exact aw_iretX hC dX9_guest_149
    refine aw_case (k := 5) (fun hc19 => ?_) (fun hn19_5 => ?_)
    · skip
      refine aw_tswIn (pc := 19) (kI := 5) (tgt := 150) hC dX9_guest_19 hc19 (by decide) (by decide) (by decide) rfl (by decide) ?_
      refine aw_aload_n (pc := 150) (i := 0) hC dX9_guest_150 rfl rfl ?_
      refine aw_get (pc := 151) hC inX9 (v0 (j := 0) (by decide)) rfl rfl 4 (by decide) kw280 rfl rfl dX9_guest_151 ?_
      refine aw_get (pc := 154) hC inX2 (vH (h := 0) (j := 0) (by decide) (by decide)) rfl rfl 0 (by decide) kw186 rfl rfl dX9_guest_154 ?_
      refine aw_iload_n (pc := 157) (i := 1) hC dX9_guest_157 rfl rfl ?_
      refine aw_callVR (pc := 158) (As := [.int a1]) hC mb_X1_risk kw416 (by decide) (c_X1_risk G C.2.1 0 (by decide) μ a1) (vH (h := 0) (j := 1) (by decide) (by decide)) rfl rfl rfl (Nat.le_of_ble_eq_true rfl) dX9_guest_158 (fun q7 => ?_)
      exact aw_iretX hC dX9_guest_161
    refine aw_case (k := 6) (fun hc19 => ?_) (fun hn19_6 => ?_)
    · skip
      refine aw_tswIn (pc := 19) (kI := 6) (tgt := 162) hC dX9_guest_19 hc19 (by decide) (by decide) (by decide) rfl (by decide) ?_
      refine aw_aload_n (pc := 162) (i := 0) hC dX9_guest_162 rfl rfl ?_
      refine aw_get (pc := 163) hC inX9 (v0 (j := 0) (by decide)) rfl rfl 4 (by decide) kw280 rfl rfl dX9_guest_163 ?_
      refine aw_iload_n (pc := 166) (i := 1) hC dX9_guest_166 rfl rfl ?_
      refine aw_callVI (pc := 167) (As := [.int a1]) hC mb_X2_turns kw900 (by decide) (c_X2_turns G C.2.1 0 (by decide) μ a1) (vH (h := 0) (j := 0) (by decide) (by decide)) rfl rfl rfl (Nat.le_of_ble_eq_true rfl) dX9_guest_167 (fun q8 => ?_)
      exact aw_iretX hC dX9_guest_170
    refine aw_case (k := 7) (fun hc19 => ?_) (fun hn19_7 => ?_)
    · skip
      refine aw_tswIn (pc := 19) (kI := 7) (tgt := 171) hC dX9_guest_19 hc19 (by decide) (by decide) (by decide) rfl (by decide) ?_
      refine aw_aload_n (pc := 171) (i := 0) hC dX9_guest_171 rfl rfl ?_
      refine aw_get (pc := 172) hC inX9 (v0 (j := 0) (by decide)) rfl rfl 4 (by decide) kw280 rfl rfl dX9_guest_172 ?_
      refine aw_iload_n (pc := 175) (i := 1) hC dX9_guest_175 rfl rfl ?_
      refine aw_callVR (pc := 176) (As := [.int a1]) hC mb_X2_spies kw475 (by decide) (c_X2_spies G C.2.1 0 (by decide) μ a1) (vH (h := 0) (j := 0) (by decide) (by decide)) rfl rfl rfl (Nat.le_of_ble_eq_true rfl) dX9_guest_176 (fun q9 => ?_)
      exact aw_iretX hC dX9_guest_179
    refine aw_case (k := 8) (fun hc19 => ?_) (fun hn19_8 => ?_)
    · skip
      refine aw_tswIn (pc := 19) (kI := 8) (tgt := 180) hC dX9_guest_19 hc19 (by decide) (by decide) (by decide) rfl (by decide) ?_
      refine aw_aload_n (pc := 180) (i := 0) hC dX9_guest_180 rfl rfl ?_
      refine aw_iload_n (pc := 181) (i := 1) hC dX9_guest_181 rfl rfl ?_
      refine aw_callVR (pc := 182) (As := [.int a1]) hC mb_X9_shareOf kw922 (by decide) (c_X9_shareOf G C.2.1   μ a1) (v0 (j := 0) (by decide)) rfl rfl rfl (Nat.le_of_ble_eq_true rfl) dX9_guest_182 (fun q10 => ?_)
      exact aw_iretX hC dX9_guest_185
    refine aw_tswOut (pc := 19) (tgt := 186) hC dX9_guest_19 (by have e0 := lv_neT (a := 0) hn19_0 (by decide); have e1 := lv_neT (a := 1) hn19_1 (by decide); have e2 := lv_neT (a := 2) hn19_2 (by decide); have e3 := lv_neT (a := 3) hn19_3 (by decide); have e4 := lv_neT (a := 4) hn19_4 (by decide); have e5 := lv_neT (a := 5) hn19_5 (by decide); have e6 := lv_neT (a := 6) hn19_6 (by decide); have e7 := lv_neT (a := 7) hn19_7 (by decide); have e8 := lv_neT (a := 8) hn19_8 (by decide); omega) (by decide) ?_
    exact aw_throwN (k := 4) (i := 28) hC hl hout hcs rfl rfl kw926 kw25 thr4_181 (by decide) (by decide) (Nat.le_of_ble_eq_true rfl) dX9_guest_186 dX9_guest_189 dX9_guest_190 dX9_guest_192 dX9_guest_195
theorem dX9_room_0 : decode cX9_room 0 = .ok (.iload_n 1, 1) := by decide +kernel
theorem dX9_room_1 : decode cX9_room 1 = .ok (.invokestatic 185, 3) := by decide +kernel
theorem dX9_room_4 : decode cX9_room 4 = .ok (.ifCond .ne 13, 3) := by decide +kernel
theorem dX9_room_7 : decode cX9_room 7 = .ok (.new 134, 3) := by decide +kernel
theorem dX9_room_10 : decode cX9_room 10 = .ok (.dup, 1) := by decide +kernel
theorem dX9_room_11 : decode cX9_room 11 = .ok (.ldc 188, 2) := by decide +kernel
theorem dX9_room_13 : decode cX9_room 13 = .ok (.invokespecial 138, 3) := by decide +kernel
theorem dX9_room_16 : decode cX9_room 16 = .ok (.athrow, 1) := by decide +kernel
theorem dX9_room_17 : decode cX9_room 17 = .ok (.iload_n 2, 1) := by decide +kernel
theorem dX9_room_18 : decode cX9_room 18 = .ok (.tableswitch 69 0 3 #[30, 39, 48, 60], 30) := by decide +kernel
theorem dX9_room_48 : decode cX9_room 48 = .ok (.aload_n 0, 1) := by decide +kernel
theorem dX9_room_49 : decode cX9_room 49 = .ok (.getfield 42, 3) := by decide +kernel
theorem dX9_room_52 : decode cX9_room 52 = .ok (.iload_n 1, 1) := by decide +kernel
theorem dX9_room_53 : decode cX9_room 53 = .ok (.invokevirtual 190, 3) := by decide +kernel
theorem dX9_room_56 : decode cX9_room 56 = .ok (.ireturn, 1) := by decide +kernel
theorem dX9_room_57 : decode cX9_room 57 = .ok (.aload_n 0, 1) := by decide +kernel
theorem dX9_room_58 : decode cX9_room 58 = .ok (.getfield 42, 3) := by decide +kernel
theorem dX9_room_61 : decode cX9_room 61 = .ok (.iload_n 1, 1) := by decide +kernel
theorem dX9_room_62 : decode cX9_room 62 = .ok (.invokevirtual 193, 3) := by decide +kernel
theorem dX9_room_65 : decode cX9_room 65 = .ok (.ireturn, 1) := by decide +kernel
theorem dX9_room_66 : decode cX9_room 66 = .ok (.aload_n 0, 1) := by decide +kernel
theorem dX9_room_67 : decode cX9_room 67 = .ok (.getfield 42, 3) := by decide +kernel
theorem dX9_room_70 : decode cX9_room 70 = .ok (.getfield 139, 3) := by decide +kernel
theorem dX9_room_73 : decode cX9_room 73 = .ok (.iload_n 1, 1) := by decide +kernel
theorem dX9_room_74 : decode cX9_room 74 = .ok (.invokevirtual 196, 3) := by decide +kernel
theorem dX9_room_77 : decode cX9_room 77 = .ok (.ireturn, 1) := by decide +kernel
theorem dX9_room_78 : decode cX9_room 78 = .ok (.aload_n 0, 1) := by decide +kernel
theorem dX9_room_79 : decode cX9_room 79 = .ok (.getfield 42, 3) := by decide +kernel
theorem dX9_room_82 : decode cX9_room 82 = .ok (.iload_n 1, 1) := by decide +kernel
theorem dX9_room_83 : decode cX9_room 83 = .ok (.invokevirtual 199, 3) := by decide +kernel
theorem dX9_room_86 : decode cX9_room 86 = .ok (.ireturn, 1) := by decide +kernel
theorem dX9_room_87 : decode cX9_room 87 = .ok (.new 177, 3) := by decide +kernel
theorem dX9_room_90 : decode cX9_room 90 = .ok (.dup, 1) := by decide +kernel
theorem dX9_room_91 : decode cX9_room 91 = .ok (.ldc 202, 2) := by decide +kernel
theorem dX9_room_93 : decode cX9_room 93 = .ok (.invokespecial 181, 3) := by decide +kernel
theorem dX9_room_96 : decode cX9_room 96 = .ok (.athrow, 1) := by decide +kernel
def f_X9_room (μ : Mem) (a1 : Int32) (a2 : Int32) : Option (Nat × Int32 × Mem) := (f_X9_isRoom a1).bind fun (q1 : Int32) => if q1 = 0 then (some (3, 0, μ)) else (if a2 = 0 then ((f_X2_holesFrom 0 μ a1).bind fun (q2 : Int32) => some (0, q2, μ)) else (if a2 = 1 then ((f_X2_holesInto 0 μ a1).bind fun (q3 : Int32) => some (0, q3, μ)) else (if a2 = 2 then ((f_X1_hereIn 0 μ a1).bind fun (q4 : Int32) => some (0, q4, μ)) else (if a2 = 3 then ((f_X2_watchers 0 μ a1).bind fun (q5 : Int32) => some (0, q5, μ)) else (some (4, 0, μ))))))
set_option maxHeartbeats 4000000 in
set_option maxRecDepth 100000 in
theorem c_X9_room (G : GG) (l : Launch) (hl0 : l.stackTraces = false) (μ : Mem) (a1 : Int32) (a2 : Int32) : CXT G l yX9_room (.code yX9_room cX9_room 3 (some .int)) 5 [.ref (gad G 0 0), .int a1, .int a2] μ (f_X9_room μ a1 a2) := by
  refine CXT.of (own := "SaturdayKeep") (L0 := [some (.ref (gad G 0 0)), some (.int a1), some (.int a2)]) hl0 rfl rfl rfl (Nat.le_of_ble_eq_true rfl) (fun C hl1 hl hout hcs hC => ?_)
  subst hl1
  delta f_X9_room
  refine aw_iload_n (pc := 0) (i := 1) hC dX9_room_0 rfl rfl ?_
  refine aw_callSR (pc := 1) (As := [.int a1]) hC ms_X9_isRoom kw949 (by decide) (c_X9_isRoom G C.2.1   μ a1) rfl (Nat.le_of_ble_eq_true rfl) dX9_room_1 (fun q1 => ?_)
  refine aw_if_ne (pc := 4) (tgt := 17) hC dX9_room_4 (by decide) (fun _ => ?_) (fun _ => ?_)
  · skip
    exact aw_throw (k := 3) (i := 29) hC hl hout hcs rfl rfl kw883 kw23 thr3_138 (by decide) (by decide) (Nat.le_of_ble_eq_true rfl) dX9_room_7 dX9_room_10 dX9_room_11 dX9_room_13 dX9_room_16
  · skip
    refine aw_iload_n (pc := 17) (i := 2) hC dX9_room_17 rfl rfl ?_
    refine aw_case (k := 0) (fun hc18 => ?_) (fun hn18_0 => ?_)
    · skip
      refine aw_tswIn (pc := 18) (kI := 0) (tgt := 48) hC dX9_room_18 hc18 (by decide) (by decide) (by decide) rfl (by decide) ?_
      refine aw_aload_n (pc := 48) (i := 0) hC dX9_room_48 rfl rfl ?_
      refine aw_get (pc := 49) hC inX9 (v0 (j := 0) (by decide)) rfl rfl 4 (by decide) kw280 rfl rfl dX9_room_49 ?_
      refine aw_iload_n (pc := 52) (i := 1) hC dX9_room_52 rfl rfl ?_
      refine aw_callVR (pc := 53) (As := [.int a1]) hC mb_X2_holesFrom kw467 (by decide) (c_X2_holesFrom G C.2.1 0 (by decide) μ a1) (vH (h := 0) (j := 0) (by decide) (by decide)) rfl rfl rfl (Nat.le_of_ble_eq_true rfl) dX9_room_53 (fun q2 => ?_)
      exact aw_iretX hC dX9_room_56
    refine aw_case (k := 1) (fun hc18 => ?_) (fun hn18_1 => ?_)
    · skip
      refine aw_tswIn (pc := 18) (kI := 1) (tgt := 57) hC dX9_room_18 hc18 (by decide) (by decide) (by decide) rfl (by decide) ?_
      refine aw_aload_n (pc := 57) (i := 0) hC dX9_room_57 rfl rfl ?_
      refine aw_get (pc := 58) hC inX9 (v0 (j := 0) (by decide)) rfl rfl 4 (by decide) kw280 rfl rfl dX9_room_58 ?_
      refine aw_iload_n (pc := 61) (i := 1) hC dX9_room_61 rfl rfl ?_
      refine aw_callVR (pc := 62) (As := [.int a1]) hC mb_X2_holesInto kw439 (by decide) (c_X2_holesInto G C.2.1 0 (by decide) μ a1) (vH (h := 0) (j := 0) (by decide) (by decide)) rfl rfl rfl (Nat.le_of_ble_eq_true rfl) dX9_room_62 (fun q3 => ?_)
      exact aw_iretX hC dX9_room_65
    refine aw_case (k := 2) (fun hc18 => ?_) (fun hn18_2 => ?_)
    · skip
      refine aw_tswIn (pc := 18) (kI := 2) (tgt := 66) hC dX9_room_18 hc18 (by decide) (by decide) (by decide) rfl (by decide) ?_
      refine aw_aload_n (pc := 66) (i := 0) hC dX9_room_66 rfl rfl ?_
      refine aw_get (pc := 67) hC inX9 (v0 (j := 0) (by decide)) rfl rfl 4 (by decide) kw280 rfl rfl dX9_room_67 ?_
      refine aw_get (pc := 70) hC inX2 (vH (h := 0) (j := 0) (by decide) (by decide)) rfl rfl 0 (by decide) kw186 rfl rfl dX9_room_70 ?_
      refine aw_iload_n (pc := 73) (i := 1) hC dX9_room_73 rfl rfl ?_
      refine aw_callVR (pc := 74) (As := [.int a1]) hC mb_X1_hereIn kw538 (by decide) (c_X1_hereIn G C.2.1 0 (by decide) μ a1) (vH (h := 0) (j := 1) (by decide) (by decide)) rfl rfl rfl (Nat.le_of_ble_eq_true rfl) dX9_room_74 (fun q4 => ?_)
      exact aw_iretX hC dX9_room_77
    refine aw_case (k := 3) (fun hc18 => ?_) (fun hn18_3 => ?_)
    · skip
      refine aw_tswIn (pc := 18) (kI := 3) (tgt := 78) hC dX9_room_18 hc18 (by decide) (by decide) (by decide) rfl (by decide) ?_
      refine aw_aload_n (pc := 78) (i := 0) hC dX9_room_78 rfl rfl ?_
      refine aw_get (pc := 79) hC inX9 (v0 (j := 0) (by decide)) rfl rfl 4 (by decide) kw280 rfl rfl dX9_room_79 ?_
      refine aw_iload_n (pc := 82) (i := 1) hC dX9_room_82 rfl rfl ?_
      refine aw_callVR (pc := 83) (As := [.int a1]) hC mb_X2_watchers kw383 (by decide) (c_X2_watchers G C.2.1 0 (by decide) μ a1) (vH (h := 0) (j := 0) (by decide) (by decide)) rfl rfl rfl (Nat.le_of_ble_eq_true rfl) dX9_room_83 (fun q5 => ?_)
      exact aw_iretX hC dX9_room_86
    refine aw_tswOut (pc := 18) (tgt := 87) hC dX9_room_18 (by have e0 := lv_neT (a := 0) hn18_0 (by decide); have e1 := lv_neT (a := 1) hn18_1 (by decide); have e2 := lv_neT (a := 2) hn18_2 (by decide); have e3 := lv_neT (a := 3) hn18_3 (by decide); omega) (by decide) ?_
    exact aw_throwN (k := 4) (i := 30) hC hl hout hcs rfl rfl kw926 kw25 thr4_181 (by decide) (by decide) (Nat.le_of_ble_eq_true rfl) dX9_room_87 dX9_room_90 dX9_room_91 dX9_room_93 dX9_room_96
theorem dX9_calendar_0 : decode cX9_calendar 0 = .ok (.iload_n 1, 1) := by decide +kernel
theorem dX9_calendar_1 : decode cX9_calendar 1 = .ok (.invokestatic 204, 3) := by decide +kernel
theorem dX9_calendar_4 : decode cX9_calendar 4 = .ok (.ifCond .ne 13, 3) := by decide +kernel
theorem dX9_calendar_7 : decode cX9_calendar 7 = .ok (.new 134, 3) := by decide +kernel
theorem dX9_calendar_10 : decode cX9_calendar 10 = .ok (.dup, 1) := by decide +kernel
theorem dX9_calendar_11 : decode cX9_calendar 11 = .ok (.ldc 207, 2) := by decide +kernel
theorem dX9_calendar_13 : decode cX9_calendar 13 = .ok (.invokespecial 138, 3) := by decide +kernel
theorem dX9_calendar_16 : decode cX9_calendar 16 = .ok (.athrow, 1) := by decide +kernel
theorem dX9_calendar_17 : decode cX9_calendar 17 = .ok (.iload_n 2, 1) := by decide +kernel
theorem dX9_calendar_18 : decode cX9_calendar 18 = .ok (.ifCond .eq 14, 3) := by decide +kernel
theorem dX9_calendar_21 : decode cX9_calendar 21 = .ok (.aload_n 0, 1) := by decide +kernel
theorem dX9_calendar_22 : decode cX9_calendar 22 = .ok (.getfield 42, 3) := by decide +kernel
theorem dX9_calendar_25 : decode cX9_calendar 25 = .ok (.iload_n 1, 1) := by decide +kernel
theorem dX9_calendar_26 : decode cX9_calendar 26 = .ok (.invokevirtual 209, 3) := by decide +kernel
theorem dX9_calendar_29 : decode cX9_calendar 29 = .ok (.goto 11, 3) := by decide +kernel
theorem dX9_calendar_32 : decode cX9_calendar 32 = .ok (.aload_n 0, 1) := by decide +kernel
theorem dX9_calendar_33 : decode cX9_calendar 33 = .ok (.getfield 42, 3) := by decide +kernel
theorem dX9_calendar_36 : decode cX9_calendar 36 = .ok (.iload_n 1, 1) := by decide +kernel
theorem dX9_calendar_37 : decode cX9_calendar 37 = .ok (.invokevirtual 212, 3) := by decide +kernel
theorem dX9_calendar_40 : decode cX9_calendar 40 = .ok (.ireturn, 1) := by decide +kernel
def f_X9_calendar (μ : Mem) (a1 : Int32) (a2 : Int32) : Option (Nat × Int32 × Mem) := (f_X9_isCalendar a1).bind fun (q1 : Int32) => if q1 = 0 then (some (3, 0, μ)) else (if a2 = 0 then ((f_X2_shiftOf 0 μ a1).bind fun (q2 : Int32) => some (0, q2, μ)) else ((f_X2_untilSaturday 0 μ a1).bind fun (q3 : Int32) => some (0, q3, μ)))
set_option maxHeartbeats 4000000 in
set_option maxRecDepth 100000 in
theorem c_X9_calendar (G : GG) (l : Launch) (hl0 : l.stackTraces = false) (μ : Mem) (a1 : Int32) (a2 : Int32) : CXT G l yX9_calendar (.code yX9_calendar cX9_calendar 3 (some .int)) 5 [.ref (gad G 0 0), .int a1, .int a2] μ (f_X9_calendar μ a1 a2) := by
  refine CXT.of (own := "SaturdayKeep") (L0 := [some (.ref (gad G 0 0)), some (.int a1), some (.int a2)]) hl0 rfl rfl rfl (Nat.le_of_ble_eq_true rfl) (fun C hl1 hl hout hcs hC => ?_)
  subst hl1
  delta f_X9_calendar
  refine aw_iload_n (pc := 0) (i := 1) hC dX9_calendar_0 rfl rfl ?_
  refine aw_callSR (pc := 1) (As := [.int a1]) hC ms_X9_isCalendar kw959 (by decide) (c_X9_isCalendar G C.2.1   μ a1) rfl (Nat.le_of_ble_eq_true rfl) dX9_calendar_1 (fun q1 => ?_)
  refine aw_if_ne (pc := 4) (tgt := 17) hC dX9_calendar_4 (by decide) (fun _ => ?_) (fun _ => ?_)
  · skip
    exact aw_throw (k := 3) (i := 31) hC hl hout hcs rfl rfl kw883 kw23 thr3_138 (by decide) (by decide) (Nat.le_of_ble_eq_true rfl) dX9_calendar_7 dX9_calendar_10 dX9_calendar_11 dX9_calendar_13 dX9_calendar_16
  · skip
    refine aw_iload_n (pc := 17) (i := 2) hC dX9_calendar_17 rfl rfl ?_
    refine aw_if_eq (pc := 18) (tgt := 32) hC dX9_calendar_18 (by decide) (fun _ => ?_) (fun _ => ?_)
    · skip
      refine aw_aload_n (pc := 32) (i := 0) hC dX9_calendar_32 rfl rfl ?_
      refine aw_get (pc := 33) hC inX9 (v0 (j := 0) (by decide)) rfl rfl 4 (by decide) kw280 rfl rfl dX9_calendar_33 ?_
      refine aw_iload_n (pc := 36) (i := 1) hC dX9_calendar_36 rfl rfl ?_
      refine aw_callVR (pc := 37) (As := [.int a1]) hC mb_X2_shiftOf kw967 (by decide) (c_X2_shiftOf G C.2.1 0 (by decide) μ a1) (vH (h := 0) (j := 0) (by decide) (by decide)) rfl rfl rfl (Nat.le_of_ble_eq_true rfl) dX9_calendar_37 (fun q2 => ?_)
      exact aw_iretX hC dX9_calendar_40
    · skip
      refine aw_aload_n (pc := 21) (i := 0) hC dX9_calendar_21 rfl rfl ?_
      refine aw_get (pc := 22) hC inX9 (v0 (j := 0) (by decide)) rfl rfl 4 (by decide) kw280 rfl rfl dX9_calendar_22 ?_
      refine aw_iload_n (pc := 25) (i := 1) hC dX9_calendar_25 rfl rfl ?_
      refine aw_callVR (pc := 26) (As := [.int a1]) hC mb_X2_untilSaturday kw963 (by decide) (c_X2_untilSaturday G C.2.1 0 (by decide) μ a1) (vH (h := 0) (j := 0) (by decide) (by decide)) rfl rfl rfl (Nat.le_of_ble_eq_true rfl) dX9_calendar_26 (fun q3 => ?_)
      refine aw_goto (pc := 29) (tgt := 40) hC dX9_calendar_29 (by decide) ?_
      exact aw_iretX hC dX9_calendar_40
theorem dX9_saturday_0 : decode cX9_saturday 0 = .ok (.iload_n 1, 1) := by decide +kernel
theorem dX9_saturday_1 : decode cX9_saturday 1 = .ok (.invokestatic 204, 3) := by decide +kernel
theorem dX9_saturday_4 : decode cX9_saturday 4 = .ok (.ifCond .ne 13, 3) := by decide +kernel
theorem dX9_saturday_7 : decode cX9_saturday 7 = .ok (.new 134, 3) := by decide +kernel
theorem dX9_saturday_10 : decode cX9_saturday 10 = .ok (.dup, 1) := by decide +kernel
theorem dX9_saturday_11 : decode cX9_saturday 11 = .ok (.ldc 207, 2) := by decide +kernel
theorem dX9_saturday_13 : decode cX9_saturday 13 = .ok (.invokespecial 138, 3) := by decide +kernel
theorem dX9_saturday_16 : decode cX9_saturday 16 = .ok (.athrow, 1) := by decide +kernel
theorem dX9_saturday_17 : decode cX9_saturday 17 = .ok (.iload_n 2, 1) := by decide +kernel
theorem dX9_saturday_18 : decode cX9_saturday 18 = .ok (.ifCond .lt 10, 3) := by decide +kernel
theorem dX9_saturday_21 : decode cX9_saturday 21 = .ok (.iload_n 2, 1) := by decide +kernel
theorem dX9_saturday_22 : decode cX9_saturday 22 = .ok (.sipush 9999, 3) := by decide +kernel
theorem dX9_saturday_25 : decode cX9_saturday 25 = .ok (.if_icmp .le 13, 3) := by decide +kernel
theorem dX9_saturday_28 : decode cX9_saturday 28 = .ok (.new 93, 3) := by decide +kernel
theorem dX9_saturday_31 : decode cX9_saturday 31 = .ok (.dup, 1) := by decide +kernel
theorem dX9_saturday_32 : decode cX9_saturday 32 = .ok (.ldc 215, 2) := by decide +kernel
theorem dX9_saturday_34 : decode cX9_saturday 34 = .ok (.invokespecial 97, 3) := by decide +kernel
theorem dX9_saturday_37 : decode cX9_saturday 37 = .ok (.athrow, 1) := by decide +kernel
theorem dX9_saturday_38 : decode cX9_saturday 38 = .ok (.aload_n 0, 1) := by decide +kernel
theorem dX9_saturday_39 : decode cX9_saturday 39 = .ok (.getfield 42, 3) := by decide +kernel
theorem dX9_saturday_42 : decode cX9_saturday 42 = .ok (.iload_n 1, 1) := by decide +kernel
theorem dX9_saturday_43 : decode cX9_saturday 43 = .ok (.iload_n 2, 1) := by decide +kernel
theorem dX9_saturday_44 : decode cX9_saturday 44 = .ok (.invokevirtual 217, 3) := by decide +kernel
theorem dX9_saturday_47 : decode cX9_saturday 47 = .ok (.ireturn, 1) := by decide +kernel
def f_X9_saturday (μ : Mem) (a1 : Int32) (a2 : Int32) : Option (Nat × Int32 × Mem) := (f_X9_isCalendar a1).bind fun (q1 : Int32) => if q1 = 0 then (some (3, 0, μ)) else (nm (some (1, 0, μ)) fun (J28 : Option (Nat × Int32 × Mem)) => if a2 < 0 then (J28) else (if a2 ≤ 9999 then ((f_X2_isSaturday 0 μ a1 a2).bind fun (q2 : Int32) => bk q2 (some (0, q2, μ))) else (J28)))
set_option maxHeartbeats 4000000 in
set_option maxRecDepth 100000 in
theorem c_X9_saturday (G : GG) (l : Launch) (hl0 : l.stackTraces = false) (μ : Mem) (a1 : Int32) (a2 : Int32) : CXT G l yX9_saturday (.code yX9_saturday cX9_saturday 3 (some .boolean)) 5 [.ref (gad G 0 0), .int a1, .int a2] μ (f_X9_saturday μ a1 a2) := by
  refine CXT.of (own := "SaturdayKeep") (L0 := [some (.ref (gad G 0 0)), some (.int a1), some (.int a2)]) hl0 rfl rfl rfl (Nat.le_of_ble_eq_true rfl) (fun C hl1 hl hout hcs hC => ?_)
  subst hl1
  delta f_X9_saturday
  refine aw_iload_n (pc := 0) (i := 1) hC dX9_saturday_0 rfl rfl ?_
  refine aw_callSR (pc := 1) (As := [.int a1]) hC ms_X9_isCalendar kw959 (by decide) (c_X9_isCalendar G C.2.1   μ a1) rfl (Nat.le_of_ble_eq_true rfl) dX9_saturday_1 (fun q1 => ?_)
  refine aw_if_ne (pc := 4) (tgt := 17) hC dX9_saturday_4 (by decide) (fun _ => ?_) (fun _ => ?_)
  · skip
    exact aw_throw (k := 3) (i := 31) hC hl hout hcs rfl rfl kw883 kw23 thr3_138 (by decide) (by decide) (Nat.le_of_ble_eq_true rfl) dX9_saturday_7 dX9_saturday_10 dX9_saturday_11 dX9_saturday_13 dX9_saturday_16
  · skip
    refine aw_iload_n (pc := 17) (i := 2) hC dX9_saturday_17 rfl rfl ?_
    refine aw_nmJ (fun (J28 : Option (Nat × Int32 × Mem)) => AW G C (qX G C) 0 0 3 μ 28 [none, none, none] [] (J28)) ?_ (fun J28 hJ28 => ?_)
    · skip
      exact aw_throw (k := 1) (i := 32) hC hl hout hcs rfl rfl kw745 kw21 thr1_97 (by decide) (by decide) (Nat.le_of_ble_eq_true rfl) dX9_saturday_28 dX9_saturday_31 dX9_saturday_32 dX9_saturday_34 dX9_saturday_37
    · skip
      refine aw_if_lt (pc := 18) (tgt := 28) hC dX9_saturday_18 (by decide) (fun _ => ?_) (fun _ => ?_)
      · skip
        exact aw_drop [0, 1, 2] (hJ28)
      · skip
        refine aw_iload_n (pc := 21) (i := 2) hC dX9_saturday_21 rfl rfl ?_
        refine aw_sipush (pc := 22) (v := 9999) hC dX9_saturday_22 sc9999 ?_
        refine aw_icmp_le (pc := 25) (tgt := 38) hC dX9_saturday_25 (by decide) (fun _ => ?_) (fun _ => ?_)
        · skip
          refine aw_aload_n (pc := 38) (i := 0) hC dX9_saturday_38 rfl rfl ?_
          refine aw_get (pc := 39) hC inX9 (v0 (j := 0) (by decide)) rfl rfl 4 (by decide) kw280 rfl rfl dX9_saturday_39 ?_
          refine aw_iload_n (pc := 42) (i := 1) hC dX9_saturday_42 rfl rfl ?_
          refine aw_iload_n (pc := 43) (i := 2) hC dX9_saturday_43 rfl rfl ?_
          refine aw_callVR (pc := 44) (As := [.int a1, .int a2]) hC mb_X2_isSaturday kw976 (by decide) (c_X2_isSaturday G C.2.1 0 (by decide) μ a1 a2) (vH (h := 0) (j := 0) (by decide) (by decide)) rfl rfl rfl (Nat.le_of_ble_eq_true rfl) dX9_saturday_44 (fun q2 => ?_)
          exact aw_zretX hC dX9_saturday_47
        · skip
          exact aw_drop [0, 1, 2] (hJ28)
theorem dX9_go_0 : decode cX9_go 0 = .ok (.aload_n 0, 1) := by decide +kernel
theorem dX9_go_1 : decode cX9_go 1 = .ok (.iload_n 1, 1) := by decide +kernel
theorem dX9_go_2 : decode cX9_go 2 = .ok (.invokevirtual 130, 3) := by decide +kernel
theorem dX9_go_5 : decode cX9_go 5 = .ok (.ifCond .eq 10, 3) := by decide +kernel
theorem dX9_go_8 : decode cX9_go 8 = .ok (.iload_n 2, 1) := by decide +kernel
theorem dX9_go_9 : decode cX9_go 9 = .ok (.invokestatic 185, 3) := by decide +kernel
theorem dX9_go_12 : decode cX9_go 12 = .ok (.ifCond .ne 13, 3) := by decide +kernel
theorem dX9_go_15 : decode cX9_go 15 = .ok (.new 134, 3) := by decide +kernel
theorem dX9_go_18 : decode cX9_go 18 = .ok (.dup, 1) := by decide +kernel
theorem dX9_go_19 : decode cX9_go 19 = .ok (.ldc 220, 2) := by decide +kernel
theorem dX9_go_21 : decode cX9_go 21 = .ok (.invokespecial 138, 3) := by decide +kernel
theorem dX9_go_24 : decode cX9_go 24 = .ok (.athrow, 1) := by decide +kernel
theorem dX9_go_25 : decode cX9_go 25 = .ok (.aload_n 0, 1) := by decide +kernel
theorem dX9_go_26 : decode cX9_go 26 = .ok (.getfield 55, 3) := by decide +kernel
theorem dX9_go_29 : decode cX9_go 29 = .ok (.aload_n 0, 1) := by decide +kernel
theorem dX9_go_30 : decode cX9_go 30 = .ok (.getfield 42, 3) := by decide +kernel
theorem dX9_go_33 : decode cX9_go 33 = .ok (.invokevirtual 222, 3) := by decide +kernel
theorem dX9_go_36 : decode cX9_go 36 = .ok (.aload_n 0, 1) := by decide +kernel
theorem dX9_go_37 : decode cX9_go 37 = .ok (.getfield 42, 3) := by decide +kernel
theorem dX9_go_40 : decode cX9_go 40 = .ok (.getfield 139, 3) := by decide +kernel
theorem dX9_go_43 : decode cX9_go 43 = .ok (.iload_n 1, 1) := by decide +kernel
theorem dX9_go_44 : decode cX9_go 44 = .ok (.invokevirtual 143, 3) := by decide +kernel
theorem dX9_go_47 : decode cX9_go 47 = .ok (.istore_n 3, 1) := by decide +kernel
theorem dX9_go_48 : decode cX9_go 48 = .ok (.aload_n 0, 1) := by decide +kernel
theorem dX9_go_49 : decode cX9_go 49 = .ok (.getfield 42, 3) := by decide +kernel
theorem dX9_go_52 : decode cX9_go 52 = .ok (.getfield 139, 3) := by decide +kernel
theorem dX9_go_55 : decode cX9_go 55 = .ok (.iload_n 1, 1) := by decide +kernel
theorem dX9_go_56 : decode cX9_go 56 = .ok (.iload_n 2, 1) := by decide +kernel
theorem dX9_go_57 : decode cX9_go 57 = .ok (.invokevirtual 225, 3) := by decide +kernel
theorem dX9_go_60 : decode cX9_go 60 = .ok (.iload_n 3, 1) := by decide +kernel
theorem dX9_go_61 : decode cX9_go 61 = .ok (.ireturn, 1) := by decide +kernel
def f_X9_go (μ : Mem) (a1 : Int32) (a2 : Int32) : Option (Nat × Int32 × Mem) := (f_X9_isGuest μ a1).bind fun (q1 : Int32) => nm (some (3, 0, μ)) fun (J15 : Option (Nat × Int32 × Mem)) => if q1 = 0 then (J15) else ((f_X9_isRoom a2).bind fun (q2 : Int32) => if q2 = 0 then (J15) else ((f_X6_remember 0 μ).bind fun (q3 : Mem) => (f_X1_roomOf 0 q3 a1).bind fun (q4 : Int32) => (f_X1_put 0 q3 a1 a2).bind fun (q5 : Mem) => some (0, q4, q5)))
set_option maxHeartbeats 4000000 in
set_option maxRecDepth 100000 in
theorem c_X9_go (G : GG) (l : Launch) (hl0 : l.stackTraces = false) (μ : Mem) (a1 : Int32) (a2 : Int32) : CXT G l yX9_go (.code yX9_go cX9_go 4 (some .int)) 5 [.ref (gad G 0 0), .int a1, .int a2] μ (f_X9_go μ a1 a2) := by
  refine CXT.of (own := "SaturdayKeep") (L0 := [some (.ref (gad G 0 0)), some (.int a1), some (.int a2), none]) hl0 rfl rfl rfl (Nat.le_of_ble_eq_true rfl) (fun C hl1 hl hout hcs hC => ?_)
  subst hl1
  delta f_X9_go
  refine aw_aload_n (pc := 0) (i := 0) hC dX9_go_0 rfl rfl ?_
  refine aw_iload_n (pc := 1) (i := 1) hC dX9_go_1 rfl rfl ?_
  refine aw_callVR (pc := 2) (As := [.int a1]) hC mb_X9_isGuest kw879 (by decide) (c_X9_isGuest G C.2.1   μ a1) (v0 (j := 0) (by decide)) rfl rfl rfl (Nat.le_of_ble_eq_true rfl) dX9_go_2 (fun q1 => ?_)
  refine aw_nmJ (fun (J15 : Option (Nat × Int32 × Mem)) => AW G C (qX G C) 0 0 4 μ 15 [none, none, none, none] [] (J15)) ?_ (fun J15 hJ15 => ?_)
  · skip
    exact aw_throw (k := 3) (i := 33) hC hl hout hcs rfl rfl kw883 kw23 thr3_138 (by decide) (by decide) (Nat.le_of_ble_eq_true rfl) dX9_go_15 dX9_go_18 dX9_go_19 dX9_go_21 dX9_go_24
  · skip
    refine aw_if_eq (pc := 5) (tgt := 15) hC dX9_go_5 (by decide) (fun _ => ?_) (fun _ => ?_)
    · skip
      exact aw_drop [0, 1, 2] (hJ15)
    · skip
      refine aw_iload_n (pc := 8) (i := 2) hC dX9_go_8 rfl rfl ?_
      refine aw_callSR (pc := 9) (As := [.int a2]) hC ms_X9_isRoom kw949 (by decide) (c_X9_isRoom G C.2.1   μ a2) rfl (Nat.le_of_ble_eq_true rfl) dX9_go_9 (fun q2 => ?_)
      refine aw_if_ne (pc := 12) (tgt := 25) hC dX9_go_12 (by decide) (fun _ => ?_) (fun _ => ?_)
      · skip
        exact aw_drop [0, 1, 2] (hJ15)
      · skip
        refine aw_aload_n (pc := 25) (i := 0) hC dX9_go_25 rfl rfl ?_
        refine aw_get (pc := 26) hC inX9 (v0 (j := 0) (by decide)) rfl rfl 7 (by decide) kw283 rfl rfl dX9_go_26 ?_
        refine aw_aload_n (pc := 29) (i := 0) hC dX9_go_29 rfl rfl ?_
        refine aw_get (pc := 30) hC inX9 (v0 (j := 0) (by decide)) rfl rfl 4 (by decide) kw280 rfl rfl dX9_go_30 ?_
        refine aw_callVV (pc := 33) (As := [.ref (gad G 1 0)]) hC mb_X6_remember kw985 (by decide) (c_X6_remember G C.2.1 0 (by decide) μ ) (v0 (j := 9) (by decide)) rfl rfl rfl (Nat.le_of_ble_eq_true rfl) dX9_go_33 (fun q3 => ?_)
        refine aw_aload_n (pc := 36) (i := 0) hC dX9_go_36 rfl rfl ?_
        refine aw_get (pc := 37) hC inX9 (v0 (j := 0) (by decide)) rfl rfl 4 (by decide) kw280 rfl rfl dX9_go_37 ?_
        refine aw_get (pc := 40) hC inX2 (vH (h := 0) (j := 0) (by decide) (by decide)) rfl rfl 0 (by decide) kw186 rfl rfl dX9_go_40 ?_
        refine aw_iload_n (pc := 43) (i := 1) hC dX9_go_43 rfl rfl ?_
        refine aw_callVR (pc := 44) (As := [.int a1]) hC mb_X1_roomOf kw493 (by decide) (c_X1_roomOf G C.2.1 0 (by decide) q3 a1) (vH (h := 0) (j := 1) (by decide) (by decide)) rfl rfl rfl (Nat.le_of_ble_eq_true rfl) dX9_go_44 (fun q4 => ?_)
        refine aw_istore_n (pc := 47) (i := 3) hC dX9_go_47 rfl rfl (by decide) ?_
        refine aw_aload_n (pc := 48) (i := 0) hC dX9_go_48 rfl rfl ?_
        refine aw_get (pc := 49) hC inX9 (v0 (j := 0) (by decide)) rfl rfl 4 (by decide) kw280 rfl rfl dX9_go_49 ?_
        refine aw_get (pc := 52) hC inX2 (vH (h := 0) (j := 0) (by decide) (by decide)) rfl rfl 0 (by decide) kw186 rfl rfl dX9_go_52 ?_
        refine aw_iload_n (pc := 55) (i := 1) hC dX9_go_55 rfl rfl ?_
        refine aw_iload_n (pc := 56) (i := 2) hC dX9_go_56 rfl rfl ?_
        refine aw_callVV (pc := 57) (As := [.int a1, .int a2]) hC mb_X1_put kw990 (by decide) (c_X1_put G C.2.1 0 (by decide) q3 a1 a2) (vH (h := 0) (j := 1) (by decide) (by decide)) rfl rfl rfl (Nat.le_of_ble_eq_true rfl) dX9_go_57 (fun q5 => ?_)
        refine aw_iload_n (pc := 60) (i := 3) hC dX9_go_60 rfl rfl ?_
        exact aw_iretX hC dX9_go_61
theorem dX9_come_0 : decode cX9_come 0 = .ok (.aload_n 0, 1) := by decide +kernel
theorem dX9_come_1 : decode cX9_come 1 = .ok (.iload_n 1, 1) := by decide +kernel
theorem dX9_come_2 : decode cX9_come 2 = .ok (.invokevirtual 130, 3) := by decide +kernel
theorem dX9_come_5 : decode cX9_come 5 = .ok (.ifCond .ne 13, 3) := by decide +kernel
theorem dX9_come_8 : decode cX9_come 8 = .ok (.new 134, 3) := by decide +kernel
theorem dX9_come_11 : decode cX9_come 11 = .ok (.dup, 1) := by decide +kernel
theorem dX9_come_12 : decode cX9_come 12 = .ok (.ldc 136, 2) := by decide +kernel
theorem dX9_come_14 : decode cX9_come 14 = .ok (.invokespecial 138, 3) := by decide +kernel
theorem dX9_come_17 : decode cX9_come 17 = .ok (.athrow, 1) := by decide +kernel
theorem dX9_come_18 : decode cX9_come 18 = .ok (.aload_n 0, 1) := by decide +kernel
theorem dX9_come_19 : decode cX9_come 19 = .ok (.getfield 55, 3) := by decide +kernel
theorem dX9_come_22 : decode cX9_come 22 = .ok (.aload_n 0, 1) := by decide +kernel
theorem dX9_come_23 : decode cX9_come 23 = .ok (.getfield 42, 3) := by decide +kernel
theorem dX9_come_26 : decode cX9_come 26 = .ok (.invokevirtual 222, 3) := by decide +kernel
theorem dX9_come_29 : decode cX9_come 29 = .ok (.aload_n 0, 1) := by decide +kernel
theorem dX9_come_30 : decode cX9_come 30 = .ok (.getfield 42, 3) := by decide +kernel
theorem dX9_come_33 : decode cX9_come 33 = .ok (.getfield 139, 3) := by decide +kernel
theorem dX9_come_36 : decode cX9_come 36 = .ok (.getfield 162, 3) := by decide +kernel
theorem dX9_come_39 : decode cX9_come 39 = .ok (.iload_n 1, 1) := by decide +kernel
theorem dX9_come_40 : decode cX9_come 40 = .ok (.invokestatic 158, 3) := by decide +kernel
theorem dX9_come_43 : decode cX9_come 43 = .ok (.istore_n 3, 1) := by decide +kernel
theorem dX9_come_44 : decode cX9_come 44 = .ok (.aload_n 0, 1) := by decide +kernel
theorem dX9_come_45 : decode cX9_come 45 = .ok (.getfield 42, 3) := by decide +kernel
theorem dX9_come_48 : decode cX9_come 48 = .ok (.getfield 139, 3) := by decide +kernel
theorem dX9_come_51 : decode cX9_come 51 = .ok (.aload_n 0, 1) := by decide +kernel
theorem dX9_come_52 : decode cX9_come 52 = .ok (.getfield 42, 3) := by decide +kernel
theorem dX9_come_55 : decode cX9_come 55 = .ok (.getfield 139, 3) := by decide +kernel
theorem dX9_come_58 : decode cX9_come 58 = .ok (.getfield 162, 3) := by decide +kernel
theorem dX9_come_61 : decode cX9_come 61 = .ok (.iload_n 1, 1) := by decide +kernel
theorem dX9_come_62 : decode cX9_come 62 = .ok (.iload_n 2, 1) := by decide +kernel
theorem dX9_come_63 : decode cX9_come 63 = .ok (.invokestatic 229, 3) := by decide +kernel
theorem dX9_come_66 : decode cX9_come 66 = .ok (.putfield 162, 3) := by decide +kernel
theorem dX9_come_69 : decode cX9_come 69 = .ok (.iload_n 3, 1) := by decide +kernel
theorem dX9_come_70 : decode cX9_come 70 = .ok (.iload_n 2, 1) := by decide +kernel
theorem dX9_come_71 : decode cX9_come 71 = .ok (.if_icmp .eq 7, 3) := by decide +kernel
theorem dX9_come_74 : decode cX9_come 74 = .ok (.iconst 1, 1) := by decide +kernel
theorem dX9_come_75 : decode cX9_come 75 = .ok (.goto 4, 3) := by decide +kernel
theorem dX9_come_78 : decode cX9_come 78 = .ok (.iconst 0, 1) := by decide +kernel
theorem dX9_come_79 : decode cX9_come 79 = .ok (.ireturn, 1) := by decide +kernel
def f_X9_come (μ : Mem) (a1 : Int32) (a2 : Int32) : Option (Nat × Int32 × Mem) := (f_X9_isGuest μ a1).bind fun (q1 : Int32) => if q1 = 0 then (some (3, 0, μ)) else ((f_X6_remember 0 μ).bind fun (q2 : Mem) => (f_X9_holds (q2 1 1 5) a1).bind fun (q3 : Int32) => (f_X9_withMember (q2 1 1 5) a1 a2).bind fun (q4 : Int32) => nm (upm q2 1 1 5 q4) fun (μ5 : Mem) => if q3 = a2 then (some (0, 0, μ5)) else (some (0, 1, μ5)))
set_option maxHeartbeats 4000000 in
set_option maxRecDepth 100000 in
theorem c_X9_come (G : GG) (l : Launch) (hl0 : l.stackTraces = false) (μ : Mem) (a1 : Int32) (a2 : Int32) : CXT G l yX9_come (.code yX9_come cX9_come 4 (some .boolean)) 5 [.ref (gad G 0 0), .int a1, .int a2] μ (f_X9_come μ a1 a2) := by
  refine CXT.of (own := "SaturdayKeep") (L0 := [some (.ref (gad G 0 0)), some (.int a1), some (.int a2), none]) hl0 rfl rfl rfl (Nat.le_of_ble_eq_true rfl) (fun C hl1 hl hout hcs hC => ?_)
  subst hl1
  delta f_X9_come
  refine aw_aload_n (pc := 0) (i := 0) hC dX9_come_0 rfl rfl ?_
  refine aw_iload_n (pc := 1) (i := 1) hC dX9_come_1 rfl rfl ?_
  refine aw_callVR (pc := 2) (As := [.int a1]) hC mb_X9_isGuest kw879 (by decide) (c_X9_isGuest G C.2.1   μ a1) (v0 (j := 0) (by decide)) rfl rfl rfl (Nat.le_of_ble_eq_true rfl) dX9_come_2 (fun q1 => ?_)
  refine aw_if_ne (pc := 5) (tgt := 18) hC dX9_come_5 (by decide) (fun _ => ?_) (fun _ => ?_)
  · skip
    exact aw_throw (k := 3) (i := 27) hC hl hout hcs rfl rfl kw883 kw23 thr3_138 (by decide) (by decide) (Nat.le_of_ble_eq_true rfl) dX9_come_8 dX9_come_11 dX9_come_12 dX9_come_14 dX9_come_17
  · skip
    refine aw_aload_n (pc := 18) (i := 0) hC dX9_come_18 rfl rfl ?_
    refine aw_get (pc := 19) hC inX9 (v0 (j := 0) (by decide)) rfl rfl 7 (by decide) kw283 rfl rfl dX9_come_19 ?_
    refine aw_aload_n (pc := 22) (i := 0) hC dX9_come_22 rfl rfl ?_
    refine aw_get (pc := 23) hC inX9 (v0 (j := 0) (by decide)) rfl rfl 4 (by decide) kw280 rfl rfl dX9_come_23 ?_
    refine aw_callVV (pc := 26) (As := [.ref (gad G 1 0)]) hC mb_X6_remember kw985 (by decide) (c_X6_remember G C.2.1 0 (by decide) μ ) (v0 (j := 9) (by decide)) rfl rfl rfl (Nat.le_of_ble_eq_true rfl) dX9_come_26 (fun q2 => ?_)
    refine aw_aload_n (pc := 29) (i := 0) hC dX9_come_29 rfl rfl ?_
    refine aw_get (pc := 30) hC inX9 (v0 (j := 0) (by decide)) rfl rfl 4 (by decide) kw280 rfl rfl dX9_come_30 ?_
    refine aw_get (pc := 33) hC inX2 (vH (h := 0) (j := 0) (by decide) (by decide)) rfl rfl 0 (by decide) kw186 rfl rfl dX9_come_33 ?_
    refine aw_get (pc := 36) hC inX1 (vH (h := 0) (j := 1) (by decide) (by decide)) rfl rfl 5 (by decide) kw150 rfl rfl dX9_come_36 ?_
    refine aw_iload_n (pc := 39) (i := 1) hC dX9_come_39 rfl rfl ?_
    refine aw_callSR (pc := 40) (As := [.int (q2 1 1 5), .int a1]) hC ms_X9_holds kw415 (by decide) (c_X9_holds G C.2.1   q2 (q2 1 1 5) a1) rfl (Nat.le_of_ble_eq_true rfl) dX9_come_40 (fun q3 => ?_)
    refine aw_istore_n (pc := 43) (i := 3) hC dX9_come_43 rfl rfl (by decide) ?_
    refine aw_aload_n (pc := 44) (i := 0) hC dX9_come_44 rfl rfl ?_
    refine aw_get (pc := 45) hC inX9 (v0 (j := 0) (by decide)) rfl rfl 4 (by decide) kw280 rfl rfl dX9_come_45 ?_
    refine aw_get (pc := 48) hC inX2 (vH (h := 0) (j := 0) (by decide) (by decide)) rfl rfl 0 (by decide) kw186 rfl rfl dX9_come_48 ?_
    refine aw_aload_n (pc := 51) (i := 0) hC dX9_come_51 rfl rfl ?_
    refine aw_get (pc := 52) hC inX9 (v0 (j := 0) (by decide)) rfl rfl 4 (by decide) kw280 rfl rfl dX9_come_52 ?_
    refine aw_get (pc := 55) hC inX2 (vH (h := 0) (j := 0) (by decide) (by decide)) rfl rfl 0 (by decide) kw186 rfl rfl dX9_come_55 ?_
    refine aw_get (pc := 58) hC inX1 (vH (h := 0) (j := 1) (by decide) (by decide)) rfl rfl 5 (by decide) kw150 rfl rfl dX9_come_58 ?_
    refine aw_iload_n (pc := 61) (i := 1) hC dX9_come_61 rfl rfl ?_
    refine aw_iload_n (pc := 62) (i := 2) hC dX9_come_62 rfl rfl ?_
    refine aw_callSR (pc := 63) (As := [.int (q2 1 1 5), .int a1, .int a2]) hC ms_X9_withMember kw515 (by decide) (c_X9_withMember G C.2.1   q2 (q2 1 1 5) a1 a2) rfl (Nat.le_of_ble_eq_true rfl) dX9_come_63 (fun q4 => ?_)
    refine aw_putIN (pc := 66) hC inX1 (vH (h := 0) (j := 1) (by decide) (by decide)) rfl rfl 5 (by decide) kw150 rfl tyX1 tyX1_ok nmX1 rfl rfl (Nat.le_of_ble_eq_true rfl) rfl dX9_come_66 (fun μ5 => ?_)
    refine aw_iload_n (pc := 69) (i := 3) hC dX9_come_69 rfl rfl ?_
    refine aw_iload_n (pc := 70) (i := 2) hC dX9_come_70 rfl rfl ?_
    refine aw_icmp_eq (pc := 71) (tgt := 78) hC dX9_come_71 (by decide) (fun _ => ?_) (fun _ => ?_)
    · skip
      refine aw_iconst (pc := 78) (v := 0) hC dX9_come_78 ic0 ?_
      exact aw_zret0X hC dX9_come_79
    · skip
      refine aw_iconst (pc := 74) (v := 1) hC dX9_come_74 ic1 ?_
      refine aw_goto (pc := 75) (tgt := 79) hC dX9_come_75 (by decide) ?_
      exact aw_zret1X hC dX9_come_79
theorem dX9_key_0 : decode cX9_key 0 = .ok (.aload_n 0, 1) := by decide +kernel
theorem dX9_key_1 : decode cX9_key 1 = .ok (.iload_n 1, 1) := by decide +kernel
theorem dX9_key_2 : decode cX9_key 2 = .ok (.invokevirtual 130, 3) := by decide +kernel
theorem dX9_key_5 : decode cX9_key 5 = .ok (.ifCond .ne 13, 3) := by decide +kernel
theorem dX9_key_8 : decode cX9_key 8 = .ok (.new 134, 3) := by decide +kernel
theorem dX9_key_11 : decode cX9_key 11 = .ok (.dup, 1) := by decide +kernel
theorem dX9_key_12 : decode cX9_key 12 = .ok (.ldc 136, 2) := by decide +kernel
theorem dX9_key_14 : decode cX9_key 14 = .ok (.invokespecial 138, 3) := by decide +kernel
theorem dX9_key_17 : decode cX9_key 17 = .ok (.athrow, 1) := by decide +kernel
theorem dX9_key_18 : decode cX9_key 18 = .ok (.aload_n 0, 1) := by decide +kernel
theorem dX9_key_19 : decode cX9_key 19 = .ok (.getfield 55, 3) := by decide +kernel
theorem dX9_key_22 : decode cX9_key 22 = .ok (.aload_n 0, 1) := by decide +kernel
theorem dX9_key_23 : decode cX9_key 23 = .ok (.getfield 42, 3) := by decide +kernel
theorem dX9_key_26 : decode cX9_key 26 = .ok (.invokevirtual 222, 3) := by decide +kernel
theorem dX9_key_29 : decode cX9_key 29 = .ok (.aload_n 0, 1) := by decide +kernel
theorem dX9_key_30 : decode cX9_key 30 = .ok (.getfield 42, 3) := by decide +kernel
theorem dX9_key_33 : decode cX9_key 33 = .ok (.getfield 139, 3) := by decide +kernel
theorem dX9_key_36 : decode cX9_key 36 = .ok (.getfield 155, 3) := by decide +kernel
theorem dX9_key_39 : decode cX9_key 39 = .ok (.iload_n 1, 1) := by decide +kernel
theorem dX9_key_40 : decode cX9_key 40 = .ok (.invokestatic 158, 3) := by decide +kernel
theorem dX9_key_43 : decode cX9_key 43 = .ok (.istore_n 3, 1) := by decide +kernel
theorem dX9_key_44 : decode cX9_key 44 = .ok (.aload_n 0, 1) := by decide +kernel
theorem dX9_key_45 : decode cX9_key 45 = .ok (.getfield 42, 3) := by decide +kernel
theorem dX9_key_48 : decode cX9_key 48 = .ok (.getfield 139, 3) := by decide +kernel
theorem dX9_key_51 : decode cX9_key 51 = .ok (.aload_n 0, 1) := by decide +kernel
theorem dX9_key_52 : decode cX9_key 52 = .ok (.getfield 42, 3) := by decide +kernel
theorem dX9_key_55 : decode cX9_key 55 = .ok (.getfield 139, 3) := by decide +kernel
theorem dX9_key_58 : decode cX9_key 58 = .ok (.getfield 155, 3) := by decide +kernel
theorem dX9_key_61 : decode cX9_key 61 = .ok (.iload_n 1, 1) := by decide +kernel
theorem dX9_key_62 : decode cX9_key 62 = .ok (.iload_n 2, 1) := by decide +kernel
theorem dX9_key_63 : decode cX9_key 63 = .ok (.invokestatic 229, 3) := by decide +kernel
theorem dX9_key_66 : decode cX9_key 66 = .ok (.putfield 155, 3) := by decide +kernel
theorem dX9_key_69 : decode cX9_key 69 = .ok (.iload_n 3, 1) := by decide +kernel
theorem dX9_key_70 : decode cX9_key 70 = .ok (.iload_n 2, 1) := by decide +kernel
theorem dX9_key_71 : decode cX9_key 71 = .ok (.if_icmp .eq 7, 3) := by decide +kernel
theorem dX9_key_74 : decode cX9_key 74 = .ok (.iconst 1, 1) := by decide +kernel
theorem dX9_key_75 : decode cX9_key 75 = .ok (.goto 4, 3) := by decide +kernel
theorem dX9_key_78 : decode cX9_key 78 = .ok (.iconst 0, 1) := by decide +kernel
theorem dX9_key_79 : decode cX9_key 79 = .ok (.ireturn, 1) := by decide +kernel
def f_X9_key (μ : Mem) (a1 : Int32) (a2 : Int32) : Option (Nat × Int32 × Mem) := (f_X9_isGuest μ a1).bind fun (q1 : Int32) => if q1 = 0 then (some (3, 0, μ)) else ((f_X6_remember 0 μ).bind fun (q2 : Mem) => (f_X9_holds (q2 1 1 4) a1).bind fun (q3 : Int32) => (f_X9_withMember (q2 1 1 4) a1 a2).bind fun (q4 : Int32) => nm (upm q2 1 1 4 q4) fun (μ5 : Mem) => if q3 = a2 then (some (0, 0, μ5)) else (some (0, 1, μ5)))
set_option maxHeartbeats 4000000 in
set_option maxRecDepth 100000 in
theorem c_X9_key (G : GG) (l : Launch) (hl0 : l.stackTraces = false) (μ : Mem) (a1 : Int32) (a2 : Int32) : CXT G l yX9_key (.code yX9_key cX9_key 4 (some .boolean)) 5 [.ref (gad G 0 0), .int a1, .int a2] μ (f_X9_key μ a1 a2) := by
  refine CXT.of (own := "SaturdayKeep") (L0 := [some (.ref (gad G 0 0)), some (.int a1), some (.int a2), none]) hl0 rfl rfl rfl (Nat.le_of_ble_eq_true rfl) (fun C hl1 hl hout hcs hC => ?_)
  subst hl1
  delta f_X9_key
  refine aw_aload_n (pc := 0) (i := 0) hC dX9_key_0 rfl rfl ?_
  refine aw_iload_n (pc := 1) (i := 1) hC dX9_key_1 rfl rfl ?_
  refine aw_callVR (pc := 2) (As := [.int a1]) hC mb_X9_isGuest kw879 (by decide) (c_X9_isGuest G C.2.1   μ a1) (v0 (j := 0) (by decide)) rfl rfl rfl (Nat.le_of_ble_eq_true rfl) dX9_key_2 (fun q1 => ?_)
  refine aw_if_ne (pc := 5) (tgt := 18) hC dX9_key_5 (by decide) (fun _ => ?_) (fun _ => ?_)
  · skip
    exact aw_throw (k := 3) (i := 27) hC hl hout hcs rfl rfl kw883 kw23 thr3_138 (by decide) (by decide) (Nat.le_of_ble_eq_true rfl) dX9_key_8 dX9_key_11 dX9_key_12 dX9_key_14 dX9_key_17
  · skip
    refine aw_aload_n (pc := 18) (i := 0) hC dX9_key_18 rfl rfl ?_
    refine aw_get (pc := 19) hC inX9 (v0 (j := 0) (by decide)) rfl rfl 7 (by decide) kw283 rfl rfl dX9_key_19 ?_
    refine aw_aload_n (pc := 22) (i := 0) hC dX9_key_22 rfl rfl ?_
    refine aw_get (pc := 23) hC inX9 (v0 (j := 0) (by decide)) rfl rfl 4 (by decide) kw280 rfl rfl dX9_key_23 ?_
    refine aw_callVV (pc := 26) (As := [.ref (gad G 1 0)]) hC mb_X6_remember kw985 (by decide) (c_X6_remember G C.2.1 0 (by decide) μ ) (v0 (j := 9) (by decide)) rfl rfl rfl (Nat.le_of_ble_eq_true rfl) dX9_key_26 (fun q2 => ?_)
    refine aw_aload_n (pc := 29) (i := 0) hC dX9_key_29 rfl rfl ?_
    refine aw_get (pc := 30) hC inX9 (v0 (j := 0) (by decide)) rfl rfl 4 (by decide) kw280 rfl rfl dX9_key_30 ?_
    refine aw_get (pc := 33) hC inX2 (vH (h := 0) (j := 0) (by decide) (by decide)) rfl rfl 0 (by decide) kw186 rfl rfl dX9_key_33 ?_
    refine aw_get (pc := 36) hC inX1 (vH (h := 0) (j := 1) (by decide) (by decide)) rfl rfl 4 (by decide) kw147 rfl rfl dX9_key_36 ?_
    refine aw_iload_n (pc := 39) (i := 1) hC dX9_key_39 rfl rfl ?_
    refine aw_callSR (pc := 40) (As := [.int (q2 1 1 4), .int a1]) hC ms_X9_holds kw415 (by decide) (c_X9_holds G C.2.1   q2 (q2 1 1 4) a1) rfl (Nat.le_of_ble_eq_true rfl) dX9_key_40 (fun q3 => ?_)
    refine aw_istore_n (pc := 43) (i := 3) hC dX9_key_43 rfl rfl (by decide) ?_
    refine aw_aload_n (pc := 44) (i := 0) hC dX9_key_44 rfl rfl ?_
    refine aw_get (pc := 45) hC inX9 (v0 (j := 0) (by decide)) rfl rfl 4 (by decide) kw280 rfl rfl dX9_key_45 ?_
    refine aw_get (pc := 48) hC inX2 (vH (h := 0) (j := 0) (by decide) (by decide)) rfl rfl 0 (by decide) kw186 rfl rfl dX9_key_48 ?_
    refine aw_aload_n (pc := 51) (i := 0) hC dX9_key_51 rfl rfl ?_
    refine aw_get (pc := 52) hC inX9 (v0 (j := 0) (by decide)) rfl rfl 4 (by decide) kw280 rfl rfl dX9_key_52 ?_
    refine aw_get (pc := 55) hC inX2 (vH (h := 0) (j := 0) (by decide) (by decide)) rfl rfl 0 (by decide) kw186 rfl rfl dX9_key_55 ?_
    refine aw_get (pc := 58) hC inX1 (vH (h := 0) (j := 1) (by decide) (by decide)) rfl rfl 4 (by decide) kw147 rfl rfl dX9_key_58 ?_
    refine aw_iload_n (pc := 61) (i := 1) hC dX9_key_61 rfl rfl ?_
    refine aw_iload_n (pc := 62) (i := 2) hC dX9_key_62 rfl rfl ?_
    refine aw_callSR (pc := 63) (As := [.int (q2 1 1 4), .int a1, .int a2]) hC ms_X9_withMember kw515 (by decide) (c_X9_withMember G C.2.1   q2 (q2 1 1 4) a1 a2) rfl (Nat.le_of_ble_eq_true rfl) dX9_key_63 (fun q4 => ?_)
    refine aw_putIN (pc := 66) hC inX1 (vH (h := 0) (j := 1) (by decide) (by decide)) rfl rfl 4 (by decide) kw147 rfl tyX1 tyX1_ok nmX1 rfl rfl (Nat.le_of_ble_eq_true rfl) rfl dX9_key_66 (fun μ5 => ?_)
    refine aw_iload_n (pc := 69) (i := 3) hC dX9_key_69 rfl rfl ?_
    refine aw_iload_n (pc := 70) (i := 2) hC dX9_key_70 rfl rfl ?_
    refine aw_icmp_eq (pc := 71) (tgt := 78) hC dX9_key_71 (by decide) (fun _ => ?_) (fun _ => ?_)
    · skip
      refine aw_iconst (pc := 78) (v := 0) hC dX9_key_78 ic0 ?_
      exact aw_zret0X hC dX9_key_79
    · skip
      refine aw_iconst (pc := 74) (v := 1) hC dX9_key_74 ic1 ?_
      refine aw_goto (pc := 75) (tgt := 79) hC dX9_key_75 (by decide) ?_
      exact aw_zret1X hC dX9_key_79
theorem dX9_hole_0 : decode cX9_hole 0 = .ok (.iload_n 1, 1) := by decide +kernel
theorem dX9_hole_1 : decode cX9_hole 1 = .ok (.invokestatic 185, 3) := by decide +kernel
theorem dX9_hole_4 : decode cX9_hole 4 = .ok (.ifCond .eq 10, 3) := by decide +kernel
theorem dX9_hole_7 : decode cX9_hole 7 = .ok (.iload_n 2, 1) := by decide +kernel
theorem dX9_hole_8 : decode cX9_hole 8 = .ok (.invokestatic 185, 3) := by decide +kernel
theorem dX9_hole_11 : decode cX9_hole 11 = .ok (.ifCond .ne 13, 3) := by decide +kernel
theorem dX9_hole_14 : decode cX9_hole 14 = .ok (.new 134, 3) := by decide +kernel
theorem dX9_hole_17 : decode cX9_hole 17 = .ok (.dup, 1) := by decide +kernel
theorem dX9_hole_18 : decode cX9_hole 18 = .ok (.ldc 188, 2) := by decide +kernel
theorem dX9_hole_20 : decode cX9_hole 20 = .ok (.invokespecial 138, 3) := by decide +kernel
theorem dX9_hole_23 : decode cX9_hole 23 = .ok (.athrow, 1) := by decide +kernel
theorem dX9_hole_24 : decode cX9_hole 24 = .ok (.iload_n 1, 1) := by decide +kernel
theorem dX9_hole_25 : decode cX9_hole 25 = .ok (.iload_n 2, 1) := by decide +kernel
theorem dX9_hole_26 : decode cX9_hole 26 = .ok (.if_icmp .ne 13, 3) := by decide +kernel
theorem dX9_hole_29 : decode cX9_hole 29 = .ok (.new 93, 3) := by decide +kernel
theorem dX9_hole_32 : decode cX9_hole 32 = .ok (.dup, 1) := by decide +kernel
theorem dX9_hole_33 : decode cX9_hole 33 = .ok (.ldc 233, 2) := by decide +kernel
theorem dX9_hole_35 : decode cX9_hole 35 = .ok (.invokespecial 97, 3) := by decide +kernel
theorem dX9_hole_38 : decode cX9_hole 38 = .ok (.athrow, 1) := by decide +kernel
theorem dX9_hole_39 : decode cX9_hole 39 = .ok (.aload_n 0, 1) := by decide +kernel
theorem dX9_hole_40 : decode cX9_hole 40 = .ok (.getfield 55, 3) := by decide +kernel
theorem dX9_hole_43 : decode cX9_hole 43 = .ok (.aload_n 0, 1) := by decide +kernel
theorem dX9_hole_44 : decode cX9_hole 44 = .ok (.getfield 42, 3) := by decide +kernel
theorem dX9_hole_47 : decode cX9_hole 47 = .ok (.invokevirtual 222, 3) := by decide +kernel
theorem dX9_hole_50 : decode cX9_hole 50 = .ok (.aload_n 0, 1) := by decide +kernel
theorem dX9_hole_51 : decode cX9_hole 51 = .ok (.getfield 42, 3) := by decide +kernel
theorem dX9_hole_54 : decode cX9_hole 54 = .ok (.iload_n 1, 1) := by decide +kernel
theorem dX9_hole_55 : decode cX9_hole 55 = .ok (.invokevirtual 190, 3) := by decide +kernel
theorem dX9_hole_58 : decode cX9_hole 58 = .ok (.iload_n 2, 1) := by decide +kernel
theorem dX9_hole_59 : decode cX9_hole 59 = .ok (.invokestatic 158, 3) := by decide +kernel
theorem dX9_hole_62 : decode cX9_hole 62 = .ok (.istore 4, 2) := by decide +kernel
theorem dX9_hole_64 : decode cX9_hole 64 = .ok (.aload_n 0, 1) := by decide +kernel
theorem dX9_hole_65 : decode cX9_hole 65 = .ok (.getfield 42, 3) := by decide +kernel
theorem dX9_hole_68 : decode cX9_hole 68 = .ok (.iload_n 1, 1) := by decide +kernel
theorem dX9_hole_69 : decode cX9_hole 69 = .ok (.iload_n 2, 1) := by decide +kernel
theorem dX9_hole_70 : decode cX9_hole 70 = .ok (.iload_n 3, 1) := by decide +kernel
theorem dX9_hole_71 : decode cX9_hole 71 = .ok (.invokevirtual 235, 3) := by decide +kernel
theorem dX9_hole_74 : decode cX9_hole 74 = .ok (.iload 4, 2) := by decide +kernel
theorem dX9_hole_76 : decode cX9_hole 76 = .ok (.iload_n 3, 1) := by decide +kernel
theorem dX9_hole_77 : decode cX9_hole 77 = .ok (.if_icmp .eq 7, 3) := by decide +kernel
theorem dX9_hole_80 : decode cX9_hole 80 = .ok (.iconst 1, 1) := by decide +kernel
theorem dX9_hole_81 : decode cX9_hole 81 = .ok (.goto 4, 3) := by decide +kernel
theorem dX9_hole_84 : decode cX9_hole 84 = .ok (.iconst 0, 1) := by decide +kernel
theorem dX9_hole_85 : decode cX9_hole 85 = .ok (.ireturn, 1) := by decide +kernel
def f_X9_hole (μ : Mem) (a1 : Int32) (a2 : Int32) (a3 : Int32) : Option (Nat × Int32 × Mem) := (f_X9_isRoom a1).bind fun (q1 : Int32) => nm (some (3, 0, μ)) fun (J14 : Option (Nat × Int32 × Mem)) => if q1 = 0 then (J14) else ((f_X9_isRoom a2).bind fun (q2 : Int32) => if q2 = 0 then (J14) else (if a1 = a2 then (some (1, 0, μ)) else ((f_X6_remember 0 μ).bind fun (q3 : Mem) => (f_X2_holesFrom 0 q3 a1).bind fun (q4 : Int32) => (f_X9_holds q4 a2).bind fun (q5 : Int32) => (f_X2_setHole 0 q3 a1 a2 a3).bind fun (q6 : Mem) => if q5 = a3 then (some (0, 0, q6)) else (some (0, 1, q6)))))
set_option maxHeartbeats 4000000 in
set_option maxRecDepth 100000 in
theorem c_X9_hole (G : GG) (l : Launch) (hl0 : l.stackTraces = false) (μ : Mem) (a1 : Int32) (a2 : Int32) (a3 : Int32) : CXT G l yX9_hole (.code yX9_hole cX9_hole 5 (some .boolean)) 5 [.ref (gad G 0 0), .int a1, .int a2, .int a3] μ (f_X9_hole μ a1 a2 a3) := by
  refine CXT.of (own := "SaturdayKeep") (L0 := [some (.ref (gad G 0 0)), some (.int a1), some (.int a2), some (.int a3), none]) hl0 rfl rfl rfl (Nat.le_of_ble_eq_true rfl) (fun C hl1 hl hout hcs hC => ?_)
  subst hl1
  delta f_X9_hole
  refine aw_iload_n (pc := 0) (i := 1) hC dX9_hole_0 rfl rfl ?_
  refine aw_callSR (pc := 1) (As := [.int a1]) hC ms_X9_isRoom kw949 (by decide) (c_X9_isRoom G C.2.1   μ a1) rfl (Nat.le_of_ble_eq_true rfl) dX9_hole_1 (fun q1 => ?_)
  refine aw_nmJ (fun (J14 : Option (Nat × Int32 × Mem)) => AW G C (qX G C) 0 0 5 μ 14 [none, none, none, none, none] [] (J14)) ?_ (fun J14 hJ14 => ?_)
  · skip
    exact aw_throw (k := 3) (i := 29) hC hl hout hcs rfl rfl kw883 kw23 thr3_138 (by decide) (by decide) (Nat.le_of_ble_eq_true rfl) dX9_hole_14 dX9_hole_17 dX9_hole_18 dX9_hole_20 dX9_hole_23
  · skip
    refine aw_if_eq (pc := 4) (tgt := 14) hC dX9_hole_4 (by decide) (fun _ => ?_) (fun _ => ?_)
    · skip
      exact aw_drop [0, 1, 2, 3] (hJ14)
    · skip
      refine aw_iload_n (pc := 7) (i := 2) hC dX9_hole_7 rfl rfl ?_
      refine aw_callSR (pc := 8) (As := [.int a2]) hC ms_X9_isRoom kw949 (by decide) (c_X9_isRoom G C.2.1   μ a2) rfl (Nat.le_of_ble_eq_true rfl) dX9_hole_8 (fun q2 => ?_)
      refine aw_if_ne (pc := 11) (tgt := 24) hC dX9_hole_11 (by decide) (fun _ => ?_) (fun _ => ?_)
      · skip
        exact aw_drop [0, 1, 2, 3] (hJ14)
      · skip
        refine aw_iload_n (pc := 24) (i := 1) hC dX9_hole_24 rfl rfl ?_
        refine aw_iload_n (pc := 25) (i := 2) hC dX9_hole_25 rfl rfl ?_
        refine aw_icmp_ne (pc := 26) (tgt := 39) hC dX9_hole_26 (by decide) (fun _ => ?_) (fun _ => ?_)
        · skip
          exact aw_throw (k := 1) (i := 34) hC hl hout hcs rfl rfl kw745 kw21 thr1_97 (by decide) (by decide) (Nat.le_of_ble_eq_true rfl) dX9_hole_29 dX9_hole_32 dX9_hole_33 dX9_hole_35 dX9_hole_38
        · skip
          refine aw_aload_n (pc := 39) (i := 0) hC dX9_hole_39 rfl rfl ?_
          refine aw_get (pc := 40) hC inX9 (v0 (j := 0) (by decide)) rfl rfl 7 (by decide) kw283 rfl rfl dX9_hole_40 ?_
          refine aw_aload_n (pc := 43) (i := 0) hC dX9_hole_43 rfl rfl ?_
          refine aw_get (pc := 44) hC inX9 (v0 (j := 0) (by decide)) rfl rfl 4 (by decide) kw280 rfl rfl dX9_hole_44 ?_
          refine aw_callVV (pc := 47) (As := [.ref (gad G 1 0)]) hC mb_X6_remember kw985 (by decide) (c_X6_remember G C.2.1 0 (by decide) μ ) (v0 (j := 9) (by decide)) rfl rfl rfl (Nat.le_of_ble_eq_true rfl) dX9_hole_47 (fun q3 => ?_)
          refine aw_aload_n (pc := 50) (i := 0) hC dX9_hole_50 rfl rfl ?_
          refine aw_get (pc := 51) hC inX9 (v0 (j := 0) (by decide)) rfl rfl 4 (by decide) kw280 rfl rfl dX9_hole_51 ?_
          refine aw_iload_n (pc := 54) (i := 1) hC dX9_hole_54 rfl rfl ?_
          refine aw_callVR (pc := 55) (As := [.int a1]) hC mb_X2_holesFrom kw467 (by decide) (c_X2_holesFrom G C.2.1 0 (by decide) q3 a1) (vH (h := 0) (j := 0) (by decide) (by decide)) rfl rfl rfl (Nat.le_of_ble_eq_true rfl) dX9_hole_55 (fun q4 => ?_)
          refine aw_iload_n (pc := 58) (i := 2) hC dX9_hole_58 rfl rfl ?_
          refine aw_callSR (pc := 59) (As := [.int q4, .int a2]) hC ms_X9_holds kw415 (by decide) (c_X9_holds G C.2.1   q3 q4 a2) rfl (Nat.le_of_ble_eq_true rfl) dX9_hole_59 (fun q5 => ?_)
          refine aw_istore (pc := 62) hC dX9_hole_62 rfl (by decide) ?_
          refine aw_aload_n (pc := 64) (i := 0) hC dX9_hole_64 rfl rfl ?_
          refine aw_get (pc := 65) hC inX9 (v0 (j := 0) (by decide)) rfl rfl 4 (by decide) kw280 rfl rfl dX9_hole_65 ?_
          refine aw_iload_n (pc := 68) (i := 1) hC dX9_hole_68 rfl rfl ?_
          refine aw_iload_n (pc := 69) (i := 2) hC dX9_hole_69 rfl rfl ?_
          refine aw_iload_n (pc := 70) (i := 3) hC dX9_hole_70 rfl rfl ?_
          refine aw_callVV (pc := 71) (As := [.int a1, .int a2, .int a3]) hC mb_X2_setHole kw1016 (by decide) (c_X2_setHole G C.2.1 0 (by decide) q3 a1 a2 a3) (vH (h := 0) (j := 0) (by decide) (by decide)) rfl rfl rfl (Nat.le_of_ble_eq_true rfl) dX9_hole_71 (fun q6 => ?_)
          refine aw_iload (pc := 74) hC dX9_hole_74 rfl ?_
          refine aw_iload_n (pc := 76) (i := 3) hC dX9_hole_76 rfl rfl ?_
          refine aw_icmp_eq (pc := 77) (tgt := 84) hC dX9_hole_77 (by decide) (fun _ => ?_) (fun _ => ?_)
          · skip
            refine aw_iconst (pc := 84) (v := 0) hC dX9_hole_84 ic0 ?_
            exact aw_zret0X hC dX9_hole_85
          · skip
            refine aw_iconst (pc := 80) (v := 1) hC dX9_hole_80 ic1 ?_
            refine aw_goto (pc := 81) (tgt := 85) hC dX9_hole_81 (by decide) ?_
            exact aw_zret1X hC dX9_hole_85
theorem dX9_bath_0 : decode cX9_bath 0 = .ok (.iload_n 1, 1) := by decide +kernel
theorem dX9_bath_1 : decode cX9_bath 1 = .ok (.invokestatic 185, 3) := by decide +kernel
theorem dX9_bath_4 : decode cX9_bath 4 = .ok (.ifCond .ne 13, 3) := by decide +kernel
theorem dX9_bath_7 : decode cX9_bath 7 = .ok (.new 134, 3) := by decide +kernel
theorem dX9_bath_10 : decode cX9_bath 10 = .ok (.dup, 1) := by decide +kernel
theorem dX9_bath_11 : decode cX9_bath 11 = .ok (.ldc 188, 2) := by decide +kernel
theorem dX9_bath_13 : decode cX9_bath 13 = .ok (.invokespecial 138, 3) := by decide +kernel
theorem dX9_bath_16 : decode cX9_bath 16 = .ok (.athrow, 1) := by decide +kernel
theorem dX9_bath_17 : decode cX9_bath 17 = .ok (.aload_n 0, 1) := by decide +kernel
theorem dX9_bath_18 : decode cX9_bath 18 = .ok (.getfield 55, 3) := by decide +kernel
theorem dX9_bath_21 : decode cX9_bath 21 = .ok (.aload_n 0, 1) := by decide +kernel
theorem dX9_bath_22 : decode cX9_bath 22 = .ok (.getfield 42, 3) := by decide +kernel
theorem dX9_bath_25 : decode cX9_bath 25 = .ok (.invokevirtual 222, 3) := by decide +kernel
theorem dX9_bath_28 : decode cX9_bath 28 = .ok (.aload_n 0, 1) := by decide +kernel
theorem dX9_bath_29 : decode cX9_bath 29 = .ok (.getfield 42, 3) := by decide +kernel
theorem dX9_bath_32 : decode cX9_bath 32 = .ok (.getfield 239, 3) := by decide +kernel
theorem dX9_bath_35 : decode cX9_bath 35 = .ok (.istore_n 2, 1) := by decide +kernel
theorem dX9_bath_36 : decode cX9_bath 36 = .ok (.aload_n 0, 1) := by decide +kernel
theorem dX9_bath_37 : decode cX9_bath 37 = .ok (.getfield 42, 3) := by decide +kernel
theorem dX9_bath_40 : decode cX9_bath 40 = .ok (.iload_n 1, 1) := by decide +kernel
theorem dX9_bath_41 : decode cX9_bath 41 = .ok (.putfield 239, 3) := by decide +kernel
theorem dX9_bath_44 : decode cX9_bath 44 = .ok (.iload_n 2, 1) := by decide +kernel
theorem dX9_bath_45 : decode cX9_bath 45 = .ok (.ireturn, 1) := by decide +kernel
def f_X9_bath (μ : Mem) (a1 : Int32) : Option (Nat × Int32 × Mem) := (f_X9_isRoom a1).bind fun (q1 : Int32) => if q1 = 0 then (some (3, 0, μ)) else ((f_X6_remember 0 μ).bind fun (q2 : Mem) => nm (upm q2 1 0 8 a1) fun (μ3 : Mem) => some (0, (q2 1 0 8), μ3))
set_option maxHeartbeats 4000000 in
set_option maxRecDepth 100000 in
theorem c_X9_bath (G : GG) (l : Launch) (hl0 : l.stackTraces = false) (μ : Mem) (a1 : Int32) : CXT G l yX9_bath (.code yX9_bath cX9_bath 3 (some .int)) 5 [.ref (gad G 0 0), .int a1] μ (f_X9_bath μ a1) := by
  refine CXT.of (own := "SaturdayKeep") (L0 := [some (.ref (gad G 0 0)), some (.int a1), none]) hl0 rfl rfl rfl (Nat.le_of_ble_eq_true rfl) (fun C hl1 hl hout hcs hC => ?_)
  subst hl1
  delta f_X9_bath
  refine aw_iload_n (pc := 0) (i := 1) hC dX9_bath_0 rfl rfl ?_
  refine aw_callSR (pc := 1) (As := [.int a1]) hC ms_X9_isRoom kw949 (by decide) (c_X9_isRoom G C.2.1   μ a1) rfl (Nat.le_of_ble_eq_true rfl) dX9_bath_1 (fun q1 => ?_)
  refine aw_if_ne (pc := 4) (tgt := 17) hC dX9_bath_4 (by decide) (fun _ => ?_) (fun _ => ?_)
  · skip
    exact aw_throw (k := 3) (i := 29) hC hl hout hcs rfl rfl kw883 kw23 thr3_138 (by decide) (by decide) (Nat.le_of_ble_eq_true rfl) dX9_bath_7 dX9_bath_10 dX9_bath_11 dX9_bath_13 dX9_bath_16
  · skip
    refine aw_aload_n (pc := 17) (i := 0) hC dX9_bath_17 rfl rfl ?_
    refine aw_get (pc := 18) hC inX9 (v0 (j := 0) (by decide)) rfl rfl 7 (by decide) kw283 rfl rfl dX9_bath_18 ?_
    refine aw_aload_n (pc := 21) (i := 0) hC dX9_bath_21 rfl rfl ?_
    refine aw_get (pc := 22) hC inX9 (v0 (j := 0) (by decide)) rfl rfl 4 (by decide) kw280 rfl rfl dX9_bath_22 ?_
    refine aw_callVV (pc := 25) (As := [.ref (gad G 1 0)]) hC mb_X6_remember kw985 (by decide) (c_X6_remember G C.2.1 0 (by decide) μ ) (v0 (j := 9) (by decide)) rfl rfl rfl (Nat.le_of_ble_eq_true rfl) dX9_bath_25 (fun q2 => ?_)
    refine aw_aload_n (pc := 28) (i := 0) hC dX9_bath_28 rfl rfl ?_
    refine aw_get (pc := 29) hC inX9 (v0 (j := 0) (by decide)) rfl rfl 4 (by decide) kw280 rfl rfl dX9_bath_29 ?_
    refine aw_get (pc := 32) hC inX2 (vH (h := 0) (j := 0) (by decide) (by decide)) rfl rfl 8 (by decide) kw200 rfl rfl dX9_bath_32 ?_
    refine aw_istore_n (pc := 35) (i := 2) hC dX9_bath_35 rfl rfl (by decide) ?_
    refine aw_aload_n (pc := 36) (i := 0) hC dX9_bath_36 rfl rfl ?_
    refine aw_get (pc := 37) hC inX9 (v0 (j := 0) (by decide)) rfl rfl 4 (by decide) kw280 rfl rfl dX9_bath_37 ?_
    refine aw_iload_n (pc := 40) (i := 1) hC dX9_bath_40 rfl rfl ?_
    refine aw_putIN (pc := 41) hC inX2 (vH (h := 0) (j := 0) (by decide) (by decide)) rfl rfl 8 (by decide) kw200 rfl tyX2 tyX2_ok nmX2 rfl rfl (Nat.le_of_ble_eq_true rfl) rfl dX9_bath_41 (fun μ3 => ?_)
    refine aw_iload_n (pc := 44) (i := 2) hC dX9_bath_44 rfl rfl ?_
    exact aw_iretX hC dX9_bath_45
theorem dX9_keep_0 : decode cX9_keep 0 = .ok (.iload_n 1, 1) := by decide +kernel
theorem dX9_keep_1 : decode cX9_keep 1 = .ok (.invokestatic 204, 3) := by decide +kernel
theorem dX9_keep_4 : decode cX9_keep 4 = .ok (.ifCond .ne 13, 3) := by decide +kernel
theorem dX9_keep_7 : decode cX9_keep 7 = .ok (.new 134, 3) := by decide +kernel
theorem dX9_keep_10 : decode cX9_keep 10 = .ok (.dup, 1) := by decide +kernel
theorem dX9_keep_11 : decode cX9_keep 11 = .ok (.ldc 207, 2) := by decide +kernel
theorem dX9_keep_13 : decode cX9_keep 13 = .ok (.invokespecial 138, 3) := by decide +kernel
theorem dX9_keep_16 : decode cX9_keep 16 = .ok (.athrow, 1) := by decide +kernel
theorem dX9_keep_17 : decode cX9_keep 17 = .ok (.aload_n 0, 1) := by decide +kernel
theorem dX9_keep_18 : decode cX9_keep 18 = .ok (.getfield 55, 3) := by decide +kernel
theorem dX9_keep_21 : decode cX9_keep 21 = .ok (.aload_n 0, 1) := by decide +kernel
theorem dX9_keep_22 : decode cX9_keep 22 = .ok (.getfield 42, 3) := by decide +kernel
theorem dX9_keep_25 : decode cX9_keep 25 = .ok (.invokevirtual 222, 3) := by decide +kernel
theorem dX9_keep_28 : decode cX9_keep 28 = .ok (.aload_n 0, 1) := by decide +kernel
theorem dX9_keep_29 : decode cX9_keep 29 = .ok (.getfield 42, 3) := by decide +kernel
theorem dX9_keep_32 : decode cX9_keep 32 = .ok (.getfield 242, 3) := by decide +kernel
theorem dX9_keep_35 : decode cX9_keep 35 = .ok (.istore_n 2, 1) := by decide +kernel
theorem dX9_keep_36 : decode cX9_keep 36 = .ok (.aload_n 0, 1) := by decide +kernel
theorem dX9_keep_37 : decode cX9_keep 37 = .ok (.getfield 42, 3) := by decide +kernel
theorem dX9_keep_40 : decode cX9_keep 40 = .ok (.iload_n 1, 1) := by decide +kernel
theorem dX9_keep_41 : decode cX9_keep 41 = .ok (.putfield 242, 3) := by decide +kernel
theorem dX9_keep_44 : decode cX9_keep 44 = .ok (.iload_n 2, 1) := by decide +kernel
theorem dX9_keep_45 : decode cX9_keep 45 = .ok (.ireturn, 1) := by decide +kernel
def f_X9_keep (μ : Mem) (a1 : Int32) : Option (Nat × Int32 × Mem) := (f_X9_isCalendar a1).bind fun (q1 : Int32) => if q1 = 0 then (some (3, 0, μ)) else ((f_X6_remember 0 μ).bind fun (q2 : Mem) => nm (upm q2 1 0 7 a1) fun (μ3 : Mem) => some (0, (q2 1 0 7), μ3))
set_option maxHeartbeats 4000000 in
set_option maxRecDepth 100000 in
theorem c_X9_keep (G : GG) (l : Launch) (hl0 : l.stackTraces = false) (μ : Mem) (a1 : Int32) : CXT G l yX9_keep (.code yX9_keep cX9_keep 3 (some .int)) 5 [.ref (gad G 0 0), .int a1] μ (f_X9_keep μ a1) := by
  refine CXT.of (own := "SaturdayKeep") (L0 := [some (.ref (gad G 0 0)), some (.int a1), none]) hl0 rfl rfl rfl (Nat.le_of_ble_eq_true rfl) (fun C hl1 hl hout hcs hC => ?_)
  subst hl1
  delta f_X9_keep
  refine aw_iload_n (pc := 0) (i := 1) hC dX9_keep_0 rfl rfl ?_
  refine aw_callSR (pc := 1) (As := [.int a1]) hC ms_X9_isCalendar kw959 (by decide) (c_X9_isCalendar G C.2.1   μ a1) rfl (Nat.le_of_ble_eq_true rfl) dX9_keep_1 (fun q1 => ?_)
  refine aw_if_ne (pc := 4) (tgt := 17) hC dX9_keep_4 (by decide) (fun _ => ?_) (fun _ => ?_)
  · skip
    exact aw_throw (k := 3) (i := 31) hC hl hout hcs rfl rfl kw883 kw23 thr3_138 (by decide) (by decide) (Nat.le_of_ble_eq_true rfl) dX9_keep_7 dX9_keep_10 dX9_keep_11 dX9_keep_13 dX9_keep_16
  · skip
    refine aw_aload_n (pc := 17) (i := 0) hC dX9_keep_17 rfl rfl ?_
    refine aw_get (pc := 18) hC inX9 (v0 (j := 0) (by decide)) rfl rfl 7 (by decide) kw283 rfl rfl dX9_keep_18 ?_
    refine aw_aload_n (pc := 21) (i := 0) hC dX9_keep_21 rfl rfl ?_
    refine aw_get (pc := 22) hC inX9 (v0 (j := 0) (by decide)) rfl rfl 4 (by decide) kw280 rfl rfl dX9_keep_22 ?_
    refine aw_callVV (pc := 25) (As := [.ref (gad G 1 0)]) hC mb_X6_remember kw985 (by decide) (c_X6_remember G C.2.1 0 (by decide) μ ) (v0 (j := 9) (by decide)) rfl rfl rfl (Nat.le_of_ble_eq_true rfl) dX9_keep_25 (fun q2 => ?_)
    refine aw_aload_n (pc := 28) (i := 0) hC dX9_keep_28 rfl rfl ?_
    refine aw_get (pc := 29) hC inX9 (v0 (j := 0) (by decide)) rfl rfl 4 (by decide) kw280 rfl rfl dX9_keep_29 ?_
    refine aw_get (pc := 32) hC inX2 (vH (h := 0) (j := 0) (by decide) (by decide)) rfl rfl 7 (by decide) kw197 rfl rfl dX9_keep_32 ?_
    refine aw_istore_n (pc := 35) (i := 2) hC dX9_keep_35 rfl rfl (by decide) ?_
    refine aw_aload_n (pc := 36) (i := 0) hC dX9_keep_36 rfl rfl ?_
    refine aw_get (pc := 37) hC inX9 (v0 (j := 0) (by decide)) rfl rfl 4 (by decide) kw280 rfl rfl dX9_keep_37 ?_
    refine aw_iload_n (pc := 40) (i := 1) hC dX9_keep_40 rfl rfl ?_
    refine aw_putIN (pc := 41) hC inX2 (vH (h := 0) (j := 0) (by decide) (by decide)) rfl rfl 7 (by decide) kw197 rfl tyX2 tyX2_ok nmX2 rfl rfl (Nat.le_of_ble_eq_true rfl) rfl dX9_keep_41 (fun μ3 => ?_)
    refine aw_iload_n (pc := 44) (i := 2) hC dX9_keep_44 rfl rfl ?_
    exact aw_iretX hC dX9_keep_45
theorem dX9_masons_0 : decode cX9_masons 0 = .ok (.iload_n 1, 1) := by decide +kernel
theorem dX9_masons_1 : decode cX9_masons 1 = .ok (.ifCond .lt 9, 3) := by decide +kernel
theorem dX9_masons_4 : decode cX9_masons 4 = .ok (.iload_n 1, 1) := by decide +kernel
theorem dX9_masons_5 : decode cX9_masons 5 = .ok (.bipush 9, 2) := by decide +kernel
theorem dX9_masons_7 : decode cX9_masons 7 = .ok (.if_icmp .le 13, 3) := by decide +kernel
theorem dX9_masons_10 : decode cX9_masons 10 = .ok (.new 93, 3) := by decide +kernel
theorem dX9_masons_13 : decode cX9_masons 13 = .ok (.dup, 1) := by decide +kernel
theorem dX9_masons_14 : decode cX9_masons 14 = .ok (.ldc 245, 2) := by decide +kernel
theorem dX9_masons_16 : decode cX9_masons 16 = .ok (.invokespecial 97, 3) := by decide +kernel
theorem dX9_masons_19 : decode cX9_masons 19 = .ok (.athrow, 1) := by decide +kernel
theorem dX9_masons_20 : decode cX9_masons 20 = .ok (.aload_n 0, 1) := by decide +kernel
theorem dX9_masons_21 : decode cX9_masons 21 = .ok (.getfield 55, 3) := by decide +kernel
theorem dX9_masons_24 : decode cX9_masons 24 = .ok (.aload_n 0, 1) := by decide +kernel
theorem dX9_masons_25 : decode cX9_masons 25 = .ok (.getfield 42, 3) := by decide +kernel
theorem dX9_masons_28 : decode cX9_masons 28 = .ok (.invokevirtual 222, 3) := by decide +kernel
theorem dX9_masons_31 : decode cX9_masons 31 = .ok (.aload_n 0, 1) := by decide +kernel
theorem dX9_masons_32 : decode cX9_masons 32 = .ok (.getfield 42, 3) := by decide +kernel
theorem dX9_masons_35 : decode cX9_masons 35 = .ok (.getfield 247, 3) := by decide +kernel
theorem dX9_masons_38 : decode cX9_masons 38 = .ok (.istore_n 2, 1) := by decide +kernel
theorem dX9_masons_39 : decode cX9_masons 39 = .ok (.aload_n 0, 1) := by decide +kernel
theorem dX9_masons_40 : decode cX9_masons 40 = .ok (.getfield 42, 3) := by decide +kernel
theorem dX9_masons_43 : decode cX9_masons 43 = .ok (.iload_n 1, 1) := by decide +kernel
theorem dX9_masons_44 : decode cX9_masons 44 = .ok (.putfield 247, 3) := by decide +kernel
theorem dX9_masons_47 : decode cX9_masons 47 = .ok (.iload_n 2, 1) := by decide +kernel
theorem dX9_masons_48 : decode cX9_masons 48 = .ok (.ireturn, 1) := by decide +kernel
def f_X9_masons (μ : Mem) (a1 : Int32) : Option (Nat × Int32 × Mem) := nm (some (1, 0, μ)) fun (J10 : Option (Nat × Int32 × Mem)) => if a1 < 0 then (J10) else (if a1 ≤ 9 then ((f_X6_remember 0 μ).bind fun (q1 : Mem) => nm (upm q1 1 0 9 a1) fun (μ2 : Mem) => some (0, (q1 1 0 9), μ2)) else (J10))
set_option maxHeartbeats 4000000 in
set_option maxRecDepth 100000 in
theorem c_X9_masons (G : GG) (l : Launch) (hl0 : l.stackTraces = false) (μ : Mem) (a1 : Int32) : CXT G l yX9_masons (.code yX9_masons cX9_masons 3 (some .int)) 5 [.ref (gad G 0 0), .int a1] μ (f_X9_masons μ a1) := by
  refine CXT.of (own := "SaturdayKeep") (L0 := [some (.ref (gad G 0 0)), some (.int a1), none]) hl0 rfl rfl rfl (Nat.le_of_ble_eq_true rfl) (fun C hl1 hl hout hcs hC => ?_)
  subst hl1
  delta f_X9_masons
  refine aw_iload_n (pc := 0) (i := 1) hC dX9_masons_0 rfl rfl ?_
  refine aw_nmJ (fun (J10 : Option (Nat × Int32 × Mem)) => AW G C (qX G C) 0 0 3 μ 10 [none, none, none] [] (J10)) ?_ (fun J10 hJ10 => ?_)
  · skip
    exact aw_throw (k := 1) (i := 35) hC hl hout hcs rfl rfl kw745 kw21 thr1_97 (by decide) (by decide) (Nat.le_of_ble_eq_true rfl) dX9_masons_10 dX9_masons_13 dX9_masons_14 dX9_masons_16 dX9_masons_19
  · skip
    refine aw_if_lt (pc := 1) (tgt := 10) hC dX9_masons_1 (by decide) (fun _ => ?_) (fun _ => ?_)
    · skip
      exact aw_drop [0, 1] (hJ10)
    · skip
      refine aw_iload_n (pc := 4) (i := 1) hC dX9_masons_4 rfl rfl ?_
      refine aw_bipush (pc := 5) (v := 9) hC dX9_masons_5 bc9 ?_
      refine aw_icmp_le (pc := 7) (tgt := 20) hC dX9_masons_7 (by decide) (fun _ => ?_) (fun _ => ?_)
      · skip
        refine aw_aload_n (pc := 20) (i := 0) hC dX9_masons_20 rfl rfl ?_
        refine aw_get (pc := 21) hC inX9 (v0 (j := 0) (by decide)) rfl rfl 7 (by decide) kw283 rfl rfl dX9_masons_21 ?_
        refine aw_aload_n (pc := 24) (i := 0) hC dX9_masons_24 rfl rfl ?_
        refine aw_get (pc := 25) hC inX9 (v0 (j := 0) (by decide)) rfl rfl 4 (by decide) kw280 rfl rfl dX9_masons_25 ?_
        refine aw_callVV (pc := 28) (As := [.ref (gad G 1 0)]) hC mb_X6_remember kw985 (by decide) (c_X6_remember G C.2.1 0 (by decide) μ ) (v0 (j := 9) (by decide)) rfl rfl rfl (Nat.le_of_ble_eq_true rfl) dX9_masons_28 (fun q1 => ?_)
        refine aw_aload_n (pc := 31) (i := 0) hC dX9_masons_31 rfl rfl ?_
        refine aw_get (pc := 32) hC inX9 (v0 (j := 0) (by decide)) rfl rfl 4 (by decide) kw280 rfl rfl dX9_masons_32 ?_
        refine aw_get (pc := 35) hC inX2 (vH (h := 0) (j := 0) (by decide) (by decide)) rfl rfl 9 (by decide) kw203 rfl rfl dX9_masons_35 ?_
        refine aw_istore_n (pc := 38) (i := 2) hC dX9_masons_38 rfl rfl (by decide) ?_
        refine aw_aload_n (pc := 39) (i := 0) hC dX9_masons_39 rfl rfl ?_
        refine aw_get (pc := 40) hC inX9 (v0 (j := 0) (by decide)) rfl rfl 4 (by decide) kw280 rfl rfl dX9_masons_40 ?_
        refine aw_iload_n (pc := 43) (i := 1) hC dX9_masons_43 rfl rfl ?_
        refine aw_putIN (pc := 44) hC inX2 (vH (h := 0) (j := 0) (by decide) (by decide)) rfl rfl 9 (by decide) kw203 rfl tyX2 tyX2_ok nmX2 rfl rfl (Nat.le_of_ble_eq_true rfl) rfl dX9_masons_44 (fun μ2 => ?_)
        refine aw_iload_n (pc := 47) (i := 2) hC dX9_masons_47 rfl rfl ?_
        exact aw_iretX hC dX9_masons_48
      · skip
        exact aw_drop [0, 1] (hJ10)
theorem dX9_buy_0 : decode cX9_buy 0 = .ok (.iload_n 1, 1) := by decide +kernel
theorem dX9_buy_1 : decode cX9_buy 1 = .ok (.iconst 1, 1) := by decide +kernel
theorem dX9_buy_2 : decode cX9_buy 2 = .ok (.if_icmp .lt 10, 3) := by decide +kernel
theorem dX9_buy_5 : decode cX9_buy 5 = .ok (.iload_n 1, 1) := by decide +kernel
theorem dX9_buy_6 : decode cX9_buy 6 = .ok (.sipush 999, 3) := by decide +kernel
theorem dX9_buy_9 : decode cX9_buy 9 = .ok (.if_icmp .le 13, 3) := by decide +kernel
theorem dX9_buy_12 : decode cX9_buy 12 = .ok (.new 93, 3) := by decide +kernel
theorem dX9_buy_15 : decode cX9_buy 15 = .ok (.dup, 1) := by decide +kernel
theorem dX9_buy_16 : decode cX9_buy 16 = .ok (.ldc 250, 2) := by decide +kernel
theorem dX9_buy_18 : decode cX9_buy 18 = .ok (.invokespecial 97, 3) := by decide +kernel
theorem dX9_buy_21 : decode cX9_buy 21 = .ok (.athrow, 1) := by decide +kernel
theorem dX9_buy_22 : decode cX9_buy 22 = .ok (.aload_n 0, 1) := by decide +kernel
theorem dX9_buy_23 : decode cX9_buy 23 = .ok (.getfield 55, 3) := by decide +kernel
theorem dX9_buy_26 : decode cX9_buy 26 = .ok (.aload_n 0, 1) := by decide +kernel
theorem dX9_buy_27 : decode cX9_buy 27 = .ok (.getfield 42, 3) := by decide +kernel
theorem dX9_buy_30 : decode cX9_buy 30 = .ok (.invokevirtual 222, 3) := by decide +kernel
theorem dX9_buy_33 : decode cX9_buy 33 = .ok (.aload_n 0, 1) := by decide +kernel
theorem dX9_buy_34 : decode cX9_buy 34 = .ok (.getfield 42, 3) := by decide +kernel
theorem dX9_buy_37 : decode cX9_buy 37 = .ok (.sipush 9999, 3) := by decide +kernel
theorem dX9_buy_40 : decode cX9_buy 40 = .ok (.aload_n 0, 1) := by decide +kernel
theorem dX9_buy_41 : decode cX9_buy 41 = .ok (.getfield 42, 3) := by decide +kernel
theorem dX9_buy_44 : decode cX9_buy 44 = .ok (.getfield 252, 3) := by decide +kernel
theorem dX9_buy_47 : decode cX9_buy 47 = .ok (.iload_n 1, 1) := by decide +kernel
theorem dX9_buy_48 : decode cX9_buy 48 = .ok (.iadd, 1) := by decide +kernel
theorem dX9_buy_49 : decode cX9_buy 49 = .ok (.invokestatic 255, 3) := by decide +kernel
theorem dX9_buy_52 : decode cX9_buy 52 = .ok (.putfield 252, 3) := by decide +kernel
theorem dX9_buy_55 : decode cX9_buy 55 = .ok (.aload_n 0, 1) := by decide +kernel
theorem dX9_buy_56 : decode cX9_buy 56 = .ok (.getfield 42, 3) := by decide +kernel
theorem dX9_buy_59 : decode cX9_buy 59 = .ok (.getfield 252, 3) := by decide +kernel
theorem dX9_buy_62 : decode cX9_buy 62 = .ok (.ireturn, 1) := by decide +kernel
def f_X9_buy (μ : Mem) (a1 : Int32) : Option (Nat × Int32 × Mem) := nm (some (1, 0, μ)) fun (J12 : Option (Nat × Int32 × Mem)) => if a1 < 1 then (J12) else (if a1 ≤ 999 then ((f_X6_remember 0 μ).bind fun (q1 : Mem) => nm (upm q1 1 0 10 (jmin 9999 ((q1 1 0 10) + a1))) fun (μ2 : Mem) => some (0, (μ2 1 0 10), μ2)) else (J12))
set_option maxHeartbeats 4000000 in
set_option maxRecDepth 100000 in
theorem c_X9_buy (G : GG) (l : Launch) (hl0 : l.stackTraces = false) (μ : Mem) (a1 : Int32) : CXT G l yX9_buy (.code yX9_buy cX9_buy 2 (some .int)) 5 [.ref (gad G 0 0), .int a1] μ (f_X9_buy μ a1) := by
  refine CXT.of (own := "SaturdayKeep") (L0 := [some (.ref (gad G 0 0)), some (.int a1)]) hl0 rfl rfl rfl (Nat.le_of_ble_eq_true rfl) (fun C hl1 hl hout hcs hC => ?_)
  subst hl1
  delta f_X9_buy
  refine aw_iload_n (pc := 0) (i := 1) hC dX9_buy_0 rfl rfl ?_
  refine aw_iconst (pc := 1) (v := 1) hC dX9_buy_1 ic1 ?_
  refine aw_nmJ (fun (J12 : Option (Nat × Int32 × Mem)) => AW G C (qX G C) 0 0 2 μ 12 [none, none] [] (J12)) ?_ (fun J12 hJ12 => ?_)
  · skip
    exact aw_throw (k := 1) (i := 36) hC hl hout hcs rfl rfl kw745 kw21 thr1_97 (by decide) (by decide) (Nat.le_of_ble_eq_true rfl) dX9_buy_12 dX9_buy_15 dX9_buy_16 dX9_buy_18 dX9_buy_21
  · skip
    refine aw_icmp_lt (pc := 2) (tgt := 12) hC dX9_buy_2 (by decide) (fun _ => ?_) (fun _ => ?_)
    · skip
      exact aw_drop [0, 1] (hJ12)
    · skip
      refine aw_iload_n (pc := 5) (i := 1) hC dX9_buy_5 rfl rfl ?_
      refine aw_sipush (pc := 6) (v := 999) hC dX9_buy_6 sc999 ?_
      refine aw_icmp_le (pc := 9) (tgt := 22) hC dX9_buy_9 (by decide) (fun _ => ?_) (fun _ => ?_)
      · skip
        refine aw_aload_n (pc := 22) (i := 0) hC dX9_buy_22 rfl rfl ?_
        refine aw_get (pc := 23) hC inX9 (v0 (j := 0) (by decide)) rfl rfl 7 (by decide) kw283 rfl rfl dX9_buy_23 ?_
        refine aw_aload_n (pc := 26) (i := 0) hC dX9_buy_26 rfl rfl ?_
        refine aw_get (pc := 27) hC inX9 (v0 (j := 0) (by decide)) rfl rfl 4 (by decide) kw280 rfl rfl dX9_buy_27 ?_
        refine aw_callVV (pc := 30) (As := [.ref (gad G 1 0)]) hC mb_X6_remember kw985 (by decide) (c_X6_remember G C.2.1 0 (by decide) μ ) (v0 (j := 9) (by decide)) rfl rfl rfl (Nat.le_of_ble_eq_true rfl) dX9_buy_30 (fun q1 => ?_)
        refine aw_aload_n (pc := 33) (i := 0) hC dX9_buy_33 rfl rfl ?_
        refine aw_get (pc := 34) hC inX9 (v0 (j := 0) (by decide)) rfl rfl 4 (by decide) kw280 rfl rfl dX9_buy_34 ?_
        refine aw_sipush (pc := 37) (v := 9999) hC dX9_buy_37 sc9999 ?_
        refine aw_aload_n (pc := 40) (i := 0) hC dX9_buy_40 rfl rfl ?_
        refine aw_get (pc := 41) hC inX9 (v0 (j := 0) (by decide)) rfl rfl 4 (by decide) kw280 rfl rfl dX9_buy_41 ?_
        refine aw_get (pc := 44) hC inX2 (vH (h := 0) (j := 0) (by decide) (by decide)) rfl rfl 10 (by decide) kw206 rfl rfl dX9_buy_44 ?_
        refine aw_iload_n (pc := 47) (i := 1) hC dX9_buy_47 rfl rfl ?_
        refine aw_iadd (pc := 48) hC dX9_buy_48 ?_
        refine aw_mmin (pc := 49) hC kw516 kw367 kw12 kw368 (by decide) (Nat.le_of_ble_eq_true rfl) dX9_buy_49 ?_
        refine aw_putIN (pc := 52) hC inX2 (vH (h := 0) (j := 0) (by decide) (by decide)) rfl rfl 10 (by decide) kw206 rfl tyX2 tyX2_ok nmX2 rfl rfl (Nat.le_of_ble_eq_true rfl) rfl dX9_buy_52 (fun μ2 => ?_)
        refine aw_aload_n (pc := 55) (i := 0) hC dX9_buy_55 rfl rfl ?_
        refine aw_get (pc := 56) hC inX9 (v0 (j := 0) (by decide)) rfl rfl 4 (by decide) kw280 rfl rfl dX9_buy_56 ?_
        refine aw_get (pc := 59) hC inX2 (vH (h := 0) (j := 0) (by decide) (by decide)) rfl rfl 10 (by decide) kw206 rfl rfl dX9_buy_59 ?_
        exact aw_iretX hC dX9_buy_62
      · skip
        exact aw_drop [0, 1] (hJ12)
theorem dX9_calm_0 : decode cX9_calm 0 = .ok (.aload_n 0, 1) := by decide +kernel
theorem dX9_calm_1 : decode cX9_calm 1 = .ok (.iload_n 1, 1) := by decide +kernel
theorem dX9_calm_2 : decode cX9_calm 2 = .ok (.invokevirtual 130, 3) := by decide +kernel
theorem dX9_calm_5 : decode cX9_calm 5 = .ok (.ifCond .ne 13, 3) := by decide +kernel
theorem dX9_calm_8 : decode cX9_calm 8 = .ok (.new 134, 3) := by decide +kernel
theorem dX9_calm_11 : decode cX9_calm 11 = .ok (.dup, 1) := by decide +kernel
theorem dX9_calm_12 : decode cX9_calm 12 = .ok (.ldc 136, 2) := by decide +kernel
theorem dX9_calm_14 : decode cX9_calm 14 = .ok (.invokespecial 138, 3) := by decide +kernel
theorem dX9_calm_17 : decode cX9_calm 17 = .ok (.athrow, 1) := by decide +kernel
theorem dX9_calm_18 : decode cX9_calm 18 = .ok (.aload_n 0, 1) := by decide +kernel
theorem dX9_calm_19 : decode cX9_calm 19 = .ok (.getfield 55, 3) := by decide +kernel
theorem dX9_calm_22 : decode cX9_calm 22 = .ok (.aload_n 0, 1) := by decide +kernel
theorem dX9_calm_23 : decode cX9_calm 23 = .ok (.getfield 42, 3) := by decide +kernel
theorem dX9_calm_26 : decode cX9_calm 26 = .ok (.invokevirtual 222, 3) := by decide +kernel
theorem dX9_calm_29 : decode cX9_calm 29 = .ok (.aload_n 0, 1) := by decide +kernel
theorem dX9_calm_30 : decode cX9_calm 30 = .ok (.getfield 42, 3) := by decide +kernel
theorem dX9_calm_33 : decode cX9_calm 33 = .ok (.getfield 139, 3) := by decide +kernel
theorem dX9_calm_36 : decode cX9_calm 36 = .ok (.iload_n 1, 1) := by decide +kernel
theorem dX9_calm_37 : decode cX9_calm 37 = .ok (.aload_n 0, 1) := by decide +kernel
theorem dX9_calm_38 : decode cX9_calm 38 = .ok (.getfield 42, 3) := by decide +kernel
theorem dX9_calm_41 : decode cX9_calm 41 = .ok (.getfield 139, 3) := by decide +kernel
theorem dX9_calm_44 : decode cX9_calm 44 = .ok (.iload_n 1, 1) := by decide +kernel
theorem dX9_calm_45 : decode cX9_calm 45 = .ok (.invokevirtual 152, 3) := by decide +kernel
theorem dX9_calm_48 : decode cX9_calm 48 = .ok (.iconst 2, 1) := by decide +kernel
theorem dX9_calm_49 : decode cX9_calm 49 = .ok (.idiv, 1) := by decide +kernel
theorem dX9_calm_50 : decode cX9_calm 50 = .ok (.invokevirtual 261, 3) := by decide +kernel
theorem dX9_calm_53 : decode cX9_calm 53 = .ok (.aload_n 0, 1) := by decide +kernel
theorem dX9_calm_54 : decode cX9_calm 54 = .ok (.getfield 42, 3) := by decide +kernel
theorem dX9_calm_57 : decode cX9_calm 57 = .ok (.getfield 139, 3) := by decide +kernel
theorem dX9_calm_60 : decode cX9_calm 60 = .ok (.iload_n 1, 1) := by decide +kernel
theorem dX9_calm_61 : decode cX9_calm 61 = .ok (.invokevirtual 152, 3) := by decide +kernel
theorem dX9_calm_64 : decode cX9_calm 64 = .ok (.ireturn, 1) := by decide +kernel
def f_X9_calm (μ : Mem) (a1 : Int32) : Option (Nat × Int32 × Mem) := (f_X9_isGuest μ a1).bind fun (q1 : Int32) => if q1 = 0 then (some (3, 0, μ)) else ((f_X6_remember 0 μ).bind fun (q2 : Mem) => (f_X1_doubtOf 0 q2 a1).bind fun (q3 : Int32) => (f_X1_setDoubt 0 q2 a1 (q3 / 2)).bind fun (q4 : Mem) => (f_X1_doubtOf 0 q4 a1).bind fun (q5 : Int32) => some (0, q5, q4))
set_option maxHeartbeats 4000000 in
set_option maxRecDepth 100000 in
theorem c_X9_calm (G : GG) (l : Launch) (hl0 : l.stackTraces = false) (μ : Mem) (a1 : Int32) : CXT G l yX9_calm (.code yX9_calm cX9_calm 2 (some .int)) 5 [.ref (gad G 0 0), .int a1] μ (f_X9_calm μ a1) := by
  refine CXT.of (own := "SaturdayKeep") (L0 := [some (.ref (gad G 0 0)), some (.int a1)]) hl0 rfl rfl rfl (Nat.le_of_ble_eq_true rfl) (fun C hl1 hl hout hcs hC => ?_)
  subst hl1
  delta f_X9_calm
  refine aw_aload_n (pc := 0) (i := 0) hC dX9_calm_0 rfl rfl ?_
  refine aw_iload_n (pc := 1) (i := 1) hC dX9_calm_1 rfl rfl ?_
  refine aw_callVR (pc := 2) (As := [.int a1]) hC mb_X9_isGuest kw879 (by decide) (c_X9_isGuest G C.2.1   μ a1) (v0 (j := 0) (by decide)) rfl rfl rfl (Nat.le_of_ble_eq_true rfl) dX9_calm_2 (fun q1 => ?_)
  refine aw_if_ne (pc := 5) (tgt := 18) hC dX9_calm_5 (by decide) (fun _ => ?_) (fun _ => ?_)
  · skip
    exact aw_throw (k := 3) (i := 27) hC hl hout hcs rfl rfl kw883 kw23 thr3_138 (by decide) (by decide) (Nat.le_of_ble_eq_true rfl) dX9_calm_8 dX9_calm_11 dX9_calm_12 dX9_calm_14 dX9_calm_17
  · skip
    refine aw_aload_n (pc := 18) (i := 0) hC dX9_calm_18 rfl rfl ?_
    refine aw_get (pc := 19) hC inX9 (v0 (j := 0) (by decide)) rfl rfl 7 (by decide) kw283 rfl rfl dX9_calm_19 ?_
    refine aw_aload_n (pc := 22) (i := 0) hC dX9_calm_22 rfl rfl ?_
    refine aw_get (pc := 23) hC inX9 (v0 (j := 0) (by decide)) rfl rfl 4 (by decide) kw280 rfl rfl dX9_calm_23 ?_
    refine aw_callVV (pc := 26) (As := [.ref (gad G 1 0)]) hC mb_X6_remember kw985 (by decide) (c_X6_remember G C.2.1 0 (by decide) μ ) (v0 (j := 9) (by decide)) rfl rfl rfl (Nat.le_of_ble_eq_true rfl) dX9_calm_26 (fun q2 => ?_)
    refine aw_aload_n (pc := 29) (i := 0) hC dX9_calm_29 rfl rfl ?_
    refine aw_get (pc := 30) hC inX9 (v0 (j := 0) (by decide)) rfl rfl 4 (by decide) kw280 rfl rfl dX9_calm_30 ?_
    refine aw_get (pc := 33) hC inX2 (vH (h := 0) (j := 0) (by decide) (by decide)) rfl rfl 0 (by decide) kw186 rfl rfl dX9_calm_33 ?_
    refine aw_iload_n (pc := 36) (i := 1) hC dX9_calm_36 rfl rfl ?_
    refine aw_aload_n (pc := 37) (i := 0) hC dX9_calm_37 rfl rfl ?_
    refine aw_get (pc := 38) hC inX9 (v0 (j := 0) (by decide)) rfl rfl 4 (by decide) kw280 rfl rfl dX9_calm_38 ?_
    refine aw_get (pc := 41) hC inX2 (vH (h := 0) (j := 0) (by decide) (by decide)) rfl rfl 0 (by decide) kw186 rfl rfl dX9_calm_41 ?_
    refine aw_iload_n (pc := 44) (i := 1) hC dX9_calm_44 rfl rfl ?_
    refine aw_callVR (pc := 45) (As := [.int a1]) hC mb_X1_doubtOf kw899 (by decide) (c_X1_doubtOf G C.2.1 0 (by decide) q2 a1) (vH (h := 0) (j := 1) (by decide) (by decide)) rfl rfl rfl (Nat.le_of_ble_eq_true rfl) dX9_calm_45 (fun q3 => ?_)
    refine aw_iconst (pc := 48) (v := 2) hC dX9_calm_48 ic2 ?_
    refine aw_idiv (pc := 49) hC dX9_calm_49 (by decide) ?_
    refine aw_callVV (pc := 50) (As := [.int a1, .int (q3 / 2)]) hC mb_X1_setDoubt kw1054 (by decide) (c_X1_setDoubt G C.2.1 0 (by decide) q2 a1 (q3 / 2)) (vH (h := 0) (j := 1) (by decide) (by decide)) rfl rfl rfl (Nat.le_of_ble_eq_true rfl) dX9_calm_50 (fun q4 => ?_)
    refine aw_aload_n (pc := 53) (i := 0) hC dX9_calm_53 rfl rfl ?_
    refine aw_get (pc := 54) hC inX9 (v0 (j := 0) (by decide)) rfl rfl 4 (by decide) kw280 rfl rfl dX9_calm_54 ?_
    refine aw_get (pc := 57) hC inX2 (vH (h := 0) (j := 0) (by decide) (by decide)) rfl rfl 0 (by decide) kw186 rfl rfl dX9_calm_57 ?_
    refine aw_iload_n (pc := 60) (i := 1) hC dX9_calm_60 rfl rfl ?_
    refine aw_callVR (pc := 61) (As := [.int a1]) hC mb_X1_doubtOf kw899 (by decide) (c_X1_doubtOf G C.2.1 0 (by decide) q4 a1) (vH (h := 0) (j := 1) (by decide) (by decide)) rfl rfl rfl (Nat.le_of_ble_eq_true rfl) dX9_calm_61 (fun q5 => ?_)
    exact aw_iretX hC dX9_calm_64
theorem dX9_live_0 : decode cX9_live 0 = .ok (.aload_n 0, 1) := by decide +kernel
theorem dX9_live_1 : decode cX9_live 1 = .ok (.getfield 270, 3) := by decide +kernel
theorem dX9_live_4 : decode cX9_live 4 = .ok (.istore_n 2, 1) := by decide +kernel
theorem dX9_live_5 : decode cX9_live 5 = .ok (.iconst 0, 1) := by decide +kernel
theorem dX9_live_6 : decode cX9_live 6 = .ok (.istore_n 3, 1) := by decide +kernel
theorem dX9_live_7 : decode cX9_live 7 = .ok (.iload_n 3, 1) := by decide +kernel
theorem dX9_live_8 : decode cX9_live 8 = .ok (.iload_n 1, 1) := by decide +kernel
theorem dX9_live_9 : decode cX9_live 9 = .ok (.if_icmp .ge 13, 3) := by decide +kernel
theorem dX9_live_12 : decode cX9_live 12 = .ok (.aload_n 0, 1) := by decide +kernel
theorem dX9_live_13 : decode cX9_live 13 = .ok (.invokevirtual 273, 3) := by decide +kernel
theorem dX9_live_16 : decode cX9_live 16 = .ok (.iinc 3 1, 3) := by decide +kernel
theorem dX9_live_19 : decode cX9_live 19 = .ok (.goto (-12), 3) := by decide +kernel
theorem dX9_live_22 : decode cX9_live 22 = .ok (.aload_n 0, 1) := by decide +kernel
theorem dX9_live_23 : decode cX9_live 23 = .ok (.getfield 270, 3) := by decide +kernel
theorem dX9_live_26 : decode cX9_live 26 = .ok (.iload_n 2, 1) := by decide +kernel
theorem dX9_live_27 : decode cX9_live 27 = .ok (.isub, 1) := by decide +kernel
theorem dX9_live_28 : decode cX9_live 28 = .ok (.ireturn, 1) := by decide +kernel
def lp_X9_live_7 (a2 : Int32) (h : Nat) (μ : Mem) : Nat → Int32 → Mem → Option (Int32 × Mem)
  | 0, _, _ => none
  | n + 1, x1, μ2 => if a2 ≤ x1 then (some (((μ2 (h + 1) 0 14) - (μ (h + 1) 0 14)), μ2)) else ((f_X2_liveDay h μ2).bind fun (q3 : Mem) => lp_X9_live_7 a2 h μ n (x1 + 1) q3)
def f_X9_live (h : Nat) (μ : Mem) (a2 : Int32) : Option (Int32 × Mem) := lp_X9_live_7 a2 h μ 4096 0 μ
set_option maxHeartbeats 4000000 in
set_option maxRecDepth 100000 in
theorem c_X9_live (G : GG) (l : Launch) (h : Nat) (hh : h < 15) (μ : Mem) (a2 : Int32) : CI G l yX9_live (.code yX9_live cX9_live 4 (some .int)) 7 [.ref (gad G (h + 1) 0), .int a2] μ (f_X9_live h μ a2) := by
  refine CI.of (own := "SaturdayKeep") (L0 := [some (.ref (gad G (h + 1) 0)), some (.int a2), none, none]) rfl rfl rfl (Nat.le_of_ble_eq_true rfl) (fun C hl hC => ?_)
  subst hl
  delta f_X9_live
  refine aw_aload_n (pc := 0) (i := 0) hC dX9_live_0 rfl rfl ?_
  refine aw_get (pc := 1) hC inX2 (vH (j := 0) hh (by decide)) rfl rfl 14 (by decide) kw216 rfl rfl dX9_live_1 ?_
  refine aw_istore_n (pc := 4) (i := 2) hC dX9_live_4 rfl rfl (by decide) ?_
  refine aw_iconst (pc := 5) (v := 0) hC dX9_live_5 ic0 ?_
  refine aw_istore_n (pc := 6) (i := 3) hC dX9_live_6 rfl rfl (by decide) ?_
  have hL7 : ∀ (n : Nat) (x1 : Int32) (μ2 : Mem), AW G C (qI G C 0 0) 0 0 4 μ2 7 [some (.ref (gad G (h + 1) 0)), some (.int a2), some (.int (μ (h + 1) 0 14)), some (.int x1)] [] (lp_X9_live_7 a2 h μ n x1 μ2) := by
    intro n
    induction n with
    | zero => intro x1 μ2; exact aw_none
    | succ n ih =>
      intro x1 μ2
      rw [lp_X9_live_7]
      refine aw_iload_n (pc := 7) (i := 3) hC dX9_live_7 rfl rfl ?_
      refine aw_iload_n (pc := 8) (i := 1) hC dX9_live_8 rfl rfl ?_
      refine aw_icmp_ge (pc := 9) (tgt := 22) hC dX9_live_9 (by decide) (fun _ => ?_) (fun _ => ?_)
      · skip
        refine aw_aload_n (pc := 22) (i := 0) hC dX9_live_22 rfl rfl ?_
        refine aw_get (pc := 23) hC inX2 (vH (j := 0) hh (by decide)) rfl rfl 14 (by decide) kw216 rfl rfl dX9_live_23 ?_
        refine aw_iload_n (pc := 26) (i := 2) hC dX9_live_26 rfl rfl ?_
        refine aw_isub (pc := 27) hC dX9_live_27 ?_
        exact aw_iret hC dX9_live_28
      · skip
        refine aw_aload_n (pc := 12) (i := 0) hC dX9_live_12 rfl rfl ?_
        refine aw_callVV (pc := 13) (As := []) hC mb_X2_liveDay kw1071 (by decide) (c_X2_liveDay G C.2.1 h (Nat.lt_of_lt_of_le hh (by decide)) μ2 ) (vH (j := 0) hh (by decide)) rfl rfl rfl (Nat.le_of_ble_eq_true rfl) dX9_live_13 (fun q3 => ?_)
        refine aw_iinc (pc := 16) (v := x1 + 1) hC dX9_live_16 rfl (congrArg (HAdd.hAdd _) ic1) rfl (by decide) ?_
        refine aw_goto (pc := 19) (tgt := 7) hC dX9_live_19 (by decide) ?_
        exact ih (x1 + 1) q3
  exact hL7 4096 0 μ
theorem dX9_days_0 : decode cX9_days 0 = .ok (.iload_n 1, 1) := by decide +kernel
theorem dX9_days_1 : decode cX9_days 1 = .ok (.iconst 1, 1) := by decide +kernel
theorem dX9_days_2 : decode cX9_days 2 = .ok (.if_icmp .lt 9, 3) := by decide +kernel
theorem dX9_days_5 : decode cX9_days 5 = .ok (.iload_n 1, 1) := by decide +kernel
theorem dX9_days_6 : decode cX9_days 6 = .ok (.bipush 60, 2) := by decide +kernel
theorem dX9_days_8 : decode cX9_days 8 = .ok (.if_icmp .le 14, 3) := by decide +kernel
theorem dX9_days_11 : decode cX9_days 11 = .ok (.new 93, 3) := by decide +kernel
theorem dX9_days_14 : decode cX9_days 14 = .ok (.dup, 1) := by decide +kernel
theorem dX9_days_15 : decode cX9_days 15 = .ok (.ldc_w 264, 3) := by decide +kernel
theorem dX9_days_18 : decode cX9_days 18 = .ok (.invokespecial 97, 3) := by decide +kernel
theorem dX9_days_21 : decode cX9_days 21 = .ok (.athrow, 1) := by decide +kernel
theorem dX9_days_22 : decode cX9_days 22 = .ok (.aload_n 0, 1) := by decide +kernel
theorem dX9_days_23 : decode cX9_days 23 = .ok (.getfield 55, 3) := by decide +kernel
theorem dX9_days_26 : decode cX9_days 26 = .ok (.aload_n 0, 1) := by decide +kernel
theorem dX9_days_27 : decode cX9_days 27 = .ok (.getfield 42, 3) := by decide +kernel
theorem dX9_days_30 : decode cX9_days 30 = .ok (.invokevirtual 222, 3) := by decide +kernel
theorem dX9_days_33 : decode cX9_days 33 = .ok (.aload_n 0, 1) := by decide +kernel
theorem dX9_days_34 : decode cX9_days 34 = .ok (.getfield 42, 3) := by decide +kernel
theorem dX9_days_37 : decode cX9_days 37 = .ok (.iload_n 1, 1) := by decide +kernel
theorem dX9_days_38 : decode cX9_days 38 = .ok (.invokestatic 266, 3) := by decide +kernel
theorem dX9_days_41 : decode cX9_days 41 = .ok (.ireturn, 1) := by decide +kernel
def f_X9_days (μ : Mem) (a1 : Int32) : Option (Nat × Int32 × Mem) := nm (some (1, 0, μ)) fun (J11 : Option (Nat × Int32 × Mem)) => if a1 < 1 then (J11) else (if a1 ≤ 60 then ((f_X6_remember 0 μ).bind fun (q1 : Mem) => (f_X9_live 0 q1 a1).bind fun (q2 : Int32 × Mem) => some (0, q2.1, q2.2)) else (J11))
set_option maxHeartbeats 4000000 in
set_option maxRecDepth 100000 in
theorem c_X9_days (G : GG) (l : Launch) (hl0 : l.stackTraces = false) (μ : Mem) (a1 : Int32) : CXT G l yX9_days (.code yX9_days cX9_days 2 (some .int)) 8 [.ref (gad G 0 0), .int a1] μ (f_X9_days μ a1) := by
  refine CXT.of (own := "SaturdayKeep") (L0 := [some (.ref (gad G 0 0)), some (.int a1)]) hl0 rfl rfl rfl (Nat.le_of_ble_eq_true rfl) (fun C hl1 hl hout hcs hC => ?_)
  subst hl1
  delta f_X9_days
  refine aw_iload_n (pc := 0) (i := 1) hC dX9_days_0 rfl rfl ?_
  refine aw_iconst (pc := 1) (v := 1) hC dX9_days_1 ic1 ?_
  refine aw_nmJ (fun (J11 : Option (Nat × Int32 × Mem)) => AW G C (qX G C) 0 0 2 μ 11 [none, none] [] (J11)) ?_ (fun J11 hJ11 => ?_)
  · skip
    exact aw_throwW (k := 1) (i := 37) hC hl hout hcs rfl rfl kw745 kw21 thr1_97 (by decide) (by decide) (Nat.le_of_ble_eq_true rfl) dX9_days_11 dX9_days_14 dX9_days_15 dX9_days_18 dX9_days_21
  · skip
    refine aw_icmp_lt (pc := 2) (tgt := 11) hC dX9_days_2 (by decide) (fun _ => ?_) (fun _ => ?_)
    · skip
      exact aw_drop [0, 1] (hJ11)
    · skip
      refine aw_iload_n (pc := 5) (i := 1) hC dX9_days_5 rfl rfl ?_
      refine aw_bipush (pc := 6) (v := 60) hC dX9_days_6 bc60 ?_
      refine aw_icmp_le (pc := 8) (tgt := 22) hC dX9_days_8 (by decide) (fun _ => ?_) (fun _ => ?_)
      · skip
        refine aw_aload_n (pc := 22) (i := 0) hC dX9_days_22 rfl rfl ?_
        refine aw_get (pc := 23) hC inX9 (v0 (j := 0) (by decide)) rfl rfl 7 (by decide) kw283 rfl rfl dX9_days_23 ?_
        refine aw_aload_n (pc := 26) (i := 0) hC dX9_days_26 rfl rfl ?_
        refine aw_get (pc := 27) hC inX9 (v0 (j := 0) (by decide)) rfl rfl 4 (by decide) kw280 rfl rfl dX9_days_27 ?_
        refine aw_callVV (pc := 30) (As := [.ref (gad G 1 0)]) hC mb_X6_remember kw985 (by decide) (c_X6_remember G C.2.1 0 (by decide) μ ) (v0 (j := 9) (by decide)) rfl rfl rfl (Nat.le_of_ble_eq_true rfl) dX9_days_30 (fun q1 => ?_)
        refine aw_aload_n (pc := 33) (i := 0) hC dX9_days_33 rfl rfl ?_
        refine aw_get (pc := 34) hC inX9 (v0 (j := 0) (by decide)) rfl rfl 4 (by decide) kw280 rfl rfl dX9_days_34 ?_
        refine aw_iload_n (pc := 37) (i := 1) hC dX9_days_37 rfl rfl ?_
        refine aw_callSI (pc := 38) (As := [.ref (gad G 1 0), .int a1]) hC ms_X9_live kw1068 (by decide) (c_X9_live G C.2.1 0 (by decide) q1 a1) rfl (Nat.le_of_ble_eq_true rfl) dX9_days_38 (fun q2 => ?_)
        exact aw_iretX hC dX9_days_41
      · skip
        exact aw_drop [0, 1] (hJ11)
theorem dX9_ahead_0 : decode cX9_ahead 0 = .ok (.aload_n 0, 1) := by decide +kernel
theorem dX9_ahead_1 : decode cX9_ahead 1 = .ok (.iload_n 1, 1) := by decide +kernel
theorem dX9_ahead_2 : decode cX9_ahead 2 = .ok (.invokevirtual 130, 3) := by decide +kernel
theorem dX9_ahead_5 : decode cX9_ahead 5 = .ok (.ifCond .ne 13, 3) := by decide +kernel
theorem dX9_ahead_8 : decode cX9_ahead 8 = .ok (.new 134, 3) := by decide +kernel
theorem dX9_ahead_11 : decode cX9_ahead 11 = .ok (.dup, 1) := by decide +kernel
theorem dX9_ahead_12 : decode cX9_ahead 12 = .ok (.ldc 136, 2) := by decide +kernel
theorem dX9_ahead_14 : decode cX9_ahead 14 = .ok (.invokespecial 138, 3) := by decide +kernel
theorem dX9_ahead_17 : decode cX9_ahead 17 = .ok (.athrow, 1) := by decide +kernel
theorem dX9_ahead_18 : decode cX9_ahead 18 = .ok (.iload_n 2, 1) := by decide +kernel
theorem dX9_ahead_19 : decode cX9_ahead 19 = .ok (.invokestatic 276, 3) := by decide +kernel
theorem dX9_ahead_22 : decode cX9_ahead 22 = .ok (.ifCond .ne 14, 3) := by decide +kernel
theorem dX9_ahead_25 : decode cX9_ahead 25 = .ok (.new 93, 3) := by decide +kernel
theorem dX9_ahead_28 : decode cX9_ahead 28 = .ok (.dup, 1) := by decide +kernel
theorem dX9_ahead_29 : decode cX9_ahead 29 = .ok (.ldc_w 264, 3) := by decide +kernel
theorem dX9_ahead_32 : decode cX9_ahead 32 = .ok (.invokespecial 97, 3) := by decide +kernel
theorem dX9_ahead_35 : decode cX9_ahead 35 = .ok (.athrow, 1) := by decide +kernel
theorem dX9_ahead_36 : decode cX9_ahead 36 = .ok (.iload_n 3, 1) := by decide +kernel
theorem dX9_ahead_37 : decode cX9_ahead 37 = .ok (.ifCond .lt 8, 3) := by decide +kernel
theorem dX9_ahead_40 : decode cX9_ahead 40 = .ok (.iload_n 3, 1) := by decide +kernel
theorem dX9_ahead_41 : decode cX9_ahead 41 = .ok (.iconst 2, 1) := by decide +kernel
theorem dX9_ahead_42 : decode cX9_ahead 42 = .ok (.if_icmp .le 14, 3) := by decide +kernel
theorem dX9_ahead_45 : decode cX9_ahead 45 = .ok (.new 177, 3) := by decide +kernel
theorem dX9_ahead_48 : decode cX9_ahead 48 = .ok (.dup, 1) := by decide +kernel
theorem dX9_ahead_49 : decode cX9_ahead 49 = .ok (.ldc_w 279, 3) := by decide +kernel
theorem dX9_ahead_52 : decode cX9_ahead 52 = .ok (.invokespecial 181, 3) := by decide +kernel
theorem dX9_ahead_55 : decode cX9_ahead 55 = .ok (.athrow, 1) := by decide +kernel
theorem dX9_ahead_56 : decode cX9_ahead 56 = .ok (.aload_n 0, 1) := by decide +kernel
theorem dX9_ahead_57 : decode cX9_ahead 57 = .ok (.getfield 46, 3) := by decide +kernel
theorem dX9_ahead_60 : decode cX9_ahead 60 = .ok (.aload_n 0, 1) := by decide +kernel
theorem dX9_ahead_61 : decode cX9_ahead 61 = .ok (.getfield 42, 3) := by decide +kernel
theorem dX9_ahead_64 : decode cX9_ahead 64 = .ok (.invokevirtual 82, 3) := by decide +kernel
theorem dX9_ahead_67 : decode cX9_ahead 67 = .ok (.iconst 0, 1) := by decide +kernel
theorem dX9_ahead_68 : decode cX9_ahead 68 = .ok (.istore 4, 2) := by decide +kernel
theorem dX9_ahead_70 : decode cX9_ahead 70 = .ok (.iload 4, 2) := by decide +kernel
theorem dX9_ahead_72 : decode cX9_ahead 72 = .ok (.iload_n 2, 1) := by decide +kernel
theorem dX9_ahead_73 : decode cX9_ahead 73 = .ok (.if_icmp .ge 19, 3) := by decide +kernel
theorem dX9_ahead_76 : decode cX9_ahead 76 = .ok (.aload_n 0, 1) := by decide +kernel
theorem dX9_ahead_77 : decode cX9_ahead 77 = .ok (.getfield 46, 3) := by decide +kernel
theorem dX9_ahead_80 : decode cX9_ahead 80 = .ok (.iconst 1, 1) := by decide +kernel
theorem dX9_ahead_81 : decode cX9_ahead 81 = .ok (.iload_n 1, 1) := by decide +kernel
theorem dX9_ahead_82 : decode cX9_ahead 82 = .ok (.ishl, 1) := by decide +kernel
theorem dX9_ahead_83 : decode cX9_ahead 83 = .ok (.invokevirtual 281, 3) := by decide +kernel
theorem dX9_ahead_86 : decode cX9_ahead 86 = .ok (.iinc 4 1, 3) := by decide +kernel
theorem dX9_ahead_89 : decode cX9_ahead 89 = .ok (.goto (-19), 3) := by decide +kernel
theorem dX9_ahead_92 : decode cX9_ahead 92 = .ok (.iload_n 3, 1) := by decide +kernel
theorem dX9_ahead_93 : decode cX9_ahead 93 = .ok (.lookupswitch 47 #[(0, 27), (1, 39)], 27) := by decide +kernel
theorem dX9_ahead_120 : decode cX9_ahead 120 = .ok (.aload_n 0, 1) := by decide +kernel
theorem dX9_ahead_121 : decode cX9_ahead 121 = .ok (.getfield 46, 3) := by decide +kernel
theorem dX9_ahead_124 : decode cX9_ahead 124 = .ok (.getfield 139, 3) := by decide +kernel
theorem dX9_ahead_127 : decode cX9_ahead 127 = .ok (.iload_n 1, 1) := by decide +kernel
theorem dX9_ahead_128 : decode cX9_ahead 128 = .ok (.invokevirtual 152, 3) := by decide +kernel
theorem dX9_ahead_131 : decode cX9_ahead 131 = .ok (.ireturn, 1) := by decide +kernel
theorem dX9_ahead_132 : decode cX9_ahead 132 = .ok (.aload_n 0, 1) := by decide +kernel
theorem dX9_ahead_133 : decode cX9_ahead 133 = .ok (.getfield 46, 3) := by decide +kernel
theorem dX9_ahead_136 : decode cX9_ahead 136 = .ok (.getfield 284, 3) := by decide +kernel
theorem dX9_ahead_139 : decode cX9_ahead 139 = .ok (.ireturn, 1) := by decide +kernel
theorem dX9_ahead_140 : decode cX9_ahead 140 = .ok (.aload_n 0, 1) := by decide +kernel
theorem dX9_ahead_141 : decode cX9_ahead 141 = .ok (.getfield 46, 3) := by decide +kernel
theorem dX9_ahead_144 : decode cX9_ahead 144 = .ok (.getfield 252, 3) := by decide +kernel
theorem dX9_ahead_147 : decode cX9_ahead 147 = .ok (.ireturn, 1) := by decide +kernel
def lp_X9_ahead_70 (a1 : Int32) (a2 : Int32) (k92 : Mem → Option (Nat × Int32 × Mem)) : Nat → Int32 → Mem → Option (Nat × Int32 × Mem)
  | 0, _, _ => none
  | n + 1, x5, μ6 => if a2 ≤ x5 then (k92 μ6) else ((f_X2_foreseeDay 1 μ6 (jshl 1 a1)).bind fun (q7 : Mem) => lp_X9_ahead_70 a1 a2 k92 n (x5 + 1) q7)
def f_X9_ahead (μ : Mem) (a1 : Int32) (a2 : Int32) (a3 : Int32) : Option (Nat × Int32 × Mem) := (f_X9_isGuest μ a1).bind fun (q1 : Int32) => if q1 = 0 then (some (3, 0, μ)) else ((f_X9_isFar a2).bind fun (q2 : Int32) => if q2 = 0 then (some (1, 0, μ)) else (nm (some (4, 0, μ)) fun (J45 : Option (Nat × Int32 × Mem)) => if a3 < 0 then (J45) else (if a3 ≤ 2 then ((f_X2_copy 1 0 μ).bind fun (q3 : Mem) => lp_X9_ahead_70 a1 a2 (fun (μ4 : Mem) => if a3 = 0 then ((f_X1_doubtOf 1 μ4 a1).bind fun (q8 : Int32) => some (0, q8, μ4)) else (if a3 = 1 then (some (0, (μ4 2 0 11), μ4)) else (some (0, (μ4 2 0 10), μ4)))) 4096 0 q3) else (J45))))
set_option maxHeartbeats 4000000 in
set_option maxRecDepth 100000 in
theorem c_X9_ahead (G : GG) (l : Launch) (hl0 : l.stackTraces = false) (μ : Mem) (a1 : Int32) (a2 : Int32) (a3 : Int32) : CXT G l yX9_ahead (.code yX9_ahead cX9_ahead 5 (some .int)) 6 [.ref (gad G 0 0), .int a1, .int a2, .int a3] μ (f_X9_ahead μ a1 a2 a3) := by
  refine CXT.of (own := "SaturdayKeep") (L0 := [some (.ref (gad G 0 0)), some (.int a1), some (.int a2), some (.int a3), none]) hl0 rfl rfl rfl (Nat.le_of_ble_eq_true rfl) (fun C hl1 hl hout hcs hC => ?_)
  subst hl1
  delta f_X9_ahead
  refine aw_aload_n (pc := 0) (i := 0) hC dX9_ahead_0 rfl rfl ?_
  refine aw_iload_n (pc := 1) (i := 1) hC dX9_ahead_1 rfl rfl ?_
  refine aw_callVR (pc := 2) (As := [.int a1]) hC mb_X9_isGuest kw879 (by decide) (c_X9_isGuest G C.2.1   μ a1) (v0 (j := 0) (by decide)) rfl rfl rfl (Nat.le_of_ble_eq_true rfl) dX9_ahead_2 (fun q1 => ?_)
  refine aw_if_ne (pc := 5) (tgt := 18) hC dX9_ahead_5 (by decide) (fun _ => ?_) (fun _ => ?_)
  · skip
    exact aw_throw (k := 3) (i := 27) hC hl hout hcs rfl rfl kw883 kw23 thr3_138 (by decide) (by decide) (Nat.le_of_ble_eq_true rfl) dX9_ahead_8 dX9_ahead_11 dX9_ahead_12 dX9_ahead_14 dX9_ahead_17
  · skip
    refine aw_iload_n (pc := 18) (i := 2) hC dX9_ahead_18 rfl rfl ?_
    refine aw_callSR (pc := 19) (As := [.int a2]) hC ms_X9_isFar kw1110 (by decide) (c_X9_isFar G C.2.1   μ a2) rfl (Nat.le_of_ble_eq_true rfl) dX9_ahead_19 (fun q2 => ?_)
    refine aw_if_ne (pc := 22) (tgt := 36) hC dX9_ahead_22 (by decide) (fun _ => ?_) (fun _ => ?_)
    · skip
      exact aw_throwW (k := 1) (i := 37) hC hl hout hcs rfl rfl kw745 kw21 thr1_97 (by decide) (by decide) (Nat.le_of_ble_eq_true rfl) dX9_ahead_25 dX9_ahead_28 dX9_ahead_29 dX9_ahead_32 dX9_ahead_35
    · skip
      refine aw_iload_n (pc := 36) (i := 3) hC dX9_ahead_36 rfl rfl ?_
      refine aw_nmJ (fun (J45 : Option (Nat × Int32 × Mem)) => AW G C (qX G C) 0 0 5 μ 45 [none, none, none, none, none] [] (J45)) ?_ (fun J45 hJ45 => ?_)
      · skip
        exact aw_throwNW (k := 4) (i := 38) hC hl hout hcs rfl rfl kw926 kw25 thr4_181 (by decide) (by decide) (Nat.le_of_ble_eq_true rfl) dX9_ahead_45 dX9_ahead_48 dX9_ahead_49 dX9_ahead_52 dX9_ahead_55
      · skip
        refine aw_if_lt (pc := 37) (tgt := 45) hC dX9_ahead_37 (by decide) (fun _ => ?_) (fun _ => ?_)
        · skip
          exact aw_drop [0, 1, 2, 3] (hJ45)
        · skip
          refine aw_iload_n (pc := 40) (i := 3) hC dX9_ahead_40 rfl rfl ?_
          refine aw_iconst (pc := 41) (v := 2) hC dX9_ahead_41 ic2 ?_
          refine aw_icmp_le (pc := 42) (tgt := 56) hC dX9_ahead_42 (by decide) (fun _ => ?_) (fun _ => ?_)
          · skip
            refine aw_aload_n (pc := 56) (i := 0) hC dX9_ahead_56 rfl rfl ?_
            refine aw_get (pc := 57) hC inX9 (v0 (j := 0) (by decide)) rfl rfl 5 (by decide) kw281 rfl rfl dX9_ahead_57 ?_
            refine aw_aload_n (pc := 60) (i := 0) hC dX9_ahead_60 rfl rfl ?_
            refine aw_get (pc := 61) hC inX9 (v0 (j := 0) (by decide)) rfl rfl 4 (by decide) kw280 rfl rfl dX9_ahead_61 ?_
            refine aw_callVV (pc := 64) (As := [.ref (gad G 1 0)]) hC mb_X2_copy kw346 (by decide) (c_X2_copy G C.2.1 1 0 (by decide) (by decide) μ ) (vH (h := 1) (j := 0) (by decide) (by decide)) rfl rfl rfl (Nat.le_of_ble_eq_true rfl) dX9_ahead_64 (fun q3 => ?_)
            refine aw_iconst (pc := 67) (v := 0) hC dX9_ahead_67 ic0 ?_
            refine aw_istore (pc := 68) hC dX9_ahead_68 rfl (by decide) ?_
            have hL70 : ∀ (k92 : Mem → Option (Nat × Int32 × Mem)) (hk92 : ∀ (μ4 : Mem), AW G C (qX G C) 0 0 5 μ4 92 [some (.ref (gad G 0 0)), some (.int a1), none, some (.int a3), none] [] (k92 μ4)) (n : Nat) (x5 : Int32) (μ6 : Mem), AW G C (qX G C) 0 0 5 μ6 70 [some (.ref (gad G 0 0)), some (.int a1), some (.int a2), some (.int a3), some (.int x5)] [] (lp_X9_ahead_70 a1 a2 k92 n x5 μ6) := by
              intro k92 hk92 n
              induction n with
              | zero => intro x5 μ6; exact aw_none
              | succ n ih =>
                intro x5 μ6
                rw [lp_X9_ahead_70]
                refine aw_iload (pc := 70) hC dX9_ahead_70 rfl ?_
                refine aw_iload_n (pc := 72) (i := 2) hC dX9_ahead_72 rfl rfl ?_
                refine aw_icmp_ge (pc := 73) (tgt := 92) hC dX9_ahead_73 (by decide) (fun _ => ?_) (fun _ => ?_)
                · skip
                  exact aw_drop [2, 4] (hk92 μ6)
                · skip
                  refine aw_aload_n (pc := 76) (i := 0) hC dX9_ahead_76 rfl rfl ?_
                  refine aw_get (pc := 77) hC inX9 (v0 (j := 0) (by decide)) rfl rfl 5 (by decide) kw281 rfl rfl dX9_ahead_77 ?_
                  refine aw_iconst (pc := 80) (v := 1) hC dX9_ahead_80 ic1 ?_
                  refine aw_iload_n (pc := 81) (i := 1) hC dX9_ahead_81 rfl rfl ?_
                  refine aw_ishl (pc := 82) hC dX9_ahead_82 ?_
                  refine aw_callVV (pc := 83) (As := [.int (jshl 1 a1)]) hC mb_X2_foreseeDay kw1114 (by decide) (c_X2_foreseeDay G C.2.1 1 (by decide) μ6 (jshl 1 a1)) (vH (h := 1) (j := 0) (by decide) (by decide)) rfl rfl rfl (Nat.le_of_ble_eq_true rfl) dX9_ahead_83 (fun q7 => ?_)
                  refine aw_iinc (pc := 86) (v := x5 + 1) hC dX9_ahead_86 rfl (congrArg (HAdd.hAdd _) ic1) rfl (by decide) ?_
                  refine aw_goto (pc := 89) (tgt := 70) hC dX9_ahead_89 (by decide) ?_
                  exact ih (x5 + 1) q7
            refine hL70 (fun (μ4 : Mem) => if a3 = 0 then ((f_X1_doubtOf 1 μ4 a1).bind fun (q8 : Int32) => some (0, q8, μ4)) else (if a3 = 1 then (some (0, (μ4 2 0 11), μ4)) else (some (0, (μ4 2 0 10), μ4)))) (fun μ4 => ?_) 4096 0 q3
            · skip
              refine aw_iload_n (pc := 92) (i := 3) hC dX9_ahead_92 rfl rfl ?_
              refine aw_case (k := 0) (fun hc93 => ?_) (fun hn93_0 => ?_)
              · skip
                refine aw_lswIn (pc := 93) (tgt := 120) (off := 27) hC dX9_ahead_93 (by decide) (by rw [hc93]; decide) (by decide) ?_
                refine aw_aload_n (pc := 120) (i := 0) hC dX9_ahead_120 rfl rfl ?_
                refine aw_get (pc := 121) hC inX9 (v0 (j := 0) (by decide)) rfl rfl 5 (by decide) kw281 rfl rfl dX9_ahead_121 ?_
                refine aw_get (pc := 124) hC inX2 (vH (h := 1) (j := 0) (by decide) (by decide)) rfl rfl 0 (by decide) kw186 rfl rfl dX9_ahead_124 ?_
                refine aw_iload_n (pc := 127) (i := 1) hC dX9_ahead_127 rfl rfl ?_
                refine aw_callVR (pc := 128) (As := [.int a1]) hC mb_X1_doubtOf kw899 (by decide) (c_X1_doubtOf G C.2.1 1 (by decide) μ4 a1) (vH (h := 1) (j := 1) (by decide) (by decide)) rfl rfl rfl (Nat.le_of_ble_eq_true rfl) dX9_ahead_128 (fun q8 => ?_)
                exact aw_iretX hC dX9_ahead_131
              refine aw_case (k := 1) (fun hc93 => ?_) (fun hn93_1 => ?_)
              · skip
                refine aw_lswIn (pc := 93) (tgt := 132) (off := 39) hC dX9_ahead_93 (by decide) (by rw [hc93]; decide) (by decide) ?_
                refine aw_aload_n (pc := 132) (i := 0) hC dX9_ahead_132 rfl rfl ?_
                refine aw_get (pc := 133) hC inX9 (v0 (j := 0) (by decide)) rfl rfl 5 (by decide) kw281 rfl rfl dX9_ahead_133 ?_
                refine aw_get (pc := 136) hC inX2 (vH (h := 1) (j := 0) (by decide) (by decide)) rfl rfl 11 (by decide) kw208 rfl rfl dX9_ahead_136 ?_
                exact aw_iretX hC dX9_ahead_139
              refine aw_lswIn (pc := 93) (tgt := 140) (off := 47) hC dX9_ahead_93 (by decide) (by refine (lv_osw hn93_0 (by decide)).trans ?_; refine (lv_osw hn93_1 (by decide)).trans ?_; rfl) (by decide) ?_
              refine aw_aload_n (pc := 140) (i := 0) hC dX9_ahead_140 rfl rfl ?_
              refine aw_get (pc := 141) hC inX9 (v0 (j := 0) (by decide)) rfl rfl 5 (by decide) kw281 rfl rfl dX9_ahead_141 ?_
              refine aw_get (pc := 144) hC inX2 (vH (h := 1) (j := 0) (by decide) (by decide)) rfl rfl 10 (by decide) kw206 rfl rfl dX9_ahead_144 ?_
              exact aw_iretX hC dX9_ahead_147
          · skip
            exact aw_drop [0, 1, 2, 3] (hJ45)
theorem dX9_saturdays_0 : decode cX9_saturdays 0 = .ok (.iload_n 1, 1) := by decide +kernel
theorem dX9_saturdays_1 : decode cX9_saturdays 1 = .ok (.invokestatic 276, 3) := by decide +kernel
theorem dX9_saturdays_4 : decode cX9_saturdays 4 = .ok (.ifCond .ne 14, 3) := by decide +kernel
theorem dX9_saturdays_7 : decode cX9_saturdays 7 = .ok (.new 93, 3) := by decide +kernel
theorem dX9_saturdays_10 : decode cX9_saturdays 10 = .ok (.dup, 1) := by decide +kernel
theorem dX9_saturdays_11 : decode cX9_saturdays 11 = .ok (.ldc_w 264, 3) := by decide +kernel
theorem dX9_saturdays_14 : decode cX9_saturdays 14 = .ok (.invokespecial 97, 3) := by decide +kernel
theorem dX9_saturdays_17 : decode cX9_saturdays 17 = .ok (.athrow, 1) := by decide +kernel
theorem dX9_saturdays_18 : decode cX9_saturdays 18 = .ok (.iconst 0, 1) := by decide +kernel
theorem dX9_saturdays_19 : decode cX9_saturdays 19 = .ok (.istore_n 2, 1) := by decide +kernel
theorem dX9_saturdays_20 : decode cX9_saturdays 20 = .ok (.iconst 0, 1) := by decide +kernel
theorem dX9_saturdays_21 : decode cX9_saturdays 21 = .ok (.istore_n 3, 1) := by decide +kernel
theorem dX9_saturdays_22 : decode cX9_saturdays 22 = .ok (.iload_n 3, 1) := by decide +kernel
theorem dX9_saturdays_23 : decode cX9_saturdays 23 = .ok (.iload_n 1, 1) := by decide +kernel
theorem dX9_saturdays_24 : decode cX9_saturdays 24 = .ok (.if_icmp .ge 23, 3) := by decide +kernel
theorem dX9_saturdays_27 : decode cX9_saturdays 27 = .ok (.aload_n 0, 1) := by decide +kernel
theorem dX9_saturdays_28 : decode cX9_saturdays 28 = .ok (.getfield 42, 3) := by decide +kernel
theorem dX9_saturdays_31 : decode cX9_saturdays 31 = .ok (.iload_n 3, 1) := by decide +kernel
theorem dX9_saturdays_32 : decode cX9_saturdays 32 = .ok (.invokevirtual 287, 3) := by decide +kernel
theorem dX9_saturdays_35 : decode cX9_saturdays 35 = .ok (.ifCond .le 6, 3) := by decide +kernel
theorem dX9_saturdays_38 : decode cX9_saturdays 38 = .ok (.iinc 2 1, 3) := by decide +kernel
theorem dX9_saturdays_41 : decode cX9_saturdays 41 = .ok (.iinc 3 1, 3) := by decide +kernel
theorem dX9_saturdays_44 : decode cX9_saturdays 44 = .ok (.goto (-22), 3) := by decide +kernel
theorem dX9_saturdays_47 : decode cX9_saturdays 47 = .ok (.iload_n 2, 1) := by decide +kernel
theorem dX9_saturdays_48 : decode cX9_saturdays 48 = .ok (.ireturn, 1) := by decide +kernel
def lp_X9_saturdays_22 (a1 : Int32) (μ : Mem) : Nat → Int32 → Int32 → Option (Nat × Int32 × Mem)
  | 0, _, _ => none
  | n + 1, x2, x3 => if a1 ≤ x3 then (some (0, x2, μ)) else ((f_X2_saturdaysAt 0 μ x3).bind fun (q4 : Int32) => if q4 ≤ 0 then (lp_X9_saturdays_22 a1 μ n x2 (x3 + 1)) else (lp_X9_saturdays_22 a1 μ n (x2 + 1) (x3 + 1)))
def f_X9_saturdays (μ : Mem) (a1 : Int32) : Option (Nat × Int32 × Mem) := (f_X9_isFar a1).bind fun (q1 : Int32) => if q1 = 0 then (some (1, 0, μ)) else (lp_X9_saturdays_22 a1 μ 4096 0 0)
set_option maxHeartbeats 4000000 in
set_option maxRecDepth 100000 in
theorem c_X9_saturdays (G : GG) (l : Launch) (hl0 : l.stackTraces = false) (μ : Mem) (a1 : Int32) : CXT G l yX9_saturdays (.code yX9_saturdays cX9_saturdays 4 (some .int)) 5 [.ref (gad G 0 0), .int a1] μ (f_X9_saturdays μ a1) := by
  refine CXT.of (own := "SaturdayKeep") (L0 := [some (.ref (gad G 0 0)), some (.int a1), none, none]) hl0 rfl rfl rfl (Nat.le_of_ble_eq_true rfl) (fun C hl1 hl hout hcs hC => ?_)
  subst hl1
  delta f_X9_saturdays
  refine aw_iload_n (pc := 0) (i := 1) hC dX9_saturdays_0 rfl rfl ?_
  refine aw_callSR (pc := 1) (As := [.int a1]) hC ms_X9_isFar kw1110 (by decide) (c_X9_isFar G C.2.1   μ a1) rfl (Nat.le_of_ble_eq_true rfl) dX9_saturdays_1 (fun q1 => ?_)
  refine aw_if_ne (pc := 4) (tgt := 18) hC dX9_saturdays_4 (by decide) (fun _ => ?_) (fun _ => ?_)
  · skip
    exact aw_throwW (k := 1) (i := 37) hC hl hout hcs rfl rfl kw745 kw21 thr1_97 (by decide) (by decide) (Nat.le_of_ble_eq_true rfl) dX9_saturdays_7 dX9_saturdays_10 dX9_saturdays_11 dX9_saturdays_14 dX9_saturdays_17
  · skip
    refine aw_iconst (pc := 18) (v := 0) hC dX9_saturdays_18 ic0 ?_
    refine aw_istore_n (pc := 19) (i := 2) hC dX9_saturdays_19 rfl rfl (by decide) ?_
    refine aw_iconst (pc := 20) (v := 0) hC dX9_saturdays_20 ic0 ?_
    refine aw_istore_n (pc := 21) (i := 3) hC dX9_saturdays_21 rfl rfl (by decide) ?_
    have hL22 : ∀ (n : Nat) (x2 : Int32) (x3 : Int32), AW G C (qX G C) 0 0 4 μ 22 [some (.ref (gad G 0 0)), some (.int a1), some (.int x2), some (.int x3)] [] (lp_X9_saturdays_22 a1 μ n x2 x3) := by
      intro n
      induction n with
      | zero => intro x2 x3; exact aw_none
      | succ n ih =>
        intro x2 x3
        rw [lp_X9_saturdays_22]
        refine aw_iload_n (pc := 22) (i := 3) hC dX9_saturdays_22 rfl rfl ?_
        refine aw_iload_n (pc := 23) (i := 1) hC dX9_saturdays_23 rfl rfl ?_
        refine aw_icmp_ge (pc := 24) (tgt := 47) hC dX9_saturdays_24 (by decide) (fun _ => ?_) (fun _ => ?_)
        · skip
          refine aw_iload_n (pc := 47) (i := 2) hC dX9_saturdays_47 rfl rfl ?_
          exact aw_iretX hC dX9_saturdays_48
        · skip
          refine aw_aload_n (pc := 27) (i := 0) hC dX9_saturdays_27 rfl rfl ?_
          refine aw_get (pc := 28) hC inX9 (v0 (j := 0) (by decide)) rfl rfl 4 (by decide) kw280 rfl rfl dX9_saturdays_28 ?_
          refine aw_iload_n (pc := 31) (i := 3) hC dX9_saturdays_31 rfl rfl ?_
          refine aw_callVR (pc := 32) (As := [.int x3]) hC mb_X2_saturdaysAt kw330 (by decide) (c_X2_saturdaysAt G C.2.1 0 (by decide) μ x3) (vH (h := 0) (j := 0) (by decide) (by decide)) rfl rfl rfl (Nat.le_of_ble_eq_true rfl) dX9_saturdays_32 (fun q4 => ?_)
          refine aw_if_le (pc := 35) (tgt := 41) hC dX9_saturdays_35 (by decide) (fun _ => ?_) (fun _ => ?_)
          · skip
            refine aw_iinc (pc := 41) (v := x3 + 1) hC dX9_saturdays_41 rfl (congrArg (HAdd.hAdd _) ic1) rfl (by decide) ?_
            refine aw_goto (pc := 44) (tgt := 22) hC dX9_saturdays_44 (by decide) ?_
            exact ih x2 (x3 + 1)
          · skip
            refine aw_iinc (pc := 38) (v := x2 + 1) hC dX9_saturdays_38 rfl (congrArg (HAdd.hAdd _) ic1) rfl (by decide) ?_
            refine aw_iinc (pc := 41) (v := x3 + 1) hC dX9_saturdays_41 rfl (congrArg (HAdd.hAdd _) ic1) rfl (by decide) ?_
            refine aw_goto (pc := 44) (tgt := 22) hC dX9_saturdays_44 (by decide) ?_
            exact ih (x2 + 1) (x3 + 1)
    exact hL22 4096 0 0
theorem dX9_first_0 : decode cX9_first 0 = .ok (.aload_n 0, 1) := by decide +kernel
theorem dX9_first_1 : decode cX9_first 1 = .ok (.iload_n 1, 1) := by decide +kernel
theorem dX9_first_2 : decode cX9_first 2 = .ok (.invokevirtual 130, 3) := by decide +kernel
theorem dX9_first_5 : decode cX9_first 5 = .ok (.ifCond .ne 13, 3) := by decide +kernel
theorem dX9_first_8 : decode cX9_first 8 = .ok (.new 134, 3) := by decide +kernel
theorem dX9_first_11 : decode cX9_first 11 = .ok (.dup, 1) := by decide +kernel
theorem dX9_first_12 : decode cX9_first 12 = .ok (.ldc 136, 2) := by decide +kernel
theorem dX9_first_14 : decode cX9_first 14 = .ok (.invokespecial 138, 3) := by decide +kernel
theorem dX9_first_17 : decode cX9_first 17 = .ok (.athrow, 1) := by decide +kernel
theorem dX9_first_18 : decode cX9_first 18 = .ok (.iload_n 2, 1) := by decide +kernel
theorem dX9_first_19 : decode cX9_first 19 = .ok (.iconst 1, 1) := by decide +kernel
theorem dX9_first_20 : decode cX9_first 20 = .ok (.if_icmp .lt 9, 3) := by decide +kernel
theorem dX9_first_23 : decode cX9_first 23 = .ok (.iload_n 2, 1) := by decide +kernel
theorem dX9_first_24 : decode cX9_first 24 = .ok (.bipush 99, 2) := by decide +kernel
theorem dX9_first_26 : decode cX9_first 26 = .ok (.if_icmp .le 14, 3) := by decide +kernel
theorem dX9_first_29 : decode cX9_first 29 = .ok (.new 93, 3) := by decide +kernel
theorem dX9_first_32 : decode cX9_first 32 = .ok (.dup, 1) := by decide +kernel
theorem dX9_first_33 : decode cX9_first 33 = .ok (.ldc_w 290, 3) := by decide +kernel
theorem dX9_first_36 : decode cX9_first 36 = .ok (.invokespecial 97, 3) := by decide +kernel
theorem dX9_first_39 : decode cX9_first 39 = .ok (.athrow, 1) := by decide +kernel
theorem dX9_first_40 : decode cX9_first 40 = .ok (.aload_n 0, 1) := by decide +kernel
theorem dX9_first_41 : decode cX9_first 41 = .ok (.getfield 46, 3) := by decide +kernel
theorem dX9_first_44 : decode cX9_first 44 = .ok (.aload_n 0, 1) := by decide +kernel
theorem dX9_first_45 : decode cX9_first 45 = .ok (.getfield 42, 3) := by decide +kernel
theorem dX9_first_48 : decode cX9_first 48 = .ok (.invokevirtual 82, 3) := by decide +kernel
theorem dX9_first_51 : decode cX9_first 51 = .ok (.iconst 0, 1) := by decide +kernel
theorem dX9_first_52 : decode cX9_first 52 = .ok (.istore_n 3, 1) := by decide +kernel
theorem dX9_first_53 : decode cX9_first 53 = .ok (.iload_n 3, 1) := by decide +kernel
theorem dX9_first_54 : decode cX9_first 54 = .ok (.sipush 400, 3) := by decide +kernel
theorem dX9_first_57 : decode cX9_first 57 = .ok (.if_icmp .gt 36, 3) := by decide +kernel
theorem dX9_first_60 : decode cX9_first 60 = .ok (.aload_n 0, 1) := by decide +kernel
theorem dX9_first_61 : decode cX9_first 61 = .ok (.getfield 46, 3) := by decide +kernel
theorem dX9_first_64 : decode cX9_first 64 = .ok (.getfield 139, 3) := by decide +kernel
theorem dX9_first_67 : decode cX9_first 67 = .ok (.iload_n 1, 1) := by decide +kernel
theorem dX9_first_68 : decode cX9_first 68 = .ok (.invokevirtual 152, 3) := by decide +kernel
theorem dX9_first_71 : decode cX9_first 71 = .ok (.iload_n 2, 1) := by decide +kernel
theorem dX9_first_72 : decode cX9_first 72 = .ok (.if_icmp .lt 5, 3) := by decide +kernel
theorem dX9_first_75 : decode cX9_first 75 = .ok (.iload_n 3, 1) := by decide +kernel
theorem dX9_first_76 : decode cX9_first 76 = .ok (.ireturn, 1) := by decide +kernel
theorem dX9_first_77 : decode cX9_first 77 = .ok (.aload_n 0, 1) := by decide +kernel
theorem dX9_first_78 : decode cX9_first 78 = .ok (.getfield 46, 3) := by decide +kernel
theorem dX9_first_81 : decode cX9_first 81 = .ok (.iconst 1, 1) := by decide +kernel
theorem dX9_first_82 : decode cX9_first 82 = .ok (.iload_n 1, 1) := by decide +kernel
theorem dX9_first_83 : decode cX9_first 83 = .ok (.ishl, 1) := by decide +kernel
theorem dX9_first_84 : decode cX9_first 84 = .ok (.invokevirtual 281, 3) := by decide +kernel
theorem dX9_first_87 : decode cX9_first 87 = .ok (.iinc 3 1, 3) := by decide +kernel
theorem dX9_first_90 : decode cX9_first 90 = .ok (.goto (-37), 3) := by decide +kernel
theorem dX9_first_93 : decode cX9_first 93 = .ok (.iconst (-1), 1) := by decide +kernel
theorem dX9_first_94 : decode cX9_first 94 = .ok (.ireturn, 1) := by decide +kernel
def lp_X9_first_53 (a1 : Int32) (a2 : Int32) : Nat → Int32 → Mem → Option (Nat × Int32 × Mem)
  | 0, _, _ => none
  | n + 1, x3, μ4 => if 400 < x3 then (some (0, (-1), μ4)) else ((f_X1_doubtOf 1 μ4 a1).bind fun (q5 : Int32) => if q5 < a2 then ((f_X2_foreseeDay 1 μ4 (jshl 1 a1)).bind fun (q6 : Mem) => lp_X9_first_53 a1 a2 n (x3 + 1) q6) else (some (0, x3, μ4)))
def f_X9_first (μ : Mem) (a1 : Int32) (a2 : Int32) : Option (Nat × Int32 × Mem) := (f_X9_isGuest μ a1).bind fun (q1 : Int32) => if q1 = 0 then (some (3, 0, μ)) else (nm (some (1, 0, μ)) fun (J29 : Option (Nat × Int32 × Mem)) => if a2 < 1 then (J29) else (if a2 ≤ 99 then ((f_X2_copy 1 0 μ).bind fun (q2 : Mem) => lp_X9_first_53 a1 a2 4096 0 q2) else (J29)))
set_option maxHeartbeats 4000000 in
set_option maxRecDepth 100000 in
theorem c_X9_first (G : GG) (l : Launch) (hl0 : l.stackTraces = false) (μ : Mem) (a1 : Int32) (a2 : Int32) : CXT G l yX9_first (.code yX9_first cX9_first 4 (some .int)) 6 [.ref (gad G 0 0), .int a1, .int a2] μ (f_X9_first μ a1 a2) := by
  refine CXT.of (own := "SaturdayKeep") (L0 := [some (.ref (gad G 0 0)), some (.int a1), some (.int a2), none]) hl0 rfl rfl rfl (Nat.le_of_ble_eq_true rfl) (fun C hl1 hl hout hcs hC => ?_)
  subst hl1
  delta f_X9_first
  refine aw_aload_n (pc := 0) (i := 0) hC dX9_first_0 rfl rfl ?_
  refine aw_iload_n (pc := 1) (i := 1) hC dX9_first_1 rfl rfl ?_
  refine aw_callVR (pc := 2) (As := [.int a1]) hC mb_X9_isGuest kw879 (by decide) (c_X9_isGuest G C.2.1   μ a1) (v0 (j := 0) (by decide)) rfl rfl rfl (Nat.le_of_ble_eq_true rfl) dX9_first_2 (fun q1 => ?_)
  refine aw_if_ne (pc := 5) (tgt := 18) hC dX9_first_5 (by decide) (fun _ => ?_) (fun _ => ?_)
  · skip
    exact aw_throw (k := 3) (i := 27) hC hl hout hcs rfl rfl kw883 kw23 thr3_138 (by decide) (by decide) (Nat.le_of_ble_eq_true rfl) dX9_first_8 dX9_first_11 dX9_first_12 dX9_first_14 dX9_first_17
  · skip
    refine aw_iload_n (pc := 18) (i := 2) hC dX9_first_18 rfl rfl ?_
    refine aw_iconst (pc := 19) (v := 1) hC dX9_first_19 ic1 ?_
    refine aw_nmJ (fun (J29 : Option (Nat × Int32 × Mem)) => AW G C (qX G C) 0 0 4 μ 29 [none, none, none, none] [] (J29)) ?_ (fun J29 hJ29 => ?_)
    · skip
      exact aw_throwW (k := 1) (i := 39) hC hl hout hcs rfl rfl kw745 kw21 thr1_97 (by decide) (by decide) (Nat.le_of_ble_eq_true rfl) dX9_first_29 dX9_first_32 dX9_first_33 dX9_first_36 dX9_first_39
    · skip
      refine aw_icmp_lt (pc := 20) (tgt := 29) hC dX9_first_20 (by decide) (fun _ => ?_) (fun _ => ?_)
      · skip
        exact aw_drop [0, 1, 2] (hJ29)
      · skip
        refine aw_iload_n (pc := 23) (i := 2) hC dX9_first_23 rfl rfl ?_
        refine aw_bipush (pc := 24) (v := 99) hC dX9_first_24 bc99 ?_
        refine aw_icmp_le (pc := 26) (tgt := 40) hC dX9_first_26 (by decide) (fun _ => ?_) (fun _ => ?_)
        · skip
          refine aw_aload_n (pc := 40) (i := 0) hC dX9_first_40 rfl rfl ?_
          refine aw_get (pc := 41) hC inX9 (v0 (j := 0) (by decide)) rfl rfl 5 (by decide) kw281 rfl rfl dX9_first_41 ?_
          refine aw_aload_n (pc := 44) (i := 0) hC dX9_first_44 rfl rfl ?_
          refine aw_get (pc := 45) hC inX9 (v0 (j := 0) (by decide)) rfl rfl 4 (by decide) kw280 rfl rfl dX9_first_45 ?_
          refine aw_callVV (pc := 48) (As := [.ref (gad G 1 0)]) hC mb_X2_copy kw346 (by decide) (c_X2_copy G C.2.1 1 0 (by decide) (by decide) μ ) (vH (h := 1) (j := 0) (by decide) (by decide)) rfl rfl rfl (Nat.le_of_ble_eq_true rfl) dX9_first_48 (fun q2 => ?_)
          refine aw_iconst (pc := 51) (v := 0) hC dX9_first_51 ic0 ?_
          refine aw_istore_n (pc := 52) (i := 3) hC dX9_first_52 rfl rfl (by decide) ?_
          have hL53 : ∀ (n : Nat) (x3 : Int32) (μ4 : Mem), AW G C (qX G C) 0 0 4 μ4 53 [some (.ref (gad G 0 0)), some (.int a1), some (.int a2), some (.int x3)] [] (lp_X9_first_53 a1 a2 n x3 μ4) := by
            intro n
            induction n with
            | zero => intro x3 μ4; exact aw_none
            | succ n ih =>
              intro x3 μ4
              rw [lp_X9_first_53]
              refine aw_iload_n (pc := 53) (i := 3) hC dX9_first_53 rfl rfl ?_
              refine aw_sipush (pc := 54) (v := 400) hC dX9_first_54 sc400 ?_
              refine aw_icmp_gt (pc := 57) (tgt := 93) hC dX9_first_57 (by decide) (fun _ => ?_) (fun _ => ?_)
              · skip
                refine aw_iconst (pc := 93) (v := (-1)) hC dX9_first_93 icm1 ?_
                exact aw_iretX hC dX9_first_94
              · skip
                refine aw_aload_n (pc := 60) (i := 0) hC dX9_first_60 rfl rfl ?_
                refine aw_get (pc := 61) hC inX9 (v0 (j := 0) (by decide)) rfl rfl 5 (by decide) kw281 rfl rfl dX9_first_61 ?_
                refine aw_get (pc := 64) hC inX2 (vH (h := 1) (j := 0) (by decide) (by decide)) rfl rfl 0 (by decide) kw186 rfl rfl dX9_first_64 ?_
                refine aw_iload_n (pc := 67) (i := 1) hC dX9_first_67 rfl rfl ?_
                refine aw_callVR (pc := 68) (As := [.int a1]) hC mb_X1_doubtOf kw899 (by decide) (c_X1_doubtOf G C.2.1 1 (by decide) μ4 a1) (vH (h := 1) (j := 1) (by decide) (by decide)) rfl rfl rfl (Nat.le_of_ble_eq_true rfl) dX9_first_68 (fun q5 => ?_)
                refine aw_iload_n (pc := 71) (i := 2) hC dX9_first_71 rfl rfl ?_
                refine aw_icmp_lt (pc := 72) (tgt := 77) hC dX9_first_72 (by decide) (fun _ => ?_) (fun _ => ?_)
                · skip
                  refine aw_aload_n (pc := 77) (i := 0) hC dX9_first_77 rfl rfl ?_
                  refine aw_get (pc := 78) hC inX9 (v0 (j := 0) (by decide)) rfl rfl 5 (by decide) kw281 rfl rfl dX9_first_78 ?_
                  refine aw_iconst (pc := 81) (v := 1) hC dX9_first_81 ic1 ?_
                  refine aw_iload_n (pc := 82) (i := 1) hC dX9_first_82 rfl rfl ?_
                  refine aw_ishl (pc := 83) hC dX9_first_83 ?_
                  refine aw_callVV (pc := 84) (As := [.int (jshl 1 a1)]) hC mb_X2_foreseeDay kw1114 (by decide) (c_X2_foreseeDay G C.2.1 1 (by decide) μ4 (jshl 1 a1)) (vH (h := 1) (j := 0) (by decide) (by decide)) rfl rfl rfl (Nat.le_of_ble_eq_true rfl) dX9_first_84 (fun q6 => ?_)
                  refine aw_iinc (pc := 87) (v := x3 + 1) hC dX9_first_87 rfl (congrArg (HAdd.hAdd _) ic1) rfl (by decide) ?_
                  refine aw_goto (pc := 90) (tgt := 53) hC dX9_first_90 (by decide) ?_
                  exact ih (x3 + 1) q6
                · skip
                  refine aw_iload_n (pc := 75) (i := 3) hC dX9_first_75 rfl rfl ?_
                  exact aw_iretX hC dX9_first_76
          exact hL53 4096 0 q2
        · skip
          exact aw_drop [0, 1, 2] (hJ29)
