/-! THE LAW'S OWN ROWS -/
def z_scr : z_X → Nat → (Nat → Int32) → Prop := fun (p, l, e, R, s, m, args, below, meth, c, cc, nL, own, D, cy, b, B, Q) L xs => va_X b L xs s s.heap ∧ b < s.heap.size ∧ b < B
section ZL
variable {X : z_X} {l : Launch} {me : z_M} {rm : Room} {pc nx u v : Nat} {lv : List (Option Value)} {st : List Value} {P : z_H}
theorem z_slen (hX : z_is X l me rm) {L : Nat} {xs : Nat → Int32} (hs : z_scr X L xs) (hd : decode me.2.1 pc = .ok (.arraylength, 1)) (k : z_W X (pc + 1) lv (.int (nI L) :: st) P nx u v) : z_W X pc lv (.ref 0 :: st) P nx u v := by
  obtain ⟨p, l, e, R, s, m, args, below, meth, c, cc, nL, own, D, cy, b, B, Q⟩ := X
  obtain ⟨yn, yc, yL, yr⟩ := me
  obtain ⟨⟨hx, hb, hml, hown, hts, hK, hB⟩, rfl, rfl, rfl, rfl, rfl⟩ := hX
  obtain ⟨h1, h2, h3⟩ := hs
  intro H locs ls hR hS hL
  exact va_slen hx hb h1 h2 (Nat.not_le.mpr h3) hS hd (k H locs ls hR hS hL)
theorem z_sld (hX : z_is X l me rm) {L : Nat} {xs : Nat → Int32} (hs : z_scr X L xs) {i : Int32} (hin : vp_in i L) (hd : decode me.2.1 pc = .ok (.iaload, 1)) (k : z_W X (pc + 1) lv (.int (xs i.toNatClampNeg) :: st) P nx u v) : z_W X pc lv (.int i :: .ref 0 :: st) P nx u v := by
  obtain ⟨p, l, e, R, s, m, args, below, meth, c, cc, nL, own, D, cy, b, B, Q⟩ := X
  obtain ⟨yn, yc, yL, yr⟩ := me
  obtain ⟨⟨hx, hb, hml, hown, hts, hK, hB⟩, rfl, rfl, rfl, rfl, rfl⟩ := hX
  obtain ⟨h1, h2, h3⟩ := hs
  intro H locs ls hR hS hL
  exact va_sld hx hb h1 h2 (Nat.not_le.mpr h3) hS hin hd (k H locs ls hR hS hL)
end ZL
theorem zJJ.o {P : z_H} {nx : Nat} (h : zJJ P nx) : ∃ fs, P 1 = some (.inr (7, fs)) := by
  obtain ⟨S, iv, h, a, ld, hC, -⟩ := h
  exact ⟨_, hC.o⟩
theorem lg_self (x : Int64) : lg_cmp x x = 0 := by
  unfold lg_cmp
  simp
theorem and31 (x : Int32) : 0 ≤ (x &&& 31).toInt ∧ (x &&& 31).toInt ≤ 31 := by
  rw [pk_and x 5 (by decide)]
  have : x.toBitVec.toNat % 2 ^ 5 < 32 := Nat.mod_lt _ (by decide)
  rw [nI_toInt (by omega)]
  omega
set_option maxRecDepth 4000 in
theorem law_weekday {X : z_X} {l : Launch} (hX : z_is X l ML_law room_1) {L : Nat} {xs : Nat → Int32} (hsc : z_scr X L xs) (hL : L ≤ 3072) {i nx u v : Nat} {P : z_H} (hi : i + 5 < L) (hu : u + 5 ≤ 600000) (hv : v + 47 ≤ 7302250) (hJ : zJJ P nx) (go : ∀ (P : z_H) (nx : Nat), zJJ P nx → z_W X 807 [some (.ref 0), some (.ref 1), some (.ref 70), some (.int (nI i))] [] P nx (u + 5) (v + 47)) : z_W X 136 [some (.ref 0), some (.ref 1), some (.ref 70), some (.int (nI i))] [] P nx u v := by
  obtain ⟨fs, hfs⟩ := hJ.o
  refine z_aload_n hX dL_law_136 rfl ?_
  refine z_aload_n hX dL_law_137 rfl ?_
  refine z_iload_n hX dL_law_138 rfl ?_
  refine z_iconst hX (1) dL_law_139 (by decide) ?_
  refine z_iadd hX dL_law_140 ?_
  refine z_sld hX hsc (ix_in (show nI i + 1 = nI (i + 1) from nI_add i 1) (by omega) (by omega)) dL_law_141 ?_
  refine z_aload_n hX dL_law_142 rfl ?_
  refine z_iload_n hX dL_law_143 rfl ?_
  refine z_iconst hX (2) dL_law_144 (by decide) ?_
  refine z_iadd hX dL_law_145 ?_
  refine z_sld hX hsc (ix_in (show nI i + 2 = nI (i + 2) from nI_add i 2) (by omega) (by omega)) dL_law_146 ?_
  refine z_aload_n hX dL_law_147 rfl ?_
  refine z_iload_n hX dL_law_148 rfl ?_
  refine z_iconst hX (3) dL_law_149 (by decide) ?_
  refine z_iadd hX dL_law_150 ?_
  refine z_sld hX hsc (ix_in (show nI i + 3 = nI (i + 3) from nI_add i 3) (by omega) (by omega)) dL_law_151 ?_
  refine z_callV3 hX (sp7_weekday l) lm_L_13 hfs ⟨by decide, by decide, (show u + 0 ≤ 600000 by omega), (show v + 0 ≤ 7302250 by omega)⟩ (Nat.le_of_ble_eq_true rfl) dL_law_152 ?_
  refine pr_weekday _ _ _ P nx hJ _ (fun w P nx ⟨fs, hfs⟩ h8 => ?_)
  dsimp only [Option.toList, List.cons_append, List.nil_append]
  refine z_aload_n hX dL_law_155 rfl ?_
  refine z_aload_n hX dL_law_156 rfl ?_
  refine z_iload_n hX dL_law_157 rfl ?_
  refine z_iconst hX (1) dL_law_158 (by decide) ?_
  refine z_iadd hX dL_law_159 ?_
  refine z_sld hX hsc (ix_in (show nI i + 1 = nI (i + 1) from nI_add i 1) (by omega) (by omega)) dL_law_160 ?_
  refine z_aload_n hX dL_law_161 rfl ?_
  refine z_iload_n hX dL_law_162 rfl ?_
  refine z_iconst hX (2) dL_law_163 (by decide) ?_
  refine z_iadd hX dL_law_164 ?_
  refine z_sld hX hsc (ix_in (show nI i + 2 = nI (i + 2) from nI_add i 2) (by omega) (by omega)) dL_law_165 ?_
  refine z_aload_n hX dL_law_166 rfl ?_
  refine z_iload_n hX dL_law_167 rfl ?_
  refine z_iconst hX (3) dL_law_168 (by decide) ?_
  refine z_iadd hX dL_law_169 ?_
  refine z_sld hX hsc (ix_in (show nI i + 3 = nI (i + 3) from nI_add i 3) (by omega) (by omega)) dL_law_170 ?_
  refine z_callV3 hX (sp8_weekday l) lm_L_17 hfs ⟨by decide, by decide, (show u + 0 + 0 ≤ 600000 by omega), (show v + 0 + 0 ≤ 7302250 by omega)⟩ (Nat.le_of_ble_eq_true rfl) dL_law_171 ?_
  refine h8 _ (fun P nx hJ => ?_)
  dsimp only [Option.toList, List.cons_append, List.nil_append]
  refine z_icmp_eq hX 807 dL_law_174 (by decide) (fun h174 => ?_) (fun h174 => ?_)
  rotate_left
  · exact absurd rfl h174
  exact z_widen (show u + 0 + 0 ≤ u + 5 by omega) (show v + 0 + 0 ≤ v + 47 by omega) (go P nx hJ)
set_option maxRecDepth 4000 in
theorem law_month {X : z_X} {l : Launch} (hX : z_is X l ML_law room_1) {L : Nat} {xs : Nat → Int32} (hsc : z_scr X L xs) (hL : L ≤ 3072) {i nx u v : Nat} {P : z_H} (hi : i + 5 < L) (hu : u + 5 ≤ 600000) (hv : v + 47 ≤ 7302250) (hJ : zJJ P nx) (go : ∀ (P : z_H) (nx : Nat), zJJ P nx → z_W X 807 [some (.ref 0), some (.ref 1), some (.ref 70), some (.int (nI i))] [] P nx (u + 5) (v + 47)) : z_W X 179 [some (.ref 0), some (.ref 1), some (.ref 70), some (.int (nI i))] [] P nx u v := by
  obtain ⟨fs, hfs⟩ := hJ.o
  refine z_aload_n hX dL_law_179 rfl ?_
  refine z_aload_n hX dL_law_180 rfl ?_
  refine z_iload_n hX dL_law_181 rfl ?_
  refine z_iconst hX (1) dL_law_182 (by decide) ?_
  refine z_iadd hX dL_law_183 ?_
  refine z_sld hX hsc (ix_in (show nI i + 1 = nI (i + 1) from nI_add i 1) (by omega) (by omega)) dL_law_184 ?_
  refine z_aload_n hX dL_law_185 rfl ?_
  refine z_iload_n hX dL_law_186 rfl ?_
  refine z_iconst hX (2) dL_law_187 (by decide) ?_
  refine z_iadd hX dL_law_188 ?_
  refine z_sld hX hsc (ix_in (show nI i + 2 = nI (i + 2) from nI_add i 2) (by omega) (by omega)) dL_law_189 ?_
  refine z_aload_n hX dL_law_190 rfl ?_
  refine z_iload_n hX dL_law_191 rfl ?_
  refine z_iconst hX (3) dL_law_192 (by decide) ?_
  refine z_iadd hX dL_law_193 ?_
  refine z_sld hX hsc (ix_in (show nI i + 3 = nI (i + 3) from nI_add i 3) (by omega) (by omega)) dL_law_194 ?_
  refine z_callV3 hX (sp7_month l) lm_L_18 hfs ⟨by decide, by decide, (show u + 0 ≤ 600000 by omega), (show v + 0 ≤ 7302250 by omega)⟩ (Nat.le_of_ble_eq_true rfl) dL_law_195 ?_
  refine pr_month _ _ _ P nx hJ _ (fun w P nx ⟨fs, hfs⟩ h8 => ?_)
  dsimp only [Option.toList, List.cons_append, List.nil_append]
  refine z_aload_n hX dL_law_198 rfl ?_
  refine z_aload_n hX dL_law_199 rfl ?_
  refine z_iload_n hX dL_law_200 rfl ?_
  refine z_iconst hX (1) dL_law_201 (by decide) ?_
  refine z_iadd hX dL_law_202 ?_
  refine z_sld hX hsc (ix_in (show nI i + 1 = nI (i + 1) from nI_add i 1) (by omega) (by omega)) dL_law_203 ?_
  refine z_aload_n hX dL_law_204 rfl ?_
  refine z_iload_n hX dL_law_205 rfl ?_
  refine z_iconst hX (2) dL_law_206 (by decide) ?_
  refine z_iadd hX dL_law_207 ?_
  refine z_sld hX hsc (ix_in (show nI i + 2 = nI (i + 2) from nI_add i 2) (by omega) (by omega)) dL_law_208 ?_
  refine z_aload_n hX dL_law_209 rfl ?_
  refine z_iload_n hX dL_law_210 rfl ?_
  refine z_iconst hX (3) dL_law_211 (by decide) ?_
  refine z_iadd hX dL_law_212 ?_
  refine z_sld hX hsc (ix_in (show nI i + 3 = nI (i + 3) from nI_add i 3) (by omega) (by omega)) dL_law_213 ?_
  refine z_callV3 hX (sp8_month l) lm_L_21 hfs ⟨by decide, by decide, (show u + 0 + 0 ≤ 600000 by omega), (show v + 0 + 0 ≤ 7302250 by omega)⟩ (Nat.le_of_ble_eq_true rfl) dL_law_214 ?_
  refine h8 _ (fun P nx hJ => ?_)
  dsimp only [Option.toList, List.cons_append, List.nil_append]
  refine z_icmp_eq hX 807 dL_law_217 (by decide) (fun h217 => ?_) (fun h217 => ?_)
  rotate_left
  · exact absurd rfl h217
  exact z_widen (show u + 0 + 0 ≤ u + 5 by omega) (show v + 0 + 0 ≤ v + 47 by omega) (go P nx hJ)
set_option maxRecDepth 4000 in
theorem law_holiday {X : z_X} {l : Launch} (hX : z_is X l ML_law room_1) {L : Nat} {xs : Nat → Int32} (hsc : z_scr X L xs) (hL : L ≤ 3072) {i nx u v : Nat} {P : z_H} (hi : i + 5 < L) (hu : u + 5 ≤ 600000) (hv : v + 47 ≤ 7302250) (hJ : zJJ P nx) (go : ∀ (P : z_H) (nx : Nat), zJJ P nx → z_W X 807 [some (.ref 0), some (.ref 1), some (.ref 70), some (.int (nI i))] [] P nx (u + 5) (v + 47)) : z_W X 222 [some (.ref 0), some (.ref 1), some (.ref 70), some (.int (nI i))] [] P nx u v := by
  obtain ⟨fs, hfs⟩ := hJ.o
  refine z_aload_n hX dL_law_222 rfl ?_
  refine z_aload_n hX dL_law_223 rfl ?_
  refine z_iload_n hX dL_law_224 rfl ?_
  refine z_iconst hX (1) dL_law_225 (by decide) ?_
  refine z_iadd hX dL_law_226 ?_
  refine z_sld hX hsc (ix_in (show nI i + 1 = nI (i + 1) from nI_add i 1) (by omega) (by omega)) dL_law_227 ?_
  refine z_callV1 hX (sp7_holiday l) lm_L_22 hfs ⟨by decide, by decide, (show u + 0 ≤ 600000 by omega), (show v + 0 ≤ 7302250 by omega)⟩ (Nat.le_of_ble_eq_true rfl) dL_law_228 ?_
  refine pr_holiday _ P nx hJ _ (fun w P nx ⟨fs, hfs⟩ h8 => ?_)
  dsimp only [Option.toList, List.cons_append, List.nil_append]
  refine z_aload_n hX dL_law_231 rfl ?_
  refine z_aload_n hX dL_law_232 rfl ?_
  refine z_iload_n hX dL_law_233 rfl ?_
  refine z_iconst hX (1) dL_law_234 (by decide) ?_
  refine z_iadd hX dL_law_235 ?_
  refine z_sld hX hsc (ix_in (show nI i + 1 = nI (i + 1) from nI_add i 1) (by omega) (by omega)) dL_law_236 ?_
  refine z_callV1 hX (sp8_holiday l) lm_L_26 hfs ⟨by decide, by decide, (show u + 0 + 0 ≤ 600000 by omega), (show v + 0 + 0 ≤ 7302250 by omega)⟩ (Nat.le_of_ble_eq_true rfl) dL_law_237 ?_
  refine h8 _ (fun P nx hJ => ?_)
  dsimp only [Option.toList, List.cons_append, List.nil_append]
  refine z_icmp_eq hX 807 dL_law_240 (by decide) (fun h240 => ?_) (fun h240 => ?_)
  rotate_left
  · exact absurd rfl h240
  exact z_widen (show u + 0 + 0 ≤ u + 5 by omega) (show v + 0 + 0 ≤ v + 47 by omega) (go P nx hJ)
set_option maxRecDepth 4000 in
theorem law_road {X : z_X} {l : Launch} (hX : z_is X l ML_law room_1) {L : Nat} {xs : Nat → Int32} (hsc : z_scr X L xs) (hL : L ≤ 3072) {i nx u v : Nat} {P : z_H} (hi : i + 5 < L) (hu : u + 5 ≤ 600000) (hv : v + 47 ≤ 7302250) (hJ : zJJ P nx) (go : ∀ (P : z_H) (nx : Nat), zJJ P nx → z_W X 807 [some (.ref 0), some (.ref 1), some (.ref 70), some (.int (nI i))] [] P nx (u + 5) (v + 47)) : z_W X 245 [some (.ref 0), some (.ref 1), some (.ref 70), some (.int (nI i))] [] P nx u v := by
  obtain ⟨fs, hfs⟩ := hJ.o
  refine z_aload_n hX dL_law_245 rfl ?_
  refine z_aload_n hX dL_law_246 rfl ?_
  refine z_iload_n hX dL_law_247 rfl ?_
  refine z_iconst hX (1) dL_law_248 (by decide) ?_
  refine z_iadd hX dL_law_249 ?_
  refine z_sld hX hsc (ix_in (show nI i + 1 = nI (i + 1) from nI_add i 1) (by omega) (by omega)) dL_law_250 ?_
  refine z_aload_n hX dL_law_251 rfl ?_
  refine z_iload_n hX dL_law_252 rfl ?_
  refine z_iconst hX (2) dL_law_253 (by decide) ?_
  refine z_iadd hX dL_law_254 ?_
  refine z_sld hX hsc (ix_in (show nI i + 2 = nI (i + 2) from nI_add i 2) (by omega) (by omega)) dL_law_255 ?_
  refine z_aload_n hX dL_law_256 rfl ?_
  refine z_iload_n hX dL_law_257 rfl ?_
  refine z_iconst hX (3) dL_law_258 (by decide) ?_
  refine z_iadd hX dL_law_259 ?_
  refine z_sld hX hsc (ix_in (show nI i + 3 = nI (i + 3) from nI_add i 3) (by omega) (by omega)) dL_law_260 ?_
  refine z_callV3 hX (sp7_road l) lm_L_27 hfs ⟨by decide, by decide, (show u + 5 ≤ 600000 by omega), (show v + 47 ≤ 7302250 by omega)⟩ (Nat.le_of_ble_eq_true rfl) dL_law_261 ?_
  refine pr_road _ _ _ P nx hJ _ (fun w P nx ⟨fs, hfs⟩ h8 => ?_)
  dsimp only [Option.toList, List.cons_append, List.nil_append]
  refine z_aload_n hX dL_law_264 rfl ?_
  refine z_aload_n hX dL_law_265 rfl ?_
  refine z_iload_n hX dL_law_266 rfl ?_
  refine z_iconst hX (1) dL_law_267 (by decide) ?_
  refine z_iadd hX dL_law_268 ?_
  refine z_sld hX hsc (ix_in (show nI i + 1 = nI (i + 1) from nI_add i 1) (by omega) (by omega)) dL_law_269 ?_
  refine z_aload_n hX dL_law_270 rfl ?_
  refine z_iload_n hX dL_law_271 rfl ?_
  refine z_iconst hX (2) dL_law_272 (by decide) ?_
  refine z_iadd hX dL_law_273 ?_
  refine z_sld hX hsc (ix_in (show nI i + 2 = nI (i + 2) from nI_add i 2) (by omega) (by omega)) dL_law_274 ?_
  refine z_aload_n hX dL_law_275 rfl ?_
  refine z_iload_n hX dL_law_276 rfl ?_
  refine z_iconst hX (3) dL_law_277 (by decide) ?_
  refine z_iadd hX dL_law_278 ?_
  refine z_sld hX hsc (ix_in (show nI i + 3 = nI (i + 3) from nI_add i 3) (by omega) (by omega)) dL_law_279 ?_
  refine z_callV3 hX (sp8_road l) lm_L_31 hfs ⟨by decide, by decide, (show u + 5 + 0 ≤ 600000 by omega), (show v + 47 + 0 ≤ 7302250 by omega)⟩ (Nat.le_of_ble_eq_true rfl) dL_law_280 ?_
  refine h8 _ (fun P nx hJ => ?_)
  dsimp only [Option.toList, List.cons_append, List.nil_append]
  refine z_icmp_eq hX 807 dL_law_283 (by decide) (fun h283 => ?_) (fun h283 => ?_)
  rotate_left
  · exact absurd rfl h283
  exact z_widen (show u + 5 + 0 ≤ u + 5 by omega) (show v + 47 + 0 ≤ v + 47 by omega) (go P nx hJ)
set_option maxRecDepth 4000 in
theorem law_shape {X : z_X} {l : Launch} (hX : z_is X l ML_law room_1) {L : Nat} {xs : Nat → Int32} (hsc : z_scr X L xs) (hL : L ≤ 3072) {i nx u v : Nat} {P : z_H} (hi : i + 5 < L) (hu : u + 5 ≤ 600000) (hv : v + 47 ≤ 7302250) (hJ : zJJ P nx) (go : ∀ (P : z_H) (nx : Nat), zJJ P nx → z_W X 807 [some (.ref 0), some (.ref 1), some (.ref 70), some (.int (nI i))] [] P nx (u + 5) (v + 47)) : z_W X 288 [some (.ref 0), some (.ref 1), some (.ref 70), some (.int (nI i))] [] P nx u v := by
  obtain ⟨fs, hfs⟩ := hJ.o
  refine z_aload_n hX dL_law_288 rfl ?_
  refine z_aload_n hX dL_law_289 rfl ?_
  refine z_iload_n hX dL_law_290 rfl ?_
  refine z_iconst hX (1) dL_law_291 (by decide) ?_
  refine z_iadd hX dL_law_292 ?_
  refine z_sld hX hsc (ix_in (show nI i + 1 = nI (i + 1) from nI_add i 1) (by omega) (by omega)) dL_law_293 ?_
  refine z_aload_n hX dL_law_294 rfl ?_
  refine z_iload_n hX dL_law_295 rfl ?_
  refine z_iconst hX (2) dL_law_296 (by decide) ?_
  refine z_iadd hX dL_law_297 ?_
  refine z_sld hX hsc (ix_in (show nI i + 2 = nI (i + 2) from nI_add i 2) (by omega) (by omega)) dL_law_298 ?_
  refine z_callV2 hX (sp7_shape l) lm_L_32 hfs ⟨by decide, by decide, (show u + 0 ≤ 600000 by omega), (show v + 0 ≤ 7302250 by omega)⟩ (Nat.le_of_ble_eq_true rfl) dL_law_299 ?_
  refine pr_shape _ _ P nx hJ _ (fun w P nx ⟨fs, hfs⟩ h8 => ?_)
  dsimp only [Option.toList, List.cons_append, List.nil_append]
  refine z_aload_n hX dL_law_302 rfl ?_
  refine z_aload_n hX dL_law_303 rfl ?_
  refine z_iload_n hX dL_law_304 rfl ?_
  refine z_iconst hX (1) dL_law_305 (by decide) ?_
  refine z_iadd hX dL_law_306 ?_
  refine z_sld hX hsc (ix_in (show nI i + 1 = nI (i + 1) from nI_add i 1) (by omega) (by omega)) dL_law_307 ?_
  refine z_aload_n hX dL_law_308 rfl ?_
  refine z_iload_n hX dL_law_309 rfl ?_
  refine z_iconst hX (2) dL_law_310 (by decide) ?_
  refine z_iadd hX dL_law_311 ?_
  refine z_sld hX hsc (ix_in (show nI i + 2 = nI (i + 2) from nI_add i 2) (by omega) (by omega)) dL_law_312 ?_
  refine z_callV2 hX (sp8_shape l) lm_L_36 hfs ⟨by decide, by decide, (show u + 0 + 0 ≤ 600000 by omega), (show v + 0 + 0 ≤ 7302250 by omega)⟩ (Nat.le_of_ble_eq_true rfl) dL_law_313 ?_
  refine h8 _ (fun P nx hJ => ?_)
  dsimp only [Option.toList, List.cons_append, List.nil_append]
  refine z_icmp_eq hX 807 dL_law_316 (by decide) (fun h316 => ?_) (fun h316 => ?_)
  rotate_left
  · exact absurd rfl h316
  exact z_widen (show u + 0 + 0 ≤ u + 5 by omega) (show v + 0 + 0 ≤ v + 47 by omega) (go P nx hJ)
set_option maxRecDepth 4000 in
theorem law_count {X : z_X} {l : Launch} (hX : z_is X l ML_law room_1) {L : Nat} {xs : Nat → Int32} (hsc : z_scr X L xs) (hL : L ≤ 3072) {i nx u v : Nat} {P : z_H} (hi : i + 5 < L) (hu : u + 5 ≤ 600000) (hv : v + 47 ≤ 7302250) (hJ : zJJ P nx) (go : ∀ (P : z_H) (nx : Nat), zJJ P nx → z_W X 807 [some (.ref 0), some (.ref 1), some (.ref 70), some (.int (nI i))] [] P nx (u + 5) (v + 47)) : z_W X 321 [some (.ref 0), some (.ref 1), some (.ref 70), some (.int (nI i))] [] P nx u v := by
  obtain ⟨fs, hfs⟩ := hJ.o
  refine z_aload_n hX dL_law_321 rfl ?_
  refine z_aload_n hX dL_law_322 rfl ?_
  refine z_iload_n hX dL_law_323 rfl ?_
  refine z_iconst hX (1) dL_law_324 (by decide) ?_
  refine z_iadd hX dL_law_325 ?_
  refine z_sld hX hsc (ix_in (show nI i + 1 = nI (i + 1) from nI_add i 1) (by omega) (by omega)) dL_law_326 ?_
  refine z_aload_n hX dL_law_327 rfl ?_
  refine z_iload_n hX dL_law_328 rfl ?_
  refine z_iconst hX (2) dL_law_329 (by decide) ?_
  refine z_iadd hX dL_law_330 ?_
  refine z_sld hX hsc (ix_in (show nI i + 2 = nI (i + 2) from nI_add i 2) (by omega) (by omega)) dL_law_331 ?_
  refine z_aload_n hX dL_law_332 rfl ?_
  refine z_iload_n hX dL_law_333 rfl ?_
  refine z_iconst hX (3) dL_law_334 (by decide) ?_
  refine z_iadd hX dL_law_335 ?_
  refine z_sld hX hsc (ix_in (show nI i + 3 = nI (i + 3) from nI_add i 3) (by omega) (by omega)) dL_law_336 ?_
  refine z_callV3 hX (sp7_count l) lm_L_37 hfs ⟨by decide, by decide, (show u + 0 ≤ 600000 by omega), (show v + 0 ≤ 7302250 by omega)⟩ (Nat.le_of_ble_eq_true rfl) dL_law_337 ?_
  refine pr_count _ _ _ P nx hJ _ (fun w P nx ⟨fs, hfs⟩ h8 => ?_)
  dsimp only [Option.toList, List.cons_append, List.nil_append]
  refine z_aload_n hX dL_law_340 rfl ?_
  refine z_aload_n hX dL_law_341 rfl ?_
  refine z_iload_n hX dL_law_342 rfl ?_
  refine z_iconst hX (1) dL_law_343 (by decide) ?_
  refine z_iadd hX dL_law_344 ?_
  refine z_sld hX hsc (ix_in (show nI i + 1 = nI (i + 1) from nI_add i 1) (by omega) (by omega)) dL_law_345 ?_
  refine z_aload_n hX dL_law_346 rfl ?_
  refine z_iload_n hX dL_law_347 rfl ?_
  refine z_iconst hX (2) dL_law_348 (by decide) ?_
  refine z_iadd hX dL_law_349 ?_
  refine z_sld hX hsc (ix_in (show nI i + 2 = nI (i + 2) from nI_add i 2) (by omega) (by omega)) dL_law_350 ?_
  refine z_aload_n hX dL_law_351 rfl ?_
  refine z_iload_n hX dL_law_352 rfl ?_
  refine z_iconst hX (3) dL_law_353 (by decide) ?_
  refine z_iadd hX dL_law_354 ?_
  refine z_sld hX hsc (ix_in (show nI i + 3 = nI (i + 3) from nI_add i 3) (by omega) (by omega)) dL_law_355 ?_
  refine z_callV3 hX (sp8_count l) lm_L_40 hfs ⟨by decide, by decide, (show u + 0 + 0 ≤ 600000 by omega), (show v + 0 + 0 ≤ 7302250 by omega)⟩ (Nat.le_of_ble_eq_true rfl) dL_law_356 ?_
  refine h8 _ (fun P nx hJ => ?_)
  dsimp only [Option.toList, List.cons_append, List.nil_append]
  refine z_icmp_eq hX 807 dL_law_359 (by decide) (fun h359 => ?_) (fun h359 => ?_)
  rotate_left
  · exact absurd rfl h359
  exact z_widen (show u + 0 + 0 ≤ u + 5 by omega) (show v + 0 + 0 ≤ v + 47 by omega) (go P nx hJ)
set_option maxRecDepth 4000 in
theorem law_year {X : z_X} {l : Launch} (hX : z_is X l ML_law room_1) {L : Nat} {xs : Nat → Int32} (hsc : z_scr X L xs) (hL : L ≤ 3072) {i nx u v : Nat} {P : z_H} (hi : i + 5 < L) (hu : u + 5 ≤ 600000) (hv : v + 47 ≤ 7302250) (hJ : zJJ P nx) (go : ∀ (P : z_H) (nx : Nat), zJJ P nx → z_W X 807 [some (.ref 0), some (.ref 1), some (.ref 70), some (.int (nI i))] [] P nx (u + 5) (v + 47)) : z_W X 364 [some (.ref 0), some (.ref 1), some (.ref 70), some (.int (nI i))] [] P nx u v := by
  obtain ⟨fs, hfs⟩ := hJ.o
  refine z_aload_n hX dL_law_364 rfl ?_
  refine z_aload_n hX dL_law_365 rfl ?_
  refine z_iload_n hX dL_law_366 rfl ?_
  refine z_iconst hX (1) dL_law_367 (by decide) ?_
  refine z_iadd hX dL_law_368 ?_
  refine z_sld hX hsc (ix_in (show nI i + 1 = nI (i + 1) from nI_add i 1) (by omega) (by omega)) dL_law_369 ?_
  refine z_callV1 hX (sp7_year l) lm_L_41 hfs ⟨by decide, by decide, (show u + 0 ≤ 600000 by omega), (show v + 0 ≤ 7302250 by omega)⟩ (Nat.le_of_ble_eq_true rfl) dL_law_370 ?_
  refine pr_year _ P nx hJ _ (fun w P nx ⟨fs, hfs⟩ h8 => ?_)
  dsimp only [Option.toList, List.cons_append, List.nil_append]
  refine z_aload_n hX dL_law_373 rfl ?_
  refine z_aload_n hX dL_law_374 rfl ?_
  refine z_iload_n hX dL_law_375 rfl ?_
  refine z_iconst hX (1) dL_law_376 (by decide) ?_
  refine z_iadd hX dL_law_377 ?_
  refine z_sld hX hsc (ix_in (show nI i + 1 = nI (i + 1) from nI_add i 1) (by omega) (by omega)) dL_law_378 ?_
  refine z_callV1 hX (sp8_year l) lm_L_45 hfs ⟨by decide, by decide, (show u + 0 + 0 ≤ 600000 by omega), (show v + 0 + 0 ≤ 7302250 by omega)⟩ (Nat.le_of_ble_eq_true rfl) dL_law_379 ?_
  refine h8 _ (fun P nx hJ => ?_)
  dsimp only [Option.toList, List.cons_append, List.nil_append]
  refine z_lcmp hX dL_law_382 ?_
  refine z_if_eq hX 807 dL_law_383 (by decide) (fun h383 => ?_) (fun h383 => ?_)
  rotate_left
  · exact absurd (lg_self w) h383
  exact z_widen (show u + 0 + 0 ≤ u + 5 by omega) (show v + 0 + 0 ≤ v + 47 by omega) (go P nx hJ)
set_option maxRecDepth 4000 in
theorem law_span {X : z_X} {l : Launch} (hX : z_is X l ML_law room_1) {L : Nat} {xs : Nat → Int32} (hsc : z_scr X L xs) (hL : L ≤ 3072) {i nx u v : Nat} {P : z_H} (hi : i + 5 < L) (hu : u + 5 ≤ 600000) (hv : v + 47 ≤ 7302250) (hJ : zJJ P nx) (go : ∀ (P : z_H) (nx : Nat), zJJ P nx → z_W X 807 [some (.ref 0), some (.ref 1), some (.ref 70), some (.int (nI i))] [] P nx (u + 5) (v + 47)) : z_W X 388 [some (.ref 0), some (.ref 1), some (.ref 70), some (.int (nI i))] [] P nx u v := by
  obtain ⟨fs, hfs⟩ := hJ.o
  refine z_aload_n hX dL_law_388 rfl ?_
  refine z_aload_n hX dL_law_389 rfl ?_
  refine z_iload_n hX dL_law_390 rfl ?_
  refine z_iconst hX (1) dL_law_391 (by decide) ?_
  refine z_iadd hX dL_law_392 ?_
  refine z_sld hX hsc (ix_in (show nI i + 1 = nI (i + 1) from nI_add i 1) (by omega) (by omega)) dL_law_393 ?_
  refine z_aload_n hX dL_law_394 rfl ?_
  refine z_iload_n hX dL_law_395 rfl ?_
  refine z_iconst hX (2) dL_law_396 (by decide) ?_
  refine z_iadd hX dL_law_397 ?_
  refine z_sld hX hsc (ix_in (show nI i + 2 = nI (i + 2) from nI_add i 2) (by omega) (by omega)) dL_law_398 ?_
  refine z_callV2 hX (sp7_span l) lm_L_46 hfs ⟨by decide, by decide, (show u + 0 ≤ 600000 by omega), (show v + 0 ≤ 7302250 by omega)⟩ (Nat.le_of_ble_eq_true rfl) dL_law_399 ?_
  refine pr_span _ _ P nx hJ _ (fun w P nx ⟨fs, hfs⟩ h8 => ?_)
  dsimp only [Option.toList, List.cons_append, List.nil_append]
  refine z_aload_n hX dL_law_402 rfl ?_
  refine z_aload_n hX dL_law_403 rfl ?_
  refine z_iload_n hX dL_law_404 rfl ?_
  refine z_iconst hX (1) dL_law_405 (by decide) ?_
  refine z_iadd hX dL_law_406 ?_
  refine z_sld hX hsc (ix_in (show nI i + 1 = nI (i + 1) from nI_add i 1) (by omega) (by omega)) dL_law_407 ?_
  refine z_aload_n hX dL_law_408 rfl ?_
  refine z_iload_n hX dL_law_409 rfl ?_
  refine z_iconst hX (2) dL_law_410 (by decide) ?_
  refine z_iadd hX dL_law_411 ?_
  refine z_sld hX hsc (ix_in (show nI i + 2 = nI (i + 2) from nI_add i 2) (by omega) (by omega)) dL_law_412 ?_
  refine z_callV2 hX (sp8_span l) lm_L_50 hfs ⟨by decide, by decide, (show u + 0 + 0 ≤ 600000 by omega), (show v + 0 + 0 ≤ 7302250 by omega)⟩ (Nat.le_of_ble_eq_true rfl) dL_law_413 ?_
  refine h8 _ (fun P nx hJ => ?_)
  dsimp only [Option.toList, List.cons_append, List.nil_append]
  refine z_lcmp hX dL_law_416 ?_
  refine z_if_eq hX 807 dL_law_417 (by decide) (fun h417 => ?_) (fun h417 => ?_)
  rotate_left
  · exact absurd (lg_self w) h417
  exact z_widen (show u + 0 + 0 ≤ u + 5 by omega) (show v + 0 + 0 ≤ v + 47 by omega) (go P nx hJ)
set_option maxRecDepth 4000 in
theorem law_best {X : z_X} {l : Launch} (hX : z_is X l ML_law room_1) {L : Nat} {xs : Nat → Int32} (hsc : z_scr X L xs) (hL : L ≤ 3072) {i nx u v : Nat} {P : z_H} (hi : i + 5 < L) (hu : u + 5 ≤ 600000) (hv : v + 47 ≤ 7302250) (hJ : zJJ P nx) (go : ∀ (P : z_H) (nx : Nat), zJJ P nx → z_W X 807 [some (.ref 0), some (.ref 1), some (.ref 70), some (.int (nI i))] [] P nx (u + 5) (v + 47)) : z_W X 422 [some (.ref 0), some (.ref 1), some (.ref 70), some (.int (nI i))] [] P nx u v := by
  obtain ⟨fs, hfs⟩ := hJ.o
  refine z_aload_n hX dL_law_422 rfl ?_
  refine z_aload_n hX dL_law_423 rfl ?_
  refine z_iload_n hX dL_law_424 rfl ?_
  refine z_iconst hX (1) dL_law_425 (by decide) ?_
  refine z_iadd hX dL_law_426 ?_
  refine z_sld hX hsc (ix_in (show nI i + 1 = nI (i + 1) from nI_add i 1) (by omega) (by omega)) dL_law_427 ?_
  refine z_callV1 hX (sp7_best l) lm_L_51 hfs ⟨by decide, by decide, (show u + 0 ≤ 600000 by omega), (show v + 0 ≤ 7302250 by omega)⟩ (Nat.le_of_ble_eq_true rfl) dL_law_428 ?_
  refine pr_best _ P nx hJ _ (fun w P nx ⟨fs, hfs⟩ h8 => ?_)
  dsimp only [Option.toList, List.cons_append, List.nil_append]
  refine z_aload_n hX dL_law_431 rfl ?_
  refine z_aload_n hX dL_law_432 rfl ?_
  refine z_iload_n hX dL_law_433 rfl ?_
  refine z_iconst hX (1) dL_law_434 (by decide) ?_
  refine z_iadd hX dL_law_435 ?_
  refine z_sld hX hsc (ix_in (show nI i + 1 = nI (i + 1) from nI_add i 1) (by omega) (by omega)) dL_law_436 ?_
  refine z_callV1 hX (sp8_best l) lm_L_55 hfs ⟨by decide, by decide, (show u + 0 + 0 ≤ 600000 by omega), (show v + 0 + 0 ≤ 7302250 by omega)⟩ (Nat.le_of_ble_eq_true rfl) dL_law_437 ?_
  refine h8 _ (fun P nx hJ => ?_)
  dsimp only [Option.toList, List.cons_append, List.nil_append]
  refine z_icmp_eq hX 807 dL_law_440 (by decide) (fun h440 => ?_) (fun h440 => ?_)
  rotate_left
  · exact absurd rfl h440
  exact z_widen (show u + 0 + 0 ≤ u + 5 by omega) (show v + 0 + 0 ≤ v + 47 by omega) (go P nx hJ)
set_option maxRecDepth 4000 in
theorem law_how {X : z_X} {l : Launch} (hX : z_is X l ML_law room_1) {L : Nat} {xs : Nat → Int32} (hsc : z_scr X L xs) (hL : L ≤ 3072) {i nx u v : Nat} {P : z_H} (hi : i + 5 < L) (hu : u + 5 ≤ 600000) (hv : v + 47 ≤ 7302250) (hJ : zJJ P nx) (go : ∀ (P : z_H) (nx : Nat), zJJ P nx → z_W X 807 [some (.ref 0), some (.ref 1), some (.ref 70), some (.int (nI i))] [] P nx (u + 5) (v + 47)) : z_W X 445 [some (.ref 0), some (.ref 1), some (.ref 70), some (.int (nI i))] [] P nx u v := by
  obtain ⟨fs, hfs⟩ := hJ.o
  refine z_aload_n hX dL_law_445 rfl ?_
  refine z_aload_n hX dL_law_446 rfl ?_
  refine z_iload_n hX dL_law_447 rfl ?_
  refine z_iconst hX (1) dL_law_448 (by decide) ?_
  refine z_iadd hX dL_law_449 ?_
  refine z_sld hX hsc (ix_in (show nI i + 1 = nI (i + 1) from nI_add i 1) (by omega) (by omega)) dL_law_450 ?_
  refine z_callV1 hX (sp7_how l) lm_L_56 hfs ⟨by decide, by decide, (show u + 0 ≤ 600000 by omega), (show v + 0 ≤ 7302250 by omega)⟩ (Nat.le_of_ble_eq_true rfl) dL_law_451 ?_
  refine pr_how _ P nx hJ _ (fun w P nx ⟨fs, hfs⟩ h8 => ?_)
  dsimp only [Option.toList, List.cons_append, List.nil_append]
  refine z_aload_n hX dL_law_454 rfl ?_
  refine z_aload_n hX dL_law_455 rfl ?_
  refine z_iload_n hX dL_law_456 rfl ?_
  refine z_iconst hX (1) dL_law_457 (by decide) ?_
  refine z_iadd hX dL_law_458 ?_
  refine z_sld hX hsc (ix_in (show nI i + 1 = nI (i + 1) from nI_add i 1) (by omega) (by omega)) dL_law_459 ?_
  refine z_callV1 hX (sp8_how l) lm_L_59 hfs ⟨by decide, by decide, (show u + 0 + 0 ≤ 600000 by omega), (show v + 0 + 0 ≤ 7302250 by omega)⟩ (Nat.le_of_ble_eq_true rfl) dL_law_460 ?_
  refine h8 _ (fun P nx hJ => ?_)
  dsimp only [Option.toList, List.cons_append, List.nil_append]
  refine z_icmp_eq hX 807 dL_law_463 (by decide) (fun h463 => ?_) (fun h463 => ?_)
  rotate_left
  · exact absurd rfl h463
  exact z_widen (show u + 0 + 0 ≤ u + 5 by omega) (show v + 0 + 0 ≤ v + 47 by omega) (go P nx hJ)
set_option maxRecDepth 4000 in
theorem law_load {X : z_X} {l : Launch} (hX : z_is X l ML_law room_1) {L : Nat} {xs : Nat → Int32} (hsc : z_scr X L xs) (hL : L ≤ 3072) {i nx u v : Nat} {P : z_H} (hi : i + 5 < L) (hu : u + 5 ≤ 600000) (hv : v + 47 ≤ 7302250) (hJ : zJJ P nx) (go : ∀ (P : z_H) (nx : Nat), zJJ P nx → z_W X 807 [some (.ref 0), some (.ref 1), some (.ref 70), some (.int (nI i))] [] P nx (u + 5) (v + 47)) : z_W X 468 [some (.ref 0), some (.ref 1), some (.ref 70), some (.int (nI i))] [] P nx u v := by
  obtain ⟨fs, hfs⟩ := hJ.o
  refine z_aload_n hX dL_law_468 rfl ?_
  refine z_aload_n hX dL_law_469 rfl ?_
  refine z_iload_n hX dL_law_470 rfl ?_
  refine z_iconst hX (1) dL_law_471 (by decide) ?_
  refine z_iadd hX dL_law_472 ?_
  refine z_sld hX hsc (ix_in (show nI i + 1 = nI (i + 1) from nI_add i 1) (by omega) (by omega)) dL_law_473 ?_
  refine z_callV1 hX (sp7_load l) lm_L_60 hfs ⟨by decide, by decide, (show u + 0 ≤ 600000 by omega), (show v + 0 ≤ 7302250 by omega)⟩ (Nat.le_of_ble_eq_true rfl) dL_law_474 ?_
  refine pr_load _ P nx hJ _ (fun w P nx ⟨fs, hfs⟩ h8 => ?_)
  dsimp only [Option.toList, List.cons_append, List.nil_append]
  refine z_aload_n hX dL_law_477 rfl ?_
  refine z_aload_n hX dL_law_478 rfl ?_
  refine z_iload_n hX dL_law_479 rfl ?_
  refine z_iconst hX (1) dL_law_480 (by decide) ?_
  refine z_iadd hX dL_law_481 ?_
  refine z_sld hX hsc (ix_in (show nI i + 1 = nI (i + 1) from nI_add i 1) (by omega) (by omega)) dL_law_482 ?_
  refine z_callV1 hX (sp8_load l) lm_L_63 hfs ⟨by decide, by decide, (show u + 0 + 0 ≤ 600000 by omega), (show v + 0 + 0 ≤ 7302250 by omega)⟩ (Nat.le_of_ble_eq_true rfl) dL_law_483 ?_
  refine h8 _ (fun P nx hJ => ?_)
  dsimp only [Option.toList, List.cons_append, List.nil_append]
  refine z_lcmp hX dL_law_486 ?_
  refine z_if_eq hX 807 dL_law_487 (by decide) (fun h487 => ?_) (fun h487 => ?_)
  rotate_left
  · exact absurd (lg_self w) h487
  exact z_widen (show u + 0 + 0 ≤ u + 5 by omega) (show v + 0 + 0 ≤ v + 47 by omega) (go P nx hJ)
set_option maxRecDepth 4000 in
theorem law_balances {X : z_X} {l : Launch} (hX : z_is X l ML_law room_1) {L : Nat} {xs : Nat → Int32} (hsc : z_scr X L xs) (hL : L ≤ 3072) {i nx u v : Nat} {P : z_H} (hi : i + 5 < L) (hu : u + 5 ≤ 600000) (hv : v + 47 ≤ 7302250) (hJ : zJJ P nx) (go : ∀ (P : z_H) (nx : Nat), zJJ P nx → z_W X 807 [some (.ref 0), some (.ref 1), some (.ref 70), some (.int (nI i))] [] P nx (u + 5) (v + 47)) : z_W X 492 [some (.ref 0), some (.ref 1), some (.ref 70), some (.int (nI i))] [] P nx u v := by
  obtain ⟨fs, hfs⟩ := hJ.o
  refine z_aload_n hX dL_law_492 rfl ?_
  refine z_aload_n hX dL_law_493 rfl ?_
  refine z_iload_n hX dL_law_494 rfl ?_
  refine z_iconst hX (1) dL_law_495 (by decide) ?_
  refine z_iadd hX dL_law_496 ?_
  refine z_sld hX hsc (ix_in (show nI i + 1 = nI (i + 1) from nI_add i 1) (by omega) (by omega)) dL_law_497 ?_
  refine z_callV1 hX (sp7_balances l) lm_L_64 hfs ⟨by decide, by decide, (show u + 0 ≤ 600000 by omega), (show v + 0 ≤ 7302250 by omega)⟩ (Nat.le_of_ble_eq_true rfl) dL_law_498 ?_
  refine pr_balances _ P nx hJ _ (fun w P nx ⟨fs, hfs⟩ h8 => ?_)
  dsimp only [Option.toList, List.cons_append, List.nil_append]
  refine z_aload_n hX dL_law_501 rfl ?_
  refine z_aload_n hX dL_law_502 rfl ?_
  refine z_iload_n hX dL_law_503 rfl ?_
  refine z_iconst hX (1) dL_law_504 (by decide) ?_
  refine z_iadd hX dL_law_505 ?_
  refine z_sld hX hsc (ix_in (show nI i + 1 = nI (i + 1) from nI_add i 1) (by omega) (by omega)) dL_law_506 ?_
  refine z_callV1 hX (sp8_balances l) lm_L_67 hfs ⟨by decide, by decide, (show u + 0 + 0 ≤ 600000 by omega), (show v + 0 + 0 ≤ 7302250 by omega)⟩ (Nat.le_of_ble_eq_true rfl) dL_law_507 ?_
  refine h8 _ (fun P nx hJ => ?_)
  dsimp only [Option.toList, List.cons_append, List.nil_append]
  refine z_icmp_eq hX 807 dL_law_510 (by decide) (fun h510 => ?_) (fun h510 => ?_)
  rotate_left
  · exact absurd rfl h510
  exact z_widen (show u + 0 + 0 ≤ u + 5 by omega) (show v + 0 + 0 ≤ v + 47 by omega) (go P nx hJ)
set_option maxRecDepth 4000 in
theorem law_balance {X : z_X} {l : Launch} (hX : z_is X l ML_law room_1) {L : Nat} {xs : Nat → Int32} (hsc : z_scr X L xs) (hL : L ≤ 3072) {i nx u v : Nat} {P : z_H} (hi : i + 5 < L) (hu : u + 5 ≤ 600000) (hv : v + 47 ≤ 7302250) (hJ : zJJ P nx) (go : ∀ (P : z_H) (nx : Nat), zJJ P nx → z_W X 807 [some (.ref 0), some (.ref 1), some (.ref 70), some (.int (nI i))] [] P nx (u + 5) (v + 47)) : z_W X 515 [some (.ref 0), some (.ref 1), some (.ref 70), some (.int (nI i))] [] P nx u v := by
  obtain ⟨fs, hfs⟩ := hJ.o
  refine z_aload_n hX dL_law_515 rfl ?_
  refine z_aload_n hX dL_law_516 rfl ?_
  refine z_iload_n hX dL_law_517 rfl ?_
  refine z_iconst hX (1) dL_law_518 (by decide) ?_
  refine z_iadd hX dL_law_519 ?_
  refine z_sld hX hsc (ix_in (show nI i + 1 = nI (i + 1) from nI_add i 1) (by omega) (by omega)) dL_law_520 ?_
  refine z_callV1 hX (sp7_balance l) lm_L_68 hfs ⟨by decide, by decide, (show u + 0 ≤ 600000 by omega), (show v + 0 ≤ 7302250 by omega)⟩ (Nat.le_of_ble_eq_true rfl) dL_law_521 ?_
  refine pr_balance _ P nx hJ _ (fun w P nx ⟨fs, hfs⟩ h8 => ?_)
  dsimp only [Option.toList, List.cons_append, List.nil_append]
  refine z_aload_n hX dL_law_524 rfl ?_
  refine z_aload_n hX dL_law_525 rfl ?_
  refine z_iload_n hX dL_law_526 rfl ?_
  refine z_iconst hX (1) dL_law_527 (by decide) ?_
  refine z_iadd hX dL_law_528 ?_
  refine z_sld hX hsc (ix_in (show nI i + 1 = nI (i + 1) from nI_add i 1) (by omega) (by omega)) dL_law_529 ?_
  refine z_callV1 hX (sp8_balance l) lm_L_71 hfs ⟨by decide, by decide, (show u + 0 + 0 ≤ 600000 by omega), (show v + 0 + 0 ≤ 7302250 by omega)⟩ (Nat.le_of_ble_eq_true rfl) dL_law_530 ?_
  refine h8 _ (fun P nx hJ => ?_)
  dsimp only [Option.toList, List.cons_append, List.nil_append]
  refine z_lcmp hX dL_law_533 ?_
  refine z_if_eq hX 807 dL_law_534 (by decide) (fun h534 => ?_) (fun h534 => ?_)
  rotate_left
  · exact absurd (lg_self w) h534
  exact z_widen (show u + 0 + 0 ≤ u + 5 by omega) (show v + 0 + 0 ≤ v + 47 by omega) (go P nx hJ)
set_option maxRecDepth 4000 in
theorem law_does {X : z_X} {l : Launch} (hX : z_is X l ML_law room_1) {L : Nat} {xs : Nat → Int32} (hsc : z_scr X L xs) (hL : L ≤ 3072) {i nx u v : Nat} {P : z_H} (hi : i + 5 < L) (hu : u + 5 ≤ 600000) (hv : v + 47 ≤ 7302250) (hJ : zJJ P nx) (go : ∀ (P : z_H) (nx : Nat), zJJ P nx → z_W X 807 [some (.ref 0), some (.ref 1), some (.ref 70), some (.int (nI i))] [] P nx (u + 5) (v + 47)) : z_W X 539 [some (.ref 0), some (.ref 1), some (.ref 70), some (.int (nI i))] [] P nx u v := by
  obtain ⟨fs, hfs⟩ := hJ.o
  refine z_aload_n hX dL_law_539 rfl ?_
  refine z_aload_n hX dL_law_540 rfl ?_
  refine z_iload_n hX dL_law_541 rfl ?_
  refine z_iconst hX (1) dL_law_542 (by decide) ?_
  refine z_iadd hX dL_law_543 ?_
  refine z_sld hX hsc (ix_in (show nI i + 1 = nI (i + 1) from nI_add i 1) (by omega) (by omega)) dL_law_544 ?_
  refine z_callV1 hX (sp7_does l) lm_L_72 hfs ⟨by decide, by decide, (show u + 0 ≤ 600000 by omega), (show v + 0 ≤ 7302250 by omega)⟩ (Nat.le_of_ble_eq_true rfl) dL_law_545 ?_
  refine pr_does _ P nx hJ _ (fun w P nx ⟨fs, hfs⟩ h8 => ?_)
  dsimp only [Option.toList, List.cons_append, List.nil_append]
  refine z_aload_n hX dL_law_548 rfl ?_
  refine z_aload_n hX dL_law_549 rfl ?_
  refine z_iload_n hX dL_law_550 rfl ?_
  refine z_iconst hX (1) dL_law_551 (by decide) ?_
  refine z_iadd hX dL_law_552 ?_
  refine z_sld hX hsc (ix_in (show nI i + 1 = nI (i + 1) from nI_add i 1) (by omega) (by omega)) dL_law_553 ?_
  refine z_callV1 hX (sp8_does l) lm_L_75 hfs ⟨by decide, by decide, (show u + 0 + 0 ≤ 600000 by omega), (show v + 0 + 0 ≤ 7302250 by omega)⟩ (Nat.le_of_ble_eq_true rfl) dL_law_554 ?_
  refine h8 _ (fun P nx hJ => ?_)
  dsimp only [Option.toList, List.cons_append, List.nil_append]
  refine z_icmp_eq hX 807 dL_law_557 (by decide) (fun h557 => ?_) (fun h557 => ?_)
  rotate_left
  · exact absurd rfl h557
  exact z_widen (show u + 0 + 0 ≤ u + 5 by omega) (show v + 0 + 0 ≤ v + 47 by omega) (go P nx hJ)
set_option maxRecDepth 4000 in
theorem law_plan {X : z_X} {l : Launch} (hX : z_is X l ML_law room_1) {L : Nat} {xs : Nat → Int32} (hsc : z_scr X L xs) (hL : L ≤ 3072) {i nx u v : Nat} {P : z_H} (hi : i + 5 < L) (hu : u + 5 ≤ 600000) (hv : v + 47 ≤ 7302250) (hJ : zJJ P nx) (go : ∀ (P : z_H) (nx : Nat), zJJ P nx → z_W X 807 [some (.ref 0), some (.ref 1), some (.ref 70), some (.int (nI i))] [] P nx (u + 5) (v + 47)) : z_W X 562 [some (.ref 0), some (.ref 1), some (.ref 70), some (.int (nI i))] [] P nx u v := by
  obtain ⟨fs, hfs⟩ := hJ.o
  refine z_aload_n hX dL_law_562 rfl ?_
  refine z_callV0 hX (sp7_plan l) lm_L_76 hfs ⟨by decide, by decide, (show u + 0 ≤ 600000 by omega), (show v + 0 ≤ 7302250 by omega)⟩ (Nat.le_of_ble_eq_true rfl) dL_law_563 ?_
  refine pr_plan P nx hJ _ (fun w P nx ⟨fs, hfs⟩ h8 => ?_)
  dsimp only [Option.toList, List.cons_append, List.nil_append]
  refine z_aload_n hX dL_law_566 rfl ?_
  refine z_callV0 hX (sp8_plan l) lm_L_80 hfs ⟨by decide, by decide, (show u + 0 + 0 ≤ 600000 by omega), (show v + 0 + 0 ≤ 7302250 by omega)⟩ (Nat.le_of_ble_eq_true rfl) dL_law_567 ?_
  refine h8 _ (fun P nx hJ => ?_)
  dsimp only [Option.toList, List.cons_append, List.nil_append]
  refine z_icmp_eq hX 807 dL_law_570 (by decide) (fun h570 => ?_) (fun h570 => ?_)
  rotate_left
  · exact absurd rfl h570
  exact z_widen (show u + 0 + 0 ≤ u + 5 by omega) (show v + 0 + 0 ≤ v + 47 by omega) (go P nx hJ)
set_option maxRecDepth 4000 in
theorem law_feed {X : z_X} {l : Launch} (hX : z_is X l ML_law room_1) {L : Nat} {xs : Nat → Int32} (hsc : z_scr X L xs) (hL : L ≤ 3072) {i nx u v : Nat} {P : z_H} (hi : i + 5 < L) (hu : u + 5 ≤ 600000) (hv : v + 47 ≤ 7302250) (hJ : zJJ P nx) (go : ∀ (P : z_H) (nx : Nat), zJJ P nx → z_W X 807 [some (.ref 0), some (.ref 1), some (.ref 70), some (.int (nI i))] [] P nx (u + 5) (v + 47)) : z_W X 575 [some (.ref 0), some (.ref 1), some (.ref 70), some (.int (nI i))] [] P nx u v := by
  obtain ⟨fs, hfs⟩ := hJ.o
  refine z_aload_n hX dL_law_575 rfl ?_
  refine z_aload_n hX dL_law_576 rfl ?_
  refine z_iload_n hX dL_law_577 rfl ?_
  refine z_iconst hX (1) dL_law_578 (by decide) ?_
  refine z_iadd hX dL_law_579 ?_
  refine z_sld hX hsc (ix_in (show nI i + 1 = nI (i + 1) from nI_add i 1) (by omega) (by omega)) dL_law_580 ?_
  refine z_aload_n hX dL_law_581 rfl ?_
  refine z_iload_n hX dL_law_582 rfl ?_
  refine z_iconst hX (2) dL_law_583 (by decide) ?_
  refine z_iadd hX dL_law_584 ?_
  refine z_sld hX hsc (ix_in (show nI i + 2 = nI (i + 2) from nI_add i 2) (by omega) (by omega)) dL_law_585 ?_
  refine z_aload_n hX dL_law_586 rfl ?_
  refine z_iload_n hX dL_law_587 rfl ?_
  refine z_iconst hX (3) dL_law_588 (by decide) ?_
  refine z_iadd hX dL_law_589 ?_
  refine z_sld hX hsc (ix_in (show nI i + 3 = nI (i + 3) from nI_add i 3) (by omega) (by omega)) dL_law_590 ?_
  refine z_aload_n hX dL_law_591 rfl ?_
  refine z_iload_n hX dL_law_592 rfl ?_
  refine z_iconst hX (4) dL_law_593 (by decide) ?_
  refine z_iadd hX dL_law_594 ?_
  refine z_sld hX hsc (ix_in (show nI i + 4 = nI (i + 4) from nI_add i 4) (by omega) (by omega)) dL_law_595 ?_
  refine z_aload_n hX dL_law_596 rfl ?_
  refine z_iload_n hX dL_law_597 rfl ?_
  refine z_iconst hX (5) dL_law_598 (by decide) ?_
  refine z_iadd hX dL_law_599 ?_
  refine z_sld hX hsc (ix_in (show nI i + 5 = nI (i + 5) from nI_add i 5) (by omega) (by omega)) dL_law_600 ?_
  refine z_callV5 hX (sp7_feed l) lm_L_81 hfs ⟨by decide, by decide, (show u + 0 ≤ 600000 by omega), (show v + 0 ≤ 7302250 by omega)⟩ (Nat.le_of_ble_eq_true rfl) dL_law_601 ?_
  refine pr_feed _ _ _ _ _ P nx hJ _ (fun w P nx ⟨fs, hfs⟩ h8 => ?_)
  dsimp only [Option.toList, List.cons_append, List.nil_append]
  refine z_aload_n hX dL_law_604 rfl ?_
  refine z_aload_n hX dL_law_605 rfl ?_
  refine z_iload_n hX dL_law_606 rfl ?_
  refine z_iconst hX (1) dL_law_607 (by decide) ?_
  refine z_iadd hX dL_law_608 ?_
  refine z_sld hX hsc (ix_in (show nI i + 1 = nI (i + 1) from nI_add i 1) (by omega) (by omega)) dL_law_609 ?_
  refine z_aload_n hX dL_law_610 rfl ?_
  refine z_iload_n hX dL_law_611 rfl ?_
  refine z_iconst hX (2) dL_law_612 (by decide) ?_
  refine z_iadd hX dL_law_613 ?_
  refine z_sld hX hsc (ix_in (show nI i + 2 = nI (i + 2) from nI_add i 2) (by omega) (by omega)) dL_law_614 ?_
  refine z_aload_n hX dL_law_615 rfl ?_
  refine z_iload_n hX dL_law_616 rfl ?_
  refine z_iconst hX (3) dL_law_617 (by decide) ?_
  refine z_iadd hX dL_law_618 ?_
  refine z_sld hX hsc (ix_in (show nI i + 3 = nI (i + 3) from nI_add i 3) (by omega) (by omega)) dL_law_619 ?_
  refine z_aload_n hX dL_law_620 rfl ?_
  refine z_iload_n hX dL_law_621 rfl ?_
  refine z_iconst hX (4) dL_law_622 (by decide) ?_
  refine z_iadd hX dL_law_623 ?_
  refine z_sld hX hsc (ix_in (show nI i + 4 = nI (i + 4) from nI_add i 4) (by omega) (by omega)) dL_law_624 ?_
  refine z_aload_n hX dL_law_625 rfl ?_
  refine z_iload_n hX dL_law_626 rfl ?_
  refine z_iconst hX (5) dL_law_627 (by decide) ?_
  refine z_iadd hX dL_law_628 ?_
  refine z_sld hX hsc (ix_in (show nI i + 5 = nI (i + 5) from nI_add i 5) (by omega) (by omega)) dL_law_629 ?_
  refine z_callV5 hX (sp8_feed l) lm_L_85 hfs ⟨by decide, by decide, (show u + 0 + 0 ≤ 600000 by omega), (show v + 0 + 0 ≤ 7302250 by omega)⟩ (Nat.le_of_ble_eq_true rfl) dL_law_630 ?_
  refine h8 _ (fun P nx hJ => ?_)
  dsimp only [Option.toList, List.cons_append, List.nil_append]
  refine z_icmp_eq hX 807 dL_law_633 (by decide) (fun h633 => ?_) (fun h633 => ?_)
  rotate_left
  · exact absurd rfl h633
  exact z_widen (show u + 0 + 0 ≤ u + 5 by omega) (show v + 0 + 0 ≤ v + 47 by omega) (go P nx hJ)
set_option maxRecDepth 4000 in
theorem law_rules {X : z_X} {l : Launch} (hX : z_is X l ML_law room_1) {L : Nat} {xs : Nat → Int32} (hsc : z_scr X L xs) (hL : L ≤ 3072) {i nx u v : Nat} {P : z_H} (hi : i + 5 < L) (hu : u + 5 ≤ 600000) (hv : v + 47 ≤ 7302250) (hJ : zJJ P nx) (go : ∀ (P : z_H) (nx : Nat), zJJ P nx → z_W X 807 [some (.ref 0), some (.ref 1), some (.ref 70), some (.int (nI i))] [] P nx (u + 5) (v + 47)) : z_W X 638 [some (.ref 0), some (.ref 1), some (.ref 70), some (.int (nI i))] [] P nx u v := by
  obtain ⟨fs, hfs⟩ := hJ.o
  refine z_aload_n hX dL_law_638 rfl ?_
  refine z_aload_n hX dL_law_639 rfl ?_
  refine z_iload_n hX dL_law_640 rfl ?_
  refine z_iconst hX (1) dL_law_641 (by decide) ?_
  refine z_iadd hX dL_law_642 ?_
  refine z_sld hX hsc (ix_in (show nI i + 1 = nI (i + 1) from nI_add i 1) (by omega) (by omega)) dL_law_643 ?_
  refine z_callV1 hX (sp7_rules l) lm_L_86 hfs ⟨by decide, by decide, (show u + 0 ≤ 600000 by omega), (show v + 0 ≤ 7302250 by omega)⟩ (Nat.le_of_ble_eq_true rfl) dL_law_644 ?_
  refine pr_rules _ P nx hJ _ (fun w P nx ⟨fs, hfs⟩ h8 => ?_)
  dsimp only [Option.toList, List.cons_append, List.nil_append]
  refine z_aload_n hX dL_law_647 rfl ?_
  refine z_aload_n hX dL_law_648 rfl ?_
  refine z_iload_n hX dL_law_649 rfl ?_
  refine z_iconst hX (1) dL_law_650 (by decide) ?_
  refine z_iadd hX dL_law_651 ?_
  refine z_sld hX hsc (ix_in (show nI i + 1 = nI (i + 1) from nI_add i 1) (by omega) (by omega)) dL_law_652 ?_
  refine z_callV1 hX (sp8_rules l) lm_L_89 hfs ⟨by decide, by decide, (show u + 0 + 0 ≤ 600000 by omega), (show v + 0 + 0 ≤ 7302250 by omega)⟩ (Nat.le_of_ble_eq_true rfl) dL_law_653 ?_
  refine h8 _ (fun P nx hJ => ?_)
  dsimp only [Option.toList, List.cons_append, List.nil_append]
  refine z_icmp_eq hX 807 dL_law_656 (by decide) (fun h656 => ?_) (fun h656 => ?_)
  rotate_left
  · exact absurd rfl h656
  exact z_widen (show u + 0 + 0 ≤ u + 5 by omega) (show v + 0 + 0 ≤ v + 47 by omega) (go P nx hJ)
set_option maxRecDepth 4000 in
theorem law_pass {X : z_X} {l : Launch} (hX : z_is X l ML_law room_1) {L : Nat} {xs : Nat → Int32} (hsc : z_scr X L xs) (hL : L ≤ 3072) {i nx u v : Nat} {P : z_H} (hi : i + 5 < L) (hu : u + 5 ≤ 600000) (hv : v + 47 ≤ 7302250) (hJ : zJJ P nx) (go : ∀ (P : z_H) (nx : Nat), zJJ P nx → z_W X 807 [some (.ref 0), some (.ref 1), some (.ref 70), some (.int (nI i))] [] P nx (u + 5) (v + 47)) : z_W X 661 [some (.ref 0), some (.ref 1), some (.ref 70), some (.int (nI i))] [] P nx u v := by
  obtain ⟨fs, hfs⟩ := hJ.o
  refine z_aload_n hX dL_law_661 rfl ?_
  refine z_aload_n hX dL_law_662 rfl ?_
  refine z_iload_n hX dL_law_663 rfl ?_
  refine z_iconst hX (1) dL_law_664 (by decide) ?_
  refine z_iadd hX dL_law_665 ?_
  refine z_sld hX hsc (ix_in (show nI i + 1 = nI (i + 1) from nI_add i 1) (by omega) (by omega)) dL_law_666 ?_
  refine z_aload_n hX dL_law_667 rfl ?_
  refine z_iload_n hX dL_law_668 rfl ?_
  refine z_iconst hX (2) dL_law_669 (by decide) ?_
  refine z_iadd hX dL_law_670 ?_
  refine z_sld hX hsc (ix_in (show nI i + 2 = nI (i + 2) from nI_add i 2) (by omega) (by omega)) dL_law_671 ?_
  refine z_callV2 hX (sp7_pass l) lm_L_90 hfs ⟨by decide, by decide, (show u + 0 ≤ 600000 by omega), (show v + 0 ≤ 7302250 by omega)⟩ (Nat.le_of_ble_eq_true rfl) dL_law_672 ?_
  refine pr_pass _ _ P nx hJ _ (fun w P nx ⟨fs, hfs⟩ h8 => ?_)
  dsimp only [Option.toList, List.cons_append, List.nil_append]
  refine z_aload_n hX dL_law_675 rfl ?_
  refine z_aload_n hX dL_law_676 rfl ?_
  refine z_iload_n hX dL_law_677 rfl ?_
  refine z_iconst hX (1) dL_law_678 (by decide) ?_
  refine z_iadd hX dL_law_679 ?_
  refine z_sld hX hsc (ix_in (show nI i + 1 = nI (i + 1) from nI_add i 1) (by omega) (by omega)) dL_law_680 ?_
  refine z_aload_n hX dL_law_681 rfl ?_
  refine z_iload_n hX dL_law_682 rfl ?_
  refine z_iconst hX (2) dL_law_683 (by decide) ?_
  refine z_iadd hX dL_law_684 ?_
  refine z_sld hX hsc (ix_in (show nI i + 2 = nI (i + 2) from nI_add i 2) (by omega) (by omega)) dL_law_685 ?_
  refine z_callV2 hX (sp8_pass l) lm_L_94 hfs ⟨by decide, by decide, (show u + 0 + 0 ≤ 600000 by omega), (show v + 0 + 0 ≤ 7302250 by omega)⟩ (Nat.le_of_ble_eq_true rfl) dL_law_686 ?_
  refine h8 _ (fun P nx hJ => ?_)
  dsimp only [Option.toList, List.cons_append, List.nil_append]
  refine z_icmp_eq hX 807 dL_law_689 (by decide) (fun h689 => ?_) (fun h689 => ?_)
  rotate_left
  · exact absurd rfl h689
  exact z_widen (show u + 0 + 0 ≤ u + 5 by omega) (show v + 0 + 0 ≤ v + 47 by omega) (go P nx hJ)
set_option maxRecDepth 4000 in
theorem law_kinds {X : z_X} {l : Launch} (hX : z_is X l ML_law room_1) {L : Nat} {xs : Nat → Int32} (hsc : z_scr X L xs) (hL : L ≤ 3072) {i nx u v : Nat} {P : z_H} (hi : i + 5 < L) (hu : u + 5 ≤ 600000) (hv : v + 47 ≤ 7302250) (hJ : zJJ P nx) (go : ∀ (P : z_H) (nx : Nat), zJJ P nx → z_W X 807 [some (.ref 0), some (.ref 1), some (.ref 70), some (.int (nI i))] [] P nx (u + 5) (v + 47)) : z_W X 694 [some (.ref 0), some (.ref 1), some (.ref 70), some (.int (nI i))] [] P nx u v := by
  obtain ⟨fs, hfs⟩ := hJ.o
  refine z_aload_n hX dL_law_694 rfl ?_
  refine z_aload_n hX dL_law_695 rfl ?_
  refine z_iload_n hX dL_law_696 rfl ?_
  refine z_iconst hX (1) dL_law_697 (by decide) ?_
  refine z_iadd hX dL_law_698 ?_
  refine z_sld hX hsc (ix_in (show nI i + 1 = nI (i + 1) from nI_add i 1) (by omega) (by omega)) dL_law_699 ?_
  refine z_aload_n hX dL_law_700 rfl ?_
  refine z_iload_n hX dL_law_701 rfl ?_
  refine z_iconst hX (2) dL_law_702 (by decide) ?_
  refine z_iadd hX dL_law_703 ?_
  refine z_sld hX hsc (ix_in (show nI i + 2 = nI (i + 2) from nI_add i 2) (by omega) (by omega)) dL_law_704 ?_
  refine z_callV2 hX (sp7_kinds l) lm_L_95 hfs ⟨by decide, by decide, (show u + 0 ≤ 600000 by omega), (show v + 0 ≤ 7302250 by omega)⟩ (Nat.le_of_ble_eq_true rfl) dL_law_705 ?_
  refine pr_kinds _ _ P nx hJ _ (fun w P nx ⟨fs, hfs⟩ h8 => ?_)
  dsimp only [Option.toList, List.cons_append, List.nil_append]
  refine z_aload_n hX dL_law_708 rfl ?_
  refine z_aload_n hX dL_law_709 rfl ?_
  refine z_iload_n hX dL_law_710 rfl ?_
  refine z_iconst hX (1) dL_law_711 (by decide) ?_
  refine z_iadd hX dL_law_712 ?_
  refine z_sld hX hsc (ix_in (show nI i + 1 = nI (i + 1) from nI_add i 1) (by omega) (by omega)) dL_law_713 ?_
  refine z_aload_n hX dL_law_714 rfl ?_
  refine z_iload_n hX dL_law_715 rfl ?_
  refine z_iconst hX (2) dL_law_716 (by decide) ?_
  refine z_iadd hX dL_law_717 ?_
  refine z_sld hX hsc (ix_in (show nI i + 2 = nI (i + 2) from nI_add i 2) (by omega) (by omega)) dL_law_718 ?_
  refine z_callV2 hX (sp8_kinds l) lm_L_98 hfs ⟨by decide, by decide, (show u + 0 + 0 ≤ 600000 by omega), (show v + 0 + 0 ≤ 7302250 by omega)⟩ (Nat.le_of_ble_eq_true rfl) dL_law_719 ?_
  refine h8 _ (fun P nx hJ => ?_)
  dsimp only [Option.toList, List.cons_append, List.nil_append]
  refine z_icmp_eq hX 807 dL_law_722 (by decide) (fun h722 => ?_) (fun h722 => ?_)
  rotate_left
  · exact absurd rfl h722
  exact z_widen (show u + 0 + 0 ≤ u + 5 by omega) (show v + 0 + 0 ≤ v + 47 by omega) (go P nx hJ)
set_option maxRecDepth 4000 in
theorem law_whole {X : z_X} {l : Launch} (hX : z_is X l ML_law room_1) {L : Nat} {xs : Nat → Int32} (hsc : z_scr X L xs) (hL : L ≤ 3072) {i nx u v : Nat} {P : z_H} (hi : i + 5 < L) (hu : u + 5 ≤ 600000) (hv : v + 47 ≤ 7302250) (hJ : zJJ P nx) (go : ∀ (P : z_H) (nx : Nat), zJJ P nx → z_W X 807 [some (.ref 0), some (.ref 1), some (.ref 70), some (.int (nI i))] [] P nx (u + 5) (v + 47)) : z_W X 727 [some (.ref 0), some (.ref 1), some (.ref 70), some (.int (nI i))] [] P nx u v := by
  obtain ⟨fs, hfs⟩ := hJ.o
  refine z_aload_n hX dL_law_727 rfl ?_
  refine z_aload_n hX dL_law_728 rfl ?_
  refine z_iload_n hX dL_law_729 rfl ?_
  refine z_iconst hX (1) dL_law_730 (by decide) ?_
  refine z_iadd hX dL_law_731 ?_
  refine z_sld hX hsc (ix_in (show nI i + 1 = nI (i + 1) from nI_add i 1) (by omega) (by omega)) dL_law_732 ?_
  refine z_callV1 hX (sp7_whole l) lm_L_99 hfs ⟨by decide, by decide, (show u + 0 ≤ 600000 by omega), (show v + 0 ≤ 7302250 by omega)⟩ (Nat.le_of_ble_eq_true rfl) dL_law_733 ?_
  refine pr_whole _ P nx hJ _ (fun w P nx ⟨fs, hfs⟩ h8 => ?_)
  dsimp only [Option.toList, List.cons_append, List.nil_append]
  refine z_aload_n hX dL_law_736 rfl ?_
  refine z_aload_n hX dL_law_737 rfl ?_
  refine z_iload_n hX dL_law_738 rfl ?_
  refine z_iconst hX (1) dL_law_739 (by decide) ?_
  refine z_iadd hX dL_law_740 ?_
  refine z_sld hX hsc (ix_in (show nI i + 1 = nI (i + 1) from nI_add i 1) (by omega) (by omega)) dL_law_741 ?_
  refine z_callV1 hX (sp8_whole l) lm_L_102 hfs ⟨by decide, by decide, (show u + 0 + 0 ≤ 600000 by omega), (show v + 0 + 0 ≤ 7302250 by omega)⟩ (Nat.le_of_ble_eq_true rfl) dL_law_742 ?_
  refine h8 _ (fun P nx hJ => ?_)
  dsimp only [Option.toList, List.cons_append, List.nil_append]
  refine z_lcmp hX dL_law_745 ?_
  refine z_if_eq hX 807 dL_law_746 (by decide) (fun h746 => ?_) (fun h746 => ?_)
  rotate_left
  · exact absurd (lg_self w) h746
  exact z_widen (show u + 0 + 0 ≤ u + 5 by omega) (show v + 0 + 0 ≤ v + 47 by omega) (go P nx hJ)
set_option maxRecDepth 4000 in
theorem law_look {X : z_X} {l : Launch} (hX : z_is X l ML_law room_1) {L : Nat} {xs : Nat → Int32} (hsc : z_scr X L xs) (hL : L ≤ 3072) {i nx u v : Nat} {P : z_H} (hi : i + 5 < L) (hu : u + 5 ≤ 600000) (hv : v + 47 ≤ 7302250) (hJ : zJJ P nx) (go : ∀ (P : z_H) (nx : Nat), zJJ P nx → z_W X 807 [some (.ref 0), some (.ref 1), some (.ref 70), some (.int (nI i))] [] P nx (u + 5) (v + 47)) : z_W X 751 [some (.ref 0), some (.ref 1), some (.ref 70), some (.int (nI i))] [] P nx u v := by
  obtain ⟨fs, hfs⟩ := hJ.o
  refine z_aload_n hX dL_law_751 rfl ?_
  refine z_aload_n hX dL_law_752 rfl ?_
  refine z_iload_n hX dL_law_753 rfl ?_
  refine z_iconst hX (1) dL_law_754 (by decide) ?_
  refine z_iadd hX dL_law_755 ?_
  refine z_sld hX hsc (ix_in (show nI i + 1 = nI (i + 1) from nI_add i 1) (by omega) (by omega)) dL_law_756 ?_
  refine z_aload_n hX dL_law_757 rfl ?_
  refine z_iload_n hX dL_law_758 rfl ?_
  refine z_iconst hX (2) dL_law_759 (by decide) ?_
  refine z_iadd hX dL_law_760 ?_
  refine z_sld hX hsc (ix_in (show nI i + 2 = nI (i + 2) from nI_add i 2) (by omega) (by omega)) dL_law_761 ?_
  refine z_callV2 hX (sp7_look l) lm_L_103 hfs ⟨by decide, by decide, (show u + 0 ≤ 600000 by omega), (show v + 0 ≤ 7302250 by omega)⟩ (Nat.le_of_ble_eq_true rfl) dL_law_762 ?_
  refine pr_look _ _ P nx hJ _ (fun w P nx ⟨fs, hfs⟩ h8 => ?_)
  dsimp only [Option.toList, List.cons_append, List.nil_append]
  refine z_aload_n hX dL_law_765 rfl ?_
  refine z_aload_n hX dL_law_766 rfl ?_
  refine z_iload_n hX dL_law_767 rfl ?_
  refine z_iconst hX (1) dL_law_768 (by decide) ?_
  refine z_iadd hX dL_law_769 ?_
  refine z_sld hX hsc (ix_in (show nI i + 1 = nI (i + 1) from nI_add i 1) (by omega) (by omega)) dL_law_770 ?_
  refine z_aload_n hX dL_law_771 rfl ?_
  refine z_iload_n hX dL_law_772 rfl ?_
  refine z_iconst hX (2) dL_law_773 (by decide) ?_
  refine z_iadd hX dL_law_774 ?_
  refine z_sld hX hsc (ix_in (show nI i + 2 = nI (i + 2) from nI_add i 2) (by omega) (by omega)) dL_law_775 ?_
  refine z_callV2 hX (sp8_look l) lm_L_106 hfs ⟨by decide, by decide, (show u + 0 + 0 ≤ 600000 by omega), (show v + 0 + 0 ≤ 7302250 by omega)⟩ (Nat.le_of_ble_eq_true rfl) dL_law_776 ?_
  refine h8 _ (fun P nx hJ => ?_)
  dsimp only [Option.toList, List.cons_append, List.nil_append]
  refine z_icmp_eq hX 807 dL_law_779 (by decide) (fun h779 => ?_) (fun h779 => ?_)
  rotate_left
  · exact absurd rfl h779
  exact z_widen (show u + 0 + 0 ≤ u + 5 by omega) (show v + 0 + 0 ≤ v + 47 by omega) (go P nx hJ)
set_option maxRecDepth 4000 in
theorem law_tell {X : z_X} {l : Launch} (hX : z_is X l ML_law room_1) {L : Nat} {xs : Nat → Int32} (hsc : z_scr X L xs) (hL : L ≤ 3072) {i nx u v : Nat} {P : z_H} (hi : i + 5 < L) (hu : u + 5 ≤ 600000) (hv : v + 47 ≤ 7302250) (hJ : zJJ P nx) (go : ∀ (P : z_H) (nx : Nat), zJJ P nx → z_W X 807 [some (.ref 0), some (.ref 1), some (.ref 70), some (.int (nI i))] [] P nx (u + 5) (v + 47)) : z_W X 784 [some (.ref 0), some (.ref 1), some (.ref 70), some (.int (nI i))] [] P nx u v := by
  obtain ⟨fs, hfs⟩ := hJ.o
  refine z_aload_n hX dL_law_784 rfl ?_
  refine z_aload_n hX dL_law_785 rfl ?_
  refine z_iload_n hX dL_law_786 rfl ?_
  refine z_iconst hX (1) dL_law_787 (by decide) ?_
  refine z_iadd hX dL_law_788 ?_
  refine z_sld hX hsc (ix_in (show nI i + 1 = nI (i + 1) from nI_add i 1) (by omega) (by omega)) dL_law_789 ?_
  refine z_callV1 hX (sp7_tell l) lm_L_107 hfs ⟨by decide, by decide, (show u + 0 ≤ 600000 by omega), (show v + 0 ≤ 7302250 by omega)⟩ (Nat.le_of_ble_eq_true rfl) dL_law_790 ?_
  refine pr_tell _ P nx hJ _ (fun w P nx ⟨fs, hfs⟩ h8 => ?_)
  dsimp only [Option.toList, List.cons_append, List.nil_append]
  refine z_aload_n hX dL_law_793 rfl ?_
  refine z_aload_n hX dL_law_794 rfl ?_
  refine z_iload_n hX dL_law_795 rfl ?_
  refine z_iconst hX (1) dL_law_796 (by decide) ?_
  refine z_iadd hX dL_law_797 ?_
  refine z_sld hX hsc (ix_in (show nI i + 1 = nI (i + 1) from nI_add i 1) (by omega) (by omega)) dL_law_798 ?_
  refine z_callV1 hX (sp8_tell l) lm_L_110 hfs ⟨by decide, by decide, (show u + 0 + 0 ≤ 600000 by omega), (show v + 0 + 0 ≤ 7302250 by omega)⟩ (Nat.le_of_ble_eq_true rfl) dL_law_799 ?_
  refine h8 _ (fun P nx hJ => ?_)
  dsimp only [Option.toList, List.cons_append, List.nil_append]
  refine z_icmp_eq hX 807 dL_law_802 (by decide) (fun h802 => ?_) (fun h802 => ?_)
  rotate_left
  · exact absurd rfl h802
  exact z_widen (show u + 0 + 0 ≤ u + 5 by omega) (show v + 0 + 0 ≤ v + 47 by omega) (go P nx hJ)
set_option maxRecDepth 4000 in
theorem law_loop {X : z_X} {l : Launch} (hX : z_is X l ML_law room_1) {L : Nat} {xs : Nat → Int32} (hsc : z_scr X L xs) (hL : L ≤ 3072) (hend : ∀ (lv : List (Option Value)) (P : z_H) (nx u v : Nat), u ≤ 600000 → v ≤ 7302250 → z_W X 814 lv [.int 1] P nx u v) : ∀ (f t : Nat) (P : z_H) (nx u v : Nat), f + t = 513 → u + 5 * f ≤ 600000 → v + 47 * f ≤ 7302250 → zJJ P nx → z_W X 18 [some (.ref 0), some (.ref 1), some (.ref 70), some (.int (nI (6 * t)))] [] P nx u v
  | 0, t, P, nx, u, v, hf, hu, hv, hJ => by
    have hm : (nI L - 6 : Int32).toInt = L - 6 := by rw [i_sub (by rw [nI_toInt (by omega), show (6 : Int32).toInt = 6 from rfl]; omega) (by rw [nI_toInt (by omega), show (6 : Int32).toInt = 6 from rfl]; omega), nI_toInt (by omega)]; rfl
    refine z_iload_n hX dL_law_18 rfl ?_
    refine z_aload_n hX dL_law_19 rfl ?_
    refine z_slen hX hsc dL_law_20 ?_
    refine z_bipush hX (6) dL_law_21 (by decide) ?_
    refine z_isub hX dL_law_23 ?_
    refine z_icmp_gt hX 813 dL_law_24 (by decide) (fun h24 => ?_) (fun h24 => ?_)
    rotate_left
    · rw [i_lt, hm, nI_toInt (by omega)] at h24
      omega
    refine z_iconst hX (1) dL_law_813 (by decide) ?_
    exact hend _ _ _ _ _ (by omega) (by omega)
  | f + 1, t, P, nx, u, v, hf, hu, hv, hJ => by
    have hm : (nI L - 6 : Int32).toInt = L - 6 := by rw [i_sub (by rw [nI_toInt (by omega), show (6 : Int32).toInt = 6 from rfl]; omega) (by rw [nI_toInt (by omega), show (6 : Int32).toInt = 6 from rfl]; omega), nI_toInt (by omega)]; rfl
    have go : ∀ (P : z_H) (nx : Nat), zJJ P nx → z_W X 807 [some (.ref 0), some (.ref 1), some (.ref 70), some (.int (nI (6 * t)))] [] P nx (u + 5) (v + 47) := by
      intro P nx hJ
      refine z_iinc hX (6) (by decide) rfl (by decide) dL_law_807 ?_
      dsimp only [z_p1, z_p2, z_k, List.headD, List.tail]
      refine z_goto hX 18 dL_law_810 (by decide) ?_
      rw [show nI (6 * t) + 6 = nI (6 * (t + 1)) from (nI_add (6 * t) 6).trans (congrArg nI (by omega))]
      exact law_loop hX hsc hL hend f (t + 1) P nx (u + 5) (v + 47) (by omega) (by omega) (by omega) hJ
    refine z_iload_n hX dL_law_18 rfl ?_
    refine z_aload_n hX dL_law_19 rfl ?_
    refine z_slen hX hsc dL_law_20 ?_
    refine z_bipush hX (6) dL_law_21 (by decide) ?_
    refine z_isub hX dL_law_23 ?_
    refine z_icmp_gt hX 813 dL_law_24 (by decide) (fun h24 => ?_) (fun h24 => ?_)
    · skip
      rw [i_lt, hm, nI_toInt (by omega)] at h24
      refine z_iconst hX (1) dL_law_813 (by decide) ?_
      exact hend _ _ _ _ _ (by omega) (by omega)
    · skip
      rw [i_lt, hm, nI_toInt (by omega)] at h24
      refine z_aload_n hX dL_law_27 rfl ?_
      refine z_iload_n hX dL_law_28 rfl ?_
      refine z_sld hX hsc (vp_in_nI (by omega) (by omega)) dL_law_29 ?_
      refine z_bipush hX (31) dL_law_30 (by decide) ?_
      refine z_iand hX dL_law_32 ?_
      obtain ⟨q1, q2⟩ := and31 (xs (nI (6 * t)).toNatClampNeg)
      generalize xs (nI (6 * t)).toNatClampNeg &&& 31 = k at q1 q2 ⊢
      rcases (show k.toInt = 0 ∨ k.toInt = 1 ∨ k.toInt = 2 ∨ k.toInt = 3 ∨ k.toInt = 4 ∨ k.toInt = 5 ∨ k.toInt = 6 ∨ k.toInt = 7 ∨ k.toInt = 8 ∨ k.toInt = 9 ∨ k.toInt = 10 ∨ k.toInt = 11 ∨ k.toInt = 12 ∨ k.toInt = 13 ∨ k.toInt = 14 ∨ k.toInt = 15 ∨ k.toInt = 16 ∨ k.toInt = 17 ∨ k.toInt = 18 ∨ k.toInt = 19 ∨ k.toInt = 20 ∨ k.toInt = 21 ∨ 21 < k.toInt by omega) with e | e | e | e | e | e | e | e | e | e | e | e | e | e | e | e | e | e | e | e | e | e | e
      · refine z_tabIn hX 136 dL_law_33 (by omega) (by omega) (by rw [e]; rfl) (by decide) ?_
        exact law_weekday hX hsc hL (by omega) (by omega) (by omega) hJ go
      · refine z_tabIn hX 179 dL_law_33 (by omega) (by omega) (by rw [e]; rfl) (by decide) ?_
        exact law_month hX hsc hL (by omega) (by omega) (by omega) hJ go
      · refine z_tabIn hX 222 dL_law_33 (by omega) (by omega) (by rw [e]; rfl) (by decide) ?_
        exact law_holiday hX hsc hL (by omega) (by omega) (by omega) hJ go
      · refine z_tabIn hX 245 dL_law_33 (by omega) (by omega) (by rw [e]; rfl) (by decide) ?_
        exact law_road hX hsc hL (by omega) (by omega) (by omega) hJ go
      · refine z_tabIn hX 288 dL_law_33 (by omega) (by omega) (by rw [e]; rfl) (by decide) ?_
        exact law_shape hX hsc hL (by omega) (by omega) (by omega) hJ go
      · refine z_tabIn hX 321 dL_law_33 (by omega) (by omega) (by rw [e]; rfl) (by decide) ?_
        exact law_count hX hsc hL (by omega) (by omega) (by omega) hJ go
      · refine z_tabIn hX 364 dL_law_33 (by omega) (by omega) (by rw [e]; rfl) (by decide) ?_
        exact law_year hX hsc hL (by omega) (by omega) (by omega) hJ go
      · refine z_tabIn hX 388 dL_law_33 (by omega) (by omega) (by rw [e]; rfl) (by decide) ?_
        exact law_span hX hsc hL (by omega) (by omega) (by omega) hJ go
      · refine z_tabIn hX 422 dL_law_33 (by omega) (by omega) (by rw [e]; rfl) (by decide) ?_
        exact law_best hX hsc hL (by omega) (by omega) (by omega) hJ go
      · refine z_tabIn hX 445 dL_law_33 (by omega) (by omega) (by rw [e]; rfl) (by decide) ?_
        exact law_how hX hsc hL (by omega) (by omega) (by omega) hJ go
      · refine z_tabIn hX 468 dL_law_33 (by omega) (by omega) (by rw [e]; rfl) (by decide) ?_
        exact law_load hX hsc hL (by omega) (by omega) (by omega) hJ go
      · refine z_tabIn hX 492 dL_law_33 (by omega) (by omega) (by rw [e]; rfl) (by decide) ?_
        exact law_balances hX hsc hL (by omega) (by omega) (by omega) hJ go
      · refine z_tabIn hX 515 dL_law_33 (by omega) (by omega) (by rw [e]; rfl) (by decide) ?_
        exact law_balance hX hsc hL (by omega) (by omega) (by omega) hJ go
      · refine z_tabIn hX 539 dL_law_33 (by omega) (by omega) (by rw [e]; rfl) (by decide) ?_
        exact law_does hX hsc hL (by omega) (by omega) (by omega) hJ go
      · refine z_tabIn hX 562 dL_law_33 (by omega) (by omega) (by rw [e]; rfl) (by decide) ?_
        exact law_plan hX hsc hL (by omega) (by omega) (by omega) hJ go
      · refine z_tabIn hX 575 dL_law_33 (by omega) (by omega) (by rw [e]; rfl) (by decide) ?_
        exact law_feed hX hsc hL (by omega) (by omega) (by omega) hJ go
      · refine z_tabIn hX 638 dL_law_33 (by omega) (by omega) (by rw [e]; rfl) (by decide) ?_
        exact law_rules hX hsc hL (by omega) (by omega) (by omega) hJ go
      · refine z_tabIn hX 661 dL_law_33 (by omega) (by omega) (by rw [e]; rfl) (by decide) ?_
        exact law_pass hX hsc hL (by omega) (by omega) (by omega) hJ go
      · refine z_tabIn hX 694 dL_law_33 (by omega) (by omega) (by rw [e]; rfl) (by decide) ?_
        exact law_kinds hX hsc hL (by omega) (by omega) (by omega) hJ go
      · refine z_tabIn hX 727 dL_law_33 (by omega) (by omega) (by rw [e]; rfl) (by decide) ?_
        exact law_whole hX hsc hL (by omega) (by omega) (by omega) hJ go
      · refine z_tabIn hX 751 dL_law_33 (by omega) (by omega) (by rw [e]; rfl) (by decide) ?_
        exact law_look hX hsc hL (by omega) (by omega) (by omega) hJ go
      · refine z_tabIn hX 784 dL_law_33 (by omega) (by omega) (by rw [e]; rfl) (by decide) ?_
        exact law_tell hX hsc hL (by omega) (by omega) (by omega) hJ go
      · refine z_tabOut hX 807 dL_law_33 (Or.inr e) (by decide) ?_
        exact z_widen (by omega) (by omega) (go P nx hJ)
