section
variable {Z Z2 : mZ} {d1 d2 : mD} {x st kp tp sr ha fi sp sh sc pa kc kq le dt mo ne m nw od fd tr rd ah kr ka ln sz it mv : Nat}
theorem sz_of (hr : CR Z d1 d2 x st kp tp sh sc pa kc kq le m nw od tr ah kr ka ln sz it) : (∀ i, i < 4 → ∃ z, z ≤ 24 ∧ gI d1 163 (psO d1 sh i) = nI z) ∧ (∀ i, i < 4 → ∃ z, z ≤ 24 ∧ gA d2 sz i = nI z) :=
  ⟨fun i hi => by obtain ⟨_, _, ⟨z, h1, h2, _⟩, _⟩ := hr.2.2.2.2.2.2.2 i hi; exact ⟨z, h1, h2⟩, fun i hi => by obtain ⟨_, _, ⟨z, h1, _, h3⟩, _⟩ := hr.2.2.2.2.2.2.2 i hi; exact ⟨z, h1, h3⟩⟩
end
section
variable {l : Launch} {G : mG} {X : mF} {c9 n9 b L i : Nat} {xs : Nat → Int32} {Z1 Z2 : mZ} {d1 d2 : mD} {x st kp tp sr ha fi sp sh sc pa kc kq le dt mo ne m nw od fd tr rd ah kr ka ln sz it mv : Nat}
theorem lw_type (hx : clS Z1 x st kp tp sr ha fi sp sh sc pa kc kq le dt mo ne) (hI : oI Z1) (hm : mdS Z2 m nw od fd tr rd ah kr ka ln sz it mv) (hdis : ∀ a, a ∈ Z1.1 → a ∉ Z2.1) (hX : va_X b L xs X.2.2.1 X.2.2.1.heap) (hbl : b < X.2.2.1.heap.size) (hbA : ¬ X.2.2.2.2.2.2.2.2.1 b) (hL : L < 2 ^ 31) (hi : i + 6 ≤ L) (hce : c9 + 0 ≤ room_1.cells ∧ n9 + 0 ≤ room_1.slots) (hr : CR Z1 d1 d2 x st kp tp sh sc pa kc kq le m nw od tr ah kr ka ln sz it) (kk : ∀ u1 u2, CR Z1 u1 u2 x st kp tp sh sc pa kc kq le m nw od tr ah kr ka ln sz it → mGo l G room_1 X RL cL_law 4 c9 n9 (zJ Z1 Z2) 899 [some (.ref b), some (.ref x), some (.ref m), some (.int (nI i))] [] (dJ Z1 u1 u2)) : mGo l G room_1 X RL cL_law 4 c9 n9 (zJ Z1 Z2) 140 [some (.ref b), some (.ref x), some (.ref m), some (.int (nI i))] [] (dJ Z1 d1 d2) := by
  obtain ⟨n, ht⟩ := hr.2.2.2.1
  refine al1 dL_law_140 ?_
  refine al0 dL_law_141 ?_
  refine il3 dL_law_142 ?_
  refine g_iconst (v := 1) dL_law_143 (by decide) ?_
  refine g_iadd dL_law_144 ?_
  refine g_sld (i + 1) hX hbl hbA (show nI i + 1 = nI (i + 1) from nI_add i 1) (by omega) hL dL_law_145 ?_
  refine callJ1 (As := [.int (xs (i + 1))]) hdis (c_X8_type hx ht.1 ht.2.2.1) wm_L_13 yvX8_type hx.o8 rfl rfl rfl ⟨Nat.le_of_ble_eq_true rfl, Nat.le_of_ble_eq_true rfl⟩ hce (Nat.le_of_ble_eq_true rfl) dL_law_146 ?_
  refine al2 dL_law_149 ?_
  refine al0 dL_law_150 ?_
  refine il3 dL_law_151 ?_
  refine g_iconst (v := 1) dL_law_152 (by decide) ?_
  refine g_iadd dL_law_153 ?_
  refine g_sld (i + 1) hX hbl hbA (show nI i + 1 = nI (i + 1) from nI_add i 1) (by omega) hL dL_law_154 ?_
  refine callJ2 (As := [.int (xs (i + 1))]) hdis (c_X9_type hm ht.2.1 ht.2.2.1) wm_L_17 yvX9_type hm.1 rfl rfl rfl ⟨Nat.le_of_ble_eq_true rfl, Nat.le_of_ble_eq_true rfl⟩ hce (Nat.le_of_ble_eq_true rfl) dL_law_155 ?_
  exact g_icmpeq 899 dL_law_158 (by decide) (fun _ => kk _ _ (k_type hx hm ht _ hr)) (fun q9 => absurd (e_type ht.2.2.1 _) q9)
theorem lw_picture (hx : clS Z1 x st kp tp sr ha fi sp sh sc pa kc kq le dt mo ne) (hI : oI Z1) (hm : mdS Z2 m nw od fd tr rd ah kr ka ln sz it mv) (hdis : ∀ a, a ∈ Z1.1 → a ∉ Z2.1) (hX : va_X b L xs X.2.2.1 X.2.2.1.heap) (hbl : b < X.2.2.1.heap.size) (hbA : ¬ X.2.2.2.2.2.2.2.2.1 b) (hL : L < 2 ^ 31) (hi : i + 6 ≤ L) (hce : c9 + 0 ≤ room_1.cells ∧ n9 + 0 ≤ room_1.slots) (hr : CR Z1 d1 d2 x st kp tp sh sc pa kc kq le m nw od tr ah kr ka ln sz it) (kk : ∀ u1 u2, CR Z1 u1 u2 x st kp tp sh sc pa kc kq le m nw od tr ah kr ka ln sz it → mGo l G room_1 X RL cL_law 4 c9 n9 (zJ Z1 Z2) 899 [some (.ref b), some (.ref x), some (.ref m), some (.int (nI i))] [] (dJ Z1 u1 u2)) : mGo l G room_1 X RL cL_law 4 c9 n9 (zJ Z1 Z2) 163 [some (.ref b), some (.ref x), some (.ref m), some (.int (nI i))] [] (dJ Z1 d1 d2) := by
  obtain ⟨n, ht⟩ := hr.2.2.2.1
  refine al1 dL_law_163 ?_
  refine callJ1 (As := []) hdis (c_X8_picture hx ht.1 ht.2.2.1) wm_L_18 yvX8_picture hx.o8 rfl rfl rfl ⟨Nat.le_of_ble_eq_true rfl, Nat.le_of_ble_eq_true rfl⟩ hce (Nat.le_of_ble_eq_true rfl) dL_law_164 ?_
  refine al2 dL_law_167 ?_
  refine callJ2 (As := []) hdis (c_X9_picture hm ht.2.1 ht.2.2.1) wm_L_22 yvX9_picture hm.1 rfl rfl rfl ⟨Nat.le_of_ble_eq_true rfl, Nat.le_of_ble_eq_true rfl⟩ hce (Nat.le_of_ble_eq_true rfl) dL_law_168 ?_
  exact g_icmpeq 899 dL_law_171 (by decide) (fun _ => kk _ _ (k_picture hx hm ht hr)) (fun q9 => absurd (e_picture ht) q9)
theorem lw_dot (hx : clS Z1 x st kp tp sr ha fi sp sh sc pa kc kq le dt mo ne) (hI : oI Z1) (hm : mdS Z2 m nw od fd tr rd ah kr ka ln sz it mv) (hdis : ∀ a, a ∈ Z1.1 → a ∉ Z2.1) (hX : va_X b L xs X.2.2.1 X.2.2.1.heap) (hbl : b < X.2.2.1.heap.size) (hbA : ¬ X.2.2.2.2.2.2.2.2.1 b) (hL : L < 2 ^ 31) (hi : i + 6 ≤ L) (hce : c9 + 0 ≤ room_1.cells ∧ n9 + 0 ≤ room_1.slots) (hr : CR Z1 d1 d2 x st kp tp sh sc pa kc kq le m nw od tr ah kr ka ln sz it) (kk : ∀ u1 u2, CR Z1 u1 u2 x st kp tp sh sc pa kc kq le m nw od tr ah kr ka ln sz it → mGo l G room_1 X RL cL_law 4 c9 n9 (zJ Z1 Z2) 899 [some (.ref b), some (.ref x), some (.ref m), some (.int (nI i))] [] (dJ Z1 u1 u2)) : mGo l G room_1 X RL cL_law 4 c9 n9 (zJ Z1 Z2) 176 [some (.ref b), some (.ref x), some (.ref m), some (.int (nI i))] [] (dJ Z1 d1 d2) := by
  refine al1 dL_law_176 ?_
  refine al0 dL_law_177 ?_
  refine il3 dL_law_178 ?_
  refine g_iconst (v := 1) dL_law_179 (by decide) ?_
  refine g_iadd dL_law_180 ?_
  refine g_sld (i + 1) hX hbl hbA (show nI i + 1 = nI (i + 1) from nI_add i 1) (by omega) hL dL_law_181 ?_
  refine al0 dL_law_182 ?_
  refine il3 dL_law_183 ?_
  refine g_iconst (v := 2) dL_law_184 (by decide) ?_
  refine g_iadd dL_law_185 ?_
  refine g_sld (i + 2) hX hbl hbA (show nI i + 2 = nI (i + 2) from nI_add i 2) (by omega) hL dL_law_186 ?_
  refine al0 dL_law_187 ?_
  refine il3 dL_law_188 ?_
  refine g_iconst (v := 3) dL_law_189 (by decide) ?_
  refine g_iadd dL_law_190 ?_
  refine g_sld (i + 3) hX hbl hbA (show nI i + 3 = nI (i + 3) from nI_add i 3) (by omega) hL dL_law_191 ?_
  refine callJ1 (As := [.int (xs (i + 1)), .int (xs (i + 2)), .int (xs (i + 3))]) hdis (c_X8_dot hx ) wm_L_23 yvX8_dot hx.o8 rfl rfl rfl ⟨Nat.le_of_ble_eq_true rfl, Nat.le_of_ble_eq_true rfl⟩ hce (Nat.le_of_ble_eq_true rfl) dL_law_192 ?_
  refine al2 dL_law_195 ?_
  refine al0 dL_law_196 ?_
  refine il3 dL_law_197 ?_
  refine g_iconst (v := 1) dL_law_198 (by decide) ?_
  refine g_iadd dL_law_199 ?_
  refine g_sld (i + 1) hX hbl hbA (show nI i + 1 = nI (i + 1) from nI_add i 1) (by omega) hL dL_law_200 ?_
  refine al0 dL_law_201 ?_
  refine il3 dL_law_202 ?_
  refine g_iconst (v := 2) dL_law_203 (by decide) ?_
  refine g_iadd dL_law_204 ?_
  refine g_sld (i + 2) hX hbl hbA (show nI i + 2 = nI (i + 2) from nI_add i 2) (by omega) hL dL_law_205 ?_
  refine al0 dL_law_206 ?_
  refine il3 dL_law_207 ?_
  refine g_iconst (v := 3) dL_law_208 (by decide) ?_
  refine g_iadd dL_law_209 ?_
  refine g_sld (i + 3) hX hbl hbA (show nI i + 3 = nI (i + 3) from nI_add i 3) (by omega) hL dL_law_210 ?_
  refine callJ2 (As := [.int (xs (i + 1)), .int (xs (i + 2)), .int (xs (i + 3))]) hdis (c_X9_dot hm ) wm_L_27 yvX9_dot hm.1 rfl rfl rfl ⟨Nat.le_of_ble_eq_true rfl, Nat.le_of_ble_eq_true rfl⟩ hce (Nat.le_of_ble_eq_true rfl) dL_law_211 ?_
  exact g_icmpeq 899 dL_law_214 (by decide) (fun _ => kk _ _ (hr)) (fun q9 => absurd (e_dot hr _ _ _) q9)
theorem lw_count (hx : clS Z1 x st kp tp sr ha fi sp sh sc pa kc kq le dt mo ne) (hI : oI Z1) (hm : mdS Z2 m nw od fd tr rd ah kr ka ln sz it mv) (hdis : ∀ a, a ∈ Z1.1 → a ∉ Z2.1) (hX : va_X b L xs X.2.2.1 X.2.2.1.heap) (hbl : b < X.2.2.1.heap.size) (hbA : ¬ X.2.2.2.2.2.2.2.2.1 b) (hL : L < 2 ^ 31) (hi : i + 6 ≤ L) (hce : c9 + 0 ≤ room_1.cells ∧ n9 + 0 ≤ room_1.slots) (hr : CR Z1 d1 d2 x st kp tp sh sc pa kc kq le m nw od tr ah kr ka ln sz it) (kk : ∀ u1 u2, CR Z1 u1 u2 x st kp tp sh sc pa kc kq le m nw od tr ah kr ka ln sz it → mGo l G room_1 X RL cL_law 4 c9 n9 (zJ Z1 Z2) 899 [some (.ref b), some (.ref x), some (.ref m), some (.int (nI i))] [] (dJ Z1 u1 u2)) : mGo l G room_1 X RL cL_law 4 c9 n9 (zJ Z1 Z2) 219 [some (.ref b), some (.ref x), some (.ref m), some (.int (nI i))] [] (dJ Z1 d1 d2) := by
  refine al1 dL_law_219 ?_
  refine al0 dL_law_220 ?_
  refine il3 dL_law_221 ?_
  refine g_iconst (v := 1) dL_law_222 (by decide) ?_
  refine g_iadd dL_law_223 ?_
  refine g_sld (i + 1) hX hbl hbA (show nI i + 1 = nI (i + 1) from nI_add i 1) (by omega) hL dL_law_224 ?_
  refine callJ1 (As := [.int (xs (i + 1))]) hdis (c_X8_count hx ) wm_L_28 yvX8_count hx.o8 rfl rfl rfl ⟨Nat.le_of_ble_eq_true rfl, Nat.le_of_ble_eq_true rfl⟩ hce (Nat.le_of_ble_eq_true rfl) dL_law_225 ?_
  refine al2 dL_law_228 ?_
  refine al0 dL_law_229 ?_
  refine il3 dL_law_230 ?_
  refine g_iconst (v := 1) dL_law_231 (by decide) ?_
  refine g_iadd dL_law_232 ?_
  refine g_sld (i + 1) hX hbl hbA (show nI i + 1 = nI (i + 1) from nI_add i 1) (by omega) hL dL_law_233 ?_
  refine callJ2 (As := [.int (xs (i + 1))]) hdis (c_X9_count hm ) wm_L_31 yvX9_count hm.1 rfl rfl rfl ⟨Nat.le_of_ble_eq_true rfl, Nat.le_of_ble_eq_true rfl⟩ hce (Nat.le_of_ble_eq_true rfl) dL_law_234 ?_
  exact g_icmpeq 899 dL_law_237 (by decide) (fun _ => kk _ _ (k_count hx hm _ _ hr)) (fun q9 => absurd (e_count hr fd _) q9)
theorem lw_paint (hx : clS Z1 x st kp tp sr ha fi sp sh sc pa kc kq le dt mo ne) (hI : oI Z1) (hm : mdS Z2 m nw od fd tr rd ah kr ka ln sz it mv) (hdis : ∀ a, a ∈ Z1.1 → a ∉ Z2.1) (hX : va_X b L xs X.2.2.1 X.2.2.1.heap) (hbl : b < X.2.2.1.heap.size) (hbA : ¬ X.2.2.2.2.2.2.2.2.1 b) (hL : L < 2 ^ 31) (hi : i + 6 ≤ L) (hce : c9 + 0 ≤ room_1.cells ∧ n9 + 0 ≤ room_1.slots) (hr : CR Z1 d1 d2 x st kp tp sh sc pa kc kq le m nw od tr ah kr ka ln sz it) (kk : ∀ u1 u2, CR Z1 u1 u2 x st kp tp sh sc pa kc kq le m nw od tr ah kr ka ln sz it → mGo l G room_1 X RL cL_law 4 c9 n9 (zJ Z1 Z2) 899 [some (.ref b), some (.ref x), some (.ref m), some (.int (nI i))] [] (dJ Z1 u1 u2)) : mGo l G room_1 X RL cL_law 4 c9 n9 (zJ Z1 Z2) 242 [some (.ref b), some (.ref x), some (.ref m), some (.int (nI i))] [] (dJ Z1 d1 d2) := by
  obtain ⟨k, hk⟩ := CK_of hr
  refine al1 dL_law_242 ?_
  refine al0 dL_law_243 ?_
  refine il3 dL_law_244 ?_
  refine g_iconst (v := 1) dL_law_245 (by decide) ?_
  refine g_iadd dL_law_246 ?_
  refine g_sld (i + 1) hX hbl hbA (show nI i + 1 = nI (i + 1) from nI_add i 1) (by omega) hL dL_law_247 ?_
  refine al0 dL_law_248 ?_
  refine il3 dL_law_249 ?_
  refine g_iconst (v := 2) dL_law_250 (by decide) ?_
  refine g_iadd dL_law_251 ?_
  refine g_sld (i + 2) hX hbl hbA (show nI i + 2 = nI (i + 2) from nI_add i 2) (by omega) hL dL_law_252 ?_
  refine al0 dL_law_253 ?_
  refine il3 dL_law_254 ?_
  refine g_iconst (v := 3) dL_law_255 (by decide) ?_
  refine g_iadd dL_law_256 ?_
  refine g_sld (i + 3) hX hbl hbA (show nI i + 3 = nI (i + 3) from nI_add i 3) (by omega) hL dL_law_257 ?_
  refine callJ1 (As := [.int (xs (i + 1)), .int (xs (i + 2)), .int (xs (i + 3))]) hdis (c_X8_paint hx hr.1.1 hk.2.1.1 hk.2.1.2.1) wm_L_32 yvX8_paint hx.o8 rfl rfl rfl ⟨Nat.le_of_ble_eq_true rfl, Nat.le_of_ble_eq_true rfl⟩ hce (Nat.le_of_ble_eq_true rfl) dL_law_258 ?_
  refine al2 dL_law_261 ?_
  refine al0 dL_law_262 ?_
  refine il3 dL_law_263 ?_
  refine g_iconst (v := 1) dL_law_264 (by decide) ?_
  refine g_iadd dL_law_265 ?_
  refine g_sld (i + 1) hX hbl hbA (show nI i + 1 = nI (i + 1) from nI_add i 1) (by omega) hL dL_law_266 ?_
  refine al0 dL_law_267 ?_
  refine il3 dL_law_268 ?_
  refine g_iconst (v := 2) dL_law_269 (by decide) ?_
  refine g_iadd dL_law_270 ?_
  refine g_sld (i + 2) hX hbl hbA (show nI i + 2 = nI (i + 2) from nI_add i 2) (by omega) hL dL_law_271 ?_
  refine al0 dL_law_272 ?_
  refine il3 dL_law_273 ?_
  refine g_iconst (v := 3) dL_law_274 (by decide) ?_
  refine g_iadd dL_law_275 ?_
  refine g_sld (i + 3) hX hbl hbA (show nI i + 3 = nI (i + 3) from nI_add i 3) (by omega) hL dL_law_276 ?_
  refine callJ2 (As := [.int (xs (i + 1)), .int (xs (i + 2)), .int (xs (i + 3))]) hdis (c_X9_paint hm hk.2.2 hk.2.1.2.1) wm_L_35 yvX9_paint hm.1 rfl rfl rfl ⟨Nat.le_of_ble_eq_true rfl, Nat.le_of_ble_eq_true rfl⟩ hce (Nat.le_of_ble_eq_true rfl) dL_law_277 ?_
  exact g_icmpeq 899 dL_law_280 (by decide) (fun _ => kk _ _ (k_paint hx hm _ _ _ hk)) (fun q9 => absurd (e_paint hr _ _ _) q9)
theorem lw_shift (hx : clS Z1 x st kp tp sr ha fi sp sh sc pa kc kq le dt mo ne) (hI : oI Z1) (hm : mdS Z2 m nw od fd tr rd ah kr ka ln sz it mv) (hdis : ∀ a, a ∈ Z1.1 → a ∉ Z2.1) (hX : va_X b L xs X.2.2.1 X.2.2.1.heap) (hbl : b < X.2.2.1.heap.size) (hbA : ¬ X.2.2.2.2.2.2.2.2.1 b) (hL : L < 2 ^ 31) (hi : i + 6 ≤ L) (hce : c9 + 0 ≤ room_1.cells ∧ n9 + 0 ≤ room_1.slots) (hr : CR Z1 d1 d2 x st kp tp sh sc pa kc kq le m nw od tr ah kr ka ln sz it) (kk : ∀ u1 u2, CR Z1 u1 u2 x st kp tp sh sc pa kc kq le m nw od tr ah kr ka ln sz it → mGo l G room_1 X RL cL_law 4 c9 n9 (zJ Z1 Z2) 899 [some (.ref b), some (.ref x), some (.ref m), some (.int (nI i))] [] (dJ Z1 u1 u2)) : mGo l G room_1 X RL cL_law 4 c9 n9 (zJ Z1 Z2) 285 [some (.ref b), some (.ref x), some (.ref m), some (.int (nI i))] [] (dJ Z1 d1 d2) := by
  obtain ⟨k, hk⟩ := CK_of hr
  refine al1 dL_law_285 ?_
  refine al0 dL_law_286 ?_
  refine il3 dL_law_287 ?_
  refine g_iconst (v := 1) dL_law_288 (by decide) ?_
  refine g_iadd dL_law_289 ?_
  refine g_sld (i + 1) hX hbl hbA (show nI i + 1 = nI (i + 1) from nI_add i 1) (by omega) hL dL_law_290 ?_
  refine al0 dL_law_291 ?_
  refine il3 dL_law_292 ?_
  refine g_iconst (v := 2) dL_law_293 (by decide) ?_
  refine g_iadd dL_law_294 ?_
  refine g_sld (i + 2) hX hbl hbA (show nI i + 2 = nI (i + 2) from nI_add i 2) (by omega) hL dL_law_295 ?_
  refine callJ1 (As := [.int (xs (i + 1)), .int (xs (i + 2))]) hdis (c_X8_shift hx hr.1.1 hk.2.1.1 hk.2.1.2.1) wm_L_36 yvX8_shift hx.o8 rfl rfl rfl ⟨Nat.le_of_ble_eq_true rfl, Nat.le_of_ble_eq_true rfl⟩ hce (Nat.le_of_ble_eq_true rfl) dL_law_296 ?_
  refine al2 dL_law_299 ?_
  refine al0 dL_law_300 ?_
  refine il3 dL_law_301 ?_
  refine g_iconst (v := 1) dL_law_302 (by decide) ?_
  refine g_iadd dL_law_303 ?_
  refine g_sld (i + 1) hX hbl hbA (show nI i + 1 = nI (i + 1) from nI_add i 1) (by omega) hL dL_law_304 ?_
  refine al0 dL_law_305 ?_
  refine il3 dL_law_306 ?_
  refine g_iconst (v := 2) dL_law_307 (by decide) ?_
  refine g_iadd dL_law_308 ?_
  refine g_sld (i + 2) hX hbl hbA (show nI i + 2 = nI (i + 2) from nI_add i 2) (by omega) hL dL_law_309 ?_
  refine callJ2 (As := [.int (xs (i + 1)), .int (xs (i + 2))]) hdis (c_X9_shift hm hk.2.2 hk.2.1.2.1) wm_L_40 yvX9_shift hm.1 rfl rfl rfl ⟨Nat.le_of_ble_eq_true rfl, Nat.le_of_ble_eq_true rfl⟩ hce (Nat.le_of_ble_eq_true rfl) dL_law_310 ?_
  exact g_icmpeq 899 dL_law_313 (by decide) (fun _ => kk _ _ (k_shift hx hm _ _ hk)) (fun q9 => absurd (e_shift hx hm _ _ hk) q9)
theorem lw_take (hx : clS Z1 x st kp tp sr ha fi sp sh sc pa kc kq le dt mo ne) (hI : oI Z1) (hm : mdS Z2 m nw od fd tr rd ah kr ka ln sz it mv) (hdis : ∀ a, a ∈ Z1.1 → a ∉ Z2.1) (hX : va_X b L xs X.2.2.1 X.2.2.1.heap) (hbl : b < X.2.2.1.heap.size) (hbA : ¬ X.2.2.2.2.2.2.2.2.1 b) (hL : L < 2 ^ 31) (hi : i + 6 ≤ L) (hce : c9 + 0 ≤ room_1.cells ∧ n9 + 0 ≤ room_1.slots) (hr : CR Z1 d1 d2 x st kp tp sh sc pa kc kq le m nw od tr ah kr ka ln sz it) (kk : ∀ u1 u2, CR Z1 u1 u2 x st kp tp sh sc pa kc kq le m nw od tr ah kr ka ln sz it → mGo l G room_1 X RL cL_law 4 c9 n9 (zJ Z1 Z2) 899 [some (.ref b), some (.ref x), some (.ref m), some (.int (nI i))] [] (dJ Z1 u1 u2)) : mGo l G room_1 X RL cL_law 4 c9 n9 (zJ Z1 Z2) 318 [some (.ref b), some (.ref x), some (.ref m), some (.int (nI i))] [] (dJ Z1 d1 d2) := by
  obtain ⟨k, hk⟩ := CK_of hr
  refine al1 dL_law_318 ?_
  refine callJ1 (As := []) hdis (c_X8_take hx hr.1.1 hk.2.1.1 hk.2.1.2.1) wm_L_41 yvX8_take hx.o8 rfl rfl rfl ⟨Nat.le_of_ble_eq_true rfl, Nat.le_of_ble_eq_true rfl⟩ hce (Nat.le_of_ble_eq_true rfl) dL_law_319 ?_
  refine al2 dL_law_322 ?_
  refine callJ2 (As := []) hdis (c_X9_take hm hk.2.2 hk.2.1.2.1) wm_L_44 yvX9_take hm.1 rfl rfl rfl ⟨Nat.le_of_ble_eq_true rfl, Nat.le_of_ble_eq_true rfl⟩ hce (Nat.le_of_ble_eq_true rfl) dL_law_323 ?_
  exact g_icmpeq 899 dL_law_326 (by decide) (fun _ => kk _ _ (k_take hx hm hk)) (fun q9 => absurd (e_take hx hm hk) q9)
theorem lw_like (hx : clS Z1 x st kp tp sr ha fi sp sh sc pa kc kq le dt mo ne) (hI : oI Z1) (hm : mdS Z2 m nw od fd tr rd ah kr ka ln sz it mv) (hdis : ∀ a, a ∈ Z1.1 → a ∉ Z2.1) (hX : va_X b L xs X.2.2.1 X.2.2.1.heap) (hbl : b < X.2.2.1.heap.size) (hbA : ¬ X.2.2.2.2.2.2.2.2.1 b) (hL : L < 2 ^ 31) (hi : i + 6 ≤ L) (hce : c9 + 0 ≤ room_1.cells ∧ n9 + 0 ≤ room_1.slots) (hr : CR Z1 d1 d2 x st kp tp sh sc pa kc kq le m nw od tr ah kr ka ln sz it) (kk : ∀ u1 u2, CR Z1 u1 u2 x st kp tp sh sc pa kc kq le m nw od tr ah kr ka ln sz it → mGo l G room_1 X RL cL_law 4 c9 n9 (zJ Z1 Z2) 899 [some (.ref b), some (.ref x), some (.ref m), some (.int (nI i))] [] (dJ Z1 u1 u2)) : mGo l G room_1 X RL cL_law 4 c9 n9 (zJ Z1 Z2) 331 [some (.ref b), some (.ref x), some (.ref m), some (.int (nI i))] [] (dJ Z1 d1 d2) := by
  obtain ⟨k, hk⟩ := CK_of hr
  refine al1 dL_law_331 ?_
  refine al0 dL_law_332 ?_
  refine il3 dL_law_333 ?_
  refine g_iconst (v := 1) dL_law_334 (by decide) ?_
  refine g_iadd dL_law_335 ?_
  refine g_sld (i + 1) hX hbl hbA (show nI i + 1 = nI (i + 1) from nI_add i 1) (by omega) hL dL_law_336 ?_
  refine callJ1 (As := [.int (xs (i + 1))]) hdis (c_X8_like hx hr.1.1 hk.2.1.1 hk.2.1.2.1) wm_L_45 yvX8_like hx.o8 rfl rfl rfl ⟨Nat.le_of_ble_eq_true rfl, Nat.le_of_ble_eq_true rfl⟩ hce (Nat.le_of_ble_eq_true rfl) dL_law_337 ?_
  refine al2 dL_law_340 ?_
  refine al0 dL_law_341 ?_
  refine il3 dL_law_342 ?_
  refine g_iconst (v := 1) dL_law_343 (by decide) ?_
  refine g_iadd dL_law_344 ?_
  refine g_sld (i + 1) hX hbl hbA (show nI i + 1 = nI (i + 1) from nI_add i 1) (by omega) hL dL_law_345 ?_
  refine callJ2 (As := [.int (xs (i + 1))]) hdis (c_X9_like hm hk.2.2 hk.2.1.2.1) wm_L_48 yvX9_like hm.1 rfl rfl rfl ⟨Nat.le_of_ble_eq_true rfl, Nat.le_of_ble_eq_true rfl⟩ hce (Nat.le_of_ble_eq_true rfl) dL_law_346 ?_
  exact g_icmpeq 899 dL_law_349 (by decide) (fun _ => kk _ _ (k_like hx hm _ hk)) (fun q9 => absurd (e_like hr _) q9)
theorem lw_noise (hx : clS Z1 x st kp tp sr ha fi sp sh sc pa kc kq le dt mo ne) (hI : oI Z1) (hm : mdS Z2 m nw od fd tr rd ah kr ka ln sz it mv) (hdis : ∀ a, a ∈ Z1.1 → a ∉ Z2.1) (hX : va_X b L xs X.2.2.1 X.2.2.1.heap) (hbl : b < X.2.2.1.heap.size) (hbA : ¬ X.2.2.2.2.2.2.2.2.1 b) (hL : L < 2 ^ 31) (hi : i + 6 ≤ L) (hce : c9 + 0 ≤ room_1.cells ∧ n9 + 0 ≤ room_1.slots) (hr : CR Z1 d1 d2 x st kp tp sh sc pa kc kq le m nw od tr ah kr ka ln sz it) (kk : ∀ u1 u2, CR Z1 u1 u2 x st kp tp sh sc pa kc kq le m nw od tr ah kr ka ln sz it → mGo l G room_1 X RL cL_law 4 c9 n9 (zJ Z1 Z2) 899 [some (.ref b), some (.ref x), some (.ref m), some (.int (nI i))] [] (dJ Z1 u1 u2)) : mGo l G room_1 X RL cL_law 4 c9 n9 (zJ Z1 Z2) 354 [some (.ref b), some (.ref x), some (.ref m), some (.int (nI i))] [] (dJ Z1 d1 d2) := by
  obtain ⟨k, hk⟩ := CK_of hr
  refine al1 dL_law_354 ?_
  refine al0 dL_law_355 ?_
  refine il3 dL_law_356 ?_
  refine g_iconst (v := 1) dL_law_357 (by decide) ?_
  refine g_iadd dL_law_358 ?_
  refine g_sld (i + 1) hX hbl hbA (show nI i + 1 = nI (i + 1) from nI_add i 1) (by omega) hL dL_law_359 ?_
  refine callJ1 (As := [.int (xs (i + 1))]) hdis (c_X8_noise hx hr.1.1 hk.2.1.1 hk.2.1.2.1) wm_L_49 yvX8_noise hx.o8 rfl rfl rfl ⟨Nat.le_of_ble_eq_true rfl, Nat.le_of_ble_eq_true rfl⟩ hce (Nat.le_of_ble_eq_true rfl) dL_law_360 ?_
  refine al2 dL_law_363 ?_
  refine al0 dL_law_364 ?_
  refine il3 dL_law_365 ?_
  refine g_iconst (v := 1) dL_law_366 (by decide) ?_
  refine g_iadd dL_law_367 ?_
  refine g_sld (i + 1) hX hbl hbA (show nI i + 1 = nI (i + 1) from nI_add i 1) (by omega) hL dL_law_368 ?_
  refine callJ2 (As := [.int (xs (i + 1))]) hdis (c_X9_noise hm hk.2.2 hk.2.1.2.1 (CK_sc hk).2.2.2.2) wm_L_52 yvX9_noise hm.1 rfl rfl rfl ⟨Nat.le_of_ble_eq_true rfl, Nat.le_of_ble_eq_true rfl⟩ hce (Nat.le_of_ble_eq_true rfl) dL_law_369 ?_
  exact g_icmpeq 899 dL_law_372 (by decide) (fun _ => kk _ _ (k_noise hx hm _ hk)) (fun q9 => absurd (e_noise hx hm _ hk) q9)
theorem lw_undo (hx : clS Z1 x st kp tp sr ha fi sp sh sc pa kc kq le dt mo ne) (hI : oI Z1) (hm : mdS Z2 m nw od fd tr rd ah kr ka ln sz it mv) (hdis : ∀ a, a ∈ Z1.1 → a ∉ Z2.1) (hX : va_X b L xs X.2.2.1 X.2.2.1.heap) (hbl : b < X.2.2.1.heap.size) (hbA : ¬ X.2.2.2.2.2.2.2.2.1 b) (hL : L < 2 ^ 31) (hi : i + 6 ≤ L) (hce : c9 + 0 ≤ room_1.cells ∧ n9 + 0 ≤ room_1.slots) (hr : CR Z1 d1 d2 x st kp tp sh sc pa kc kq le m nw od tr ah kr ka ln sz it) (kk : ∀ u1 u2, CR Z1 u1 u2 x st kp tp sh sc pa kc kq le m nw od tr ah kr ka ln sz it → mGo l G room_1 X RL cL_law 4 c9 n9 (zJ Z1 Z2) 899 [some (.ref b), some (.ref x), some (.ref m), some (.int (nI i))] [] (dJ Z1 u1 u2)) : mGo l G room_1 X RL cL_law 4 c9 n9 (zJ Z1 Z2) 377 [some (.ref b), some (.ref x), some (.ref m), some (.int (nI i))] [] (dJ Z1 d1 d2) := by
  obtain ⟨k, hk⟩ := CK_of hr
  refine al1 dL_law_377 ?_
  refine callJ1 (As := []) hdis (c_X8_undo hx hr.1.1 hk.2.1.1 hk.2.1.2.1) wm_L_53 yvX8_undo hx.o8 rfl rfl rfl ⟨Nat.le_of_ble_eq_true rfl, Nat.le_of_ble_eq_true rfl⟩ hce (Nat.le_of_ble_eq_true rfl) dL_law_378 ?_
  refine al2 dL_law_381 ?_
  refine callJ2 (As := []) hdis (c_X9_undo hm hk.2.2 hk.2.1.2.1) wm_L_56 yvX9_undo hm.1 rfl rfl rfl ⟨Nat.le_of_ble_eq_true rfl, Nat.le_of_ble_eq_true rfl⟩ hce (Nat.le_of_ble_eq_true rfl) dL_law_382 ?_
  exact g_icmpeq 899 dL_law_385 (by decide) (fun _ => kk _ _ (k_undo hx hm hk)) (fun q9 => absurd (e_undo k) q9)
theorem lw_seed (hx : clS Z1 x st kp tp sr ha fi sp sh sc pa kc kq le dt mo ne) (hI : oI Z1) (hm : mdS Z2 m nw od fd tr rd ah kr ka ln sz it mv) (hdis : ∀ a, a ∈ Z1.1 → a ∉ Z2.1) (hX : va_X b L xs X.2.2.1 X.2.2.1.heap) (hbl : b < X.2.2.1.heap.size) (hbA : ¬ X.2.2.2.2.2.2.2.2.1 b) (hL : L < 2 ^ 31) (hi : i + 6 ≤ L) (hce : c9 + 0 ≤ room_1.cells ∧ n9 + 0 ≤ room_1.slots) (hr : CR Z1 d1 d2 x st kp tp sh sc pa kc kq le m nw od tr ah kr ka ln sz it) (kk : ∀ u1 u2, CR Z1 u1 u2 x st kp tp sh sc pa kc kq le m nw od tr ah kr ka ln sz it → mGo l G room_1 X RL cL_law 4 c9 n9 (zJ Z1 Z2) 899 [some (.ref b), some (.ref x), some (.ref m), some (.int (nI i))] [] (dJ Z1 u1 u2)) : mGo l G room_1 X RL cL_law 4 c9 n9 (zJ Z1 Z2) 390 [some (.ref b), some (.ref x), some (.ref m), some (.int (nI i))] [] (dJ Z1 d1 d2) := by
  refine al1 dL_law_390 ?_
  refine al0 dL_law_391 ?_
  refine il3 dL_law_392 ?_
  refine g_iconst (v := 1) dL_law_393 (by decide) ?_
  refine g_iadd dL_law_394 ?_
  refine g_sld (i + 1) hX hbl hbA (show nI i + 1 = nI (i + 1) from nI_add i 1) (by omega) hL dL_law_395 ?_
  refine callJ1 (As := [.int (xs (i + 1))]) hdis (c_X8_seed hx ) wm_L_57 yvX8_seed hx.o8 rfl rfl rfl ⟨Nat.le_of_ble_eq_true rfl, Nat.le_of_ble_eq_true rfl⟩ hce (Nat.le_of_ble_eq_true rfl) dL_law_396 ?_
  refine al2 dL_law_399 ?_
  refine al0 dL_law_400 ?_
  refine il3 dL_law_401 ?_
  refine g_iconst (v := 1) dL_law_402 (by decide) ?_
  refine g_iadd dL_law_403 ?_
  refine g_sld (i + 1) hX hbl hbA (show nI i + 1 = nI (i + 1) from nI_add i 1) (by omega) hL dL_law_404 ?_
  refine callJ2 (As := [.int (xs (i + 1))]) hdis (c_X9_seed hm ) wm_L_60 yvX9_seed hm.1 rfl rfl rfl ⟨Nat.le_of_ble_eq_true rfl, Nat.le_of_ble_eq_true rfl⟩ hce (Nat.le_of_ble_eq_true rfl) dL_law_405 ?_
  exact g_icmpeq 899 dL_law_408 (by decide) (fun _ => kk _ _ (k_seed hx hm _ hr)) (fun q9 => absurd (e_seed hr _) q9)
theorem lw_cost (hx : clS Z1 x st kp tp sr ha fi sp sh sc pa kc kq le dt mo ne) (hI : oI Z1) (hm : mdS Z2 m nw od fd tr rd ah kr ka ln sz it mv) (hdis : ∀ a, a ∈ Z1.1 → a ∉ Z2.1) (hX : va_X b L xs X.2.2.1 X.2.2.1.heap) (hbl : b < X.2.2.1.heap.size) (hbA : ¬ X.2.2.2.2.2.2.2.2.1 b) (hL : L < 2 ^ 31) (hi : i + 6 ≤ L) (hce : c9 + 0 ≤ room_1.cells ∧ n9 + 0 ≤ room_1.slots) (hr : CR Z1 d1 d2 x st kp tp sh sc pa kc kq le m nw od tr ah kr ka ln sz it) (kk : ∀ u1 u2, CR Z1 u1 u2 x st kp tp sh sc pa kc kq le m nw od tr ah kr ka ln sz it → mGo l G room_1 X RL cL_law 4 c9 n9 (zJ Z1 Z2) 899 [some (.ref b), some (.ref x), some (.ref m), some (.int (nI i))] [] (dJ Z1 u1 u2)) : mGo l G room_1 X RL cL_law 4 c9 n9 (zJ Z1 Z2) 413 [some (.ref b), some (.ref x), some (.ref m), some (.int (nI i))] [] (dJ Z1 d1 d2) := by
  refine al1 dL_law_413 ?_
  refine al0 dL_law_414 ?_
  refine il3 dL_law_415 ?_
  refine g_iconst (v := 1) dL_law_416 (by decide) ?_
  refine g_iadd dL_law_417 ?_
  refine g_sld (i + 1) hX hbl hbA (show nI i + 1 = nI (i + 1) from nI_add i 1) (by omega) hL dL_law_418 ?_
  refine al0 dL_law_419 ?_
  refine il3 dL_law_420 ?_
  refine g_iconst (v := 2) dL_law_421 (by decide) ?_
  refine g_iadd dL_law_422 ?_
  refine g_sld (i + 2) hX hbl hbA (show nI i + 2 = nI (i + 2) from nI_add i 2) (by omega) hL dL_law_423 ?_
  refine callJ1 (As := [.int (xs (i + 1)), .int (xs (i + 2))]) hdis (c_X8_cost hx ) wm_L_61 yvX8_cost hx.o8 rfl rfl rfl ⟨Nat.le_of_ble_eq_true rfl, Nat.le_of_ble_eq_true rfl⟩ hce (Nat.le_of_ble_eq_true rfl) dL_law_424 ?_
  refine al2 dL_law_427 ?_
  refine al0 dL_law_428 ?_
  refine il3 dL_law_429 ?_
  refine g_iconst (v := 1) dL_law_430 (by decide) ?_
  refine g_iadd dL_law_431 ?_
  refine g_sld (i + 1) hX hbl hbA (show nI i + 1 = nI (i + 1) from nI_add i 1) (by omega) hL dL_law_432 ?_
  refine al0 dL_law_433 ?_
  refine il3 dL_law_434 ?_
  refine g_iconst (v := 2) dL_law_435 (by decide) ?_
  refine g_iadd dL_law_436 ?_
  refine g_sld (i + 2) hX hbl hbA (show nI i + 2 = nI (i + 2) from nI_add i 2) (by omega) hL dL_law_437 ?_
  refine callJ2 (As := [.int (xs (i + 1)), .int (xs (i + 2))]) hdis (c_X9_cost hm ) wm_L_64 yvX9_cost hm.1 rfl rfl rfl ⟨Nat.le_of_ble_eq_true rfl, Nat.le_of_ble_eq_true rfl⟩ hce (Nat.le_of_ble_eq_true rfl) dL_law_438 ?_
  exact g_icmpeq 899 dL_law_441 (by decide) (fun _ => kk _ _ (k_cost hx _ _ _ _ _ hr)) (fun q9 => absurd (e_cost hr _ _ _) q9)
theorem lw_of (hx : clS Z1 x st kp tp sr ha fi sp sh sc pa kc kq le dt mo ne) (hI : oI Z1) (hm : mdS Z2 m nw od fd tr rd ah kr ka ln sz it mv) (hdis : ∀ a, a ∈ Z1.1 → a ∉ Z2.1) (hX : va_X b L xs X.2.2.1 X.2.2.1.heap) (hbl : b < X.2.2.1.heap.size) (hbA : ¬ X.2.2.2.2.2.2.2.2.1 b) (hL : L < 2 ^ 31) (hi : i + 6 ≤ L) (hce : c9 + 0 ≤ room_1.cells ∧ n9 + 0 ≤ room_1.slots) (hr : CR Z1 d1 d2 x st kp tp sh sc pa kc kq le m nw od tr ah kr ka ln sz it) (kk : ∀ u1 u2, CR Z1 u1 u2 x st kp tp sh sc pa kc kq le m nw od tr ah kr ka ln sz it → mGo l G room_1 X RL cL_law 4 c9 n9 (zJ Z1 Z2) 899 [some (.ref b), some (.ref x), some (.ref m), some (.int (nI i))] [] (dJ Z1 u1 u2)) : mGo l G room_1 X RL cL_law 4 c9 n9 (zJ Z1 Z2) 446 [some (.ref b), some (.ref x), some (.ref m), some (.int (nI i))] [] (dJ Z1 d1 d2) := by
  refine al1 dL_law_446 ?_
  refine al0 dL_law_447 ?_
  refine il3 dL_law_448 ?_
  refine g_iconst (v := 1) dL_law_449 (by decide) ?_
  refine g_iadd dL_law_450 ?_
  refine g_sld (i + 1) hX hbl hbA (show nI i + 1 = nI (i + 1) from nI_add i 1) (by omega) hL dL_law_451 ?_
  refine al0 dL_law_452 ?_
  refine il3 dL_law_453 ?_
  refine g_iconst (v := 2) dL_law_454 (by decide) ?_
  refine g_iadd dL_law_455 ?_
  refine g_sld (i + 2) hX hbl hbA (show nI i + 2 = nI (i + 2) from nI_add i 2) (by omega) hL dL_law_456 ?_
  refine callJ1 (As := [.int (xs (i + 1)), .int (xs (i + 2))]) hdis (c_X8_of hx ) wm_L_65 yvX8_of hx.o8 rfl rfl rfl ⟨Nat.le_of_ble_eq_true rfl, Nat.le_of_ble_eq_true rfl⟩ hce (Nat.le_of_ble_eq_true rfl) dL_law_457 ?_
  refine al2 dL_law_460 ?_
  refine al0 dL_law_461 ?_
  refine il3 dL_law_462 ?_
  refine g_iconst (v := 1) dL_law_463 (by decide) ?_
  refine g_iadd dL_law_464 ?_
  refine g_sld (i + 1) hX hbl hbA (show nI i + 1 = nI (i + 1) from nI_add i 1) (by omega) hL dL_law_465 ?_
  refine al0 dL_law_466 ?_
  refine il3 dL_law_467 ?_
  refine g_iconst (v := 2) dL_law_468 (by decide) ?_
  refine g_iadd dL_law_469 ?_
  refine g_sld (i + 2) hX hbl hbA (show nI i + 2 = nI (i + 2) from nI_add i 2) (by omega) hL dL_law_470 ?_
  refine callJ2 (As := [.int (xs (i + 1)), .int (xs (i + 2))]) hdis (c_X9_of hm ) wm_L_68 yvX9_of hm.1 rfl rfl rfl ⟨Nat.le_of_ble_eq_true rfl, Nat.le_of_ble_eq_true rfl⟩ hce (Nat.le_of_ble_eq_true rfl) dL_law_471 ?_
  exact g_icmpeq 899 dL_law_474 (by decide) (fun _ => kk _ _ (k_of hx hm _ _ _ _ hr)) (fun q9 => absurd (e_of hr _ _) q9)
theorem lw_rebuilt (hx : clS Z1 x st kp tp sr ha fi sp sh sc pa kc kq le dt mo ne) (hI : oI Z1) (hm : mdS Z2 m nw od fd tr rd ah kr ka ln sz it mv) (hdis : ∀ a, a ∈ Z1.1 → a ∉ Z2.1) (hX : va_X b L xs X.2.2.1 X.2.2.1.heap) (hbl : b < X.2.2.1.heap.size) (hbA : ¬ X.2.2.2.2.2.2.2.2.1 b) (hL : L < 2 ^ 31) (hi : i + 6 ≤ L) (hce : c9 + 0 ≤ room_1.cells ∧ n9 + 0 ≤ room_1.slots) (hr : CR Z1 d1 d2 x st kp tp sh sc pa kc kq le m nw od tr ah kr ka ln sz it) (kk : ∀ u1 u2, CR Z1 u1 u2 x st kp tp sh sc pa kc kq le m nw od tr ah kr ka ln sz it → mGo l G room_1 X RL cL_law 4 c9 n9 (zJ Z1 Z2) 899 [some (.ref b), some (.ref x), some (.ref m), some (.int (nI i))] [] (dJ Z1 u1 u2)) : mGo l G room_1 X RL cL_law 4 c9 n9 (zJ Z1 Z2) 479 [some (.ref b), some (.ref x), some (.ref m), some (.int (nI i))] [] (dJ Z1 d1 d2) := by
  refine al1 dL_law_479 ?_
  refine al0 dL_law_480 ?_
  refine il3 dL_law_481 ?_
  refine g_iconst (v := 1) dL_law_482 (by decide) ?_
  refine g_iadd dL_law_483 ?_
  refine g_sld (i + 1) hX hbl hbA (show nI i + 1 = nI (i + 1) from nI_add i 1) (by omega) hL dL_law_484 ?_
  refine al0 dL_law_485 ?_
  refine il3 dL_law_486 ?_
  refine g_iconst (v := 2) dL_law_487 (by decide) ?_
  refine g_iadd dL_law_488 ?_
  refine g_sld (i + 2) hX hbl hbA (show nI i + 2 = nI (i + 2) from nI_add i 2) (by omega) hL dL_law_489 ?_
  refine callJ1 (As := [.int (xs (i + 1)), .int (xs (i + 2))]) hdis (c_X8_rebuilt hx ) wm_L_69 yvX8_rebuilt hx.o8 rfl rfl rfl ⟨Nat.le_of_ble_eq_true rfl, Nat.le_of_ble_eq_true rfl⟩ hce (Nat.le_of_ble_eq_true rfl) dL_law_490 ?_
  refine al2 dL_law_493 ?_
  refine al0 dL_law_494 ?_
  refine il3 dL_law_495 ?_
  refine g_iconst (v := 1) dL_law_496 (by decide) ?_
  refine g_iadd dL_law_497 ?_
  refine g_sld (i + 1) hX hbl hbA (show nI i + 1 = nI (i + 1) from nI_add i 1) (by omega) hL dL_law_498 ?_
  refine al0 dL_law_499 ?_
  refine il3 dL_law_500 ?_
  refine g_iconst (v := 2) dL_law_501 (by decide) ?_
  refine g_iadd dL_law_502 ?_
  refine g_sld (i + 2) hX hbl hbA (show nI i + 2 = nI (i + 2) from nI_add i 2) (by omega) hL dL_law_503 ?_
  refine callJ2 (As := [.int (xs (i + 1)), .int (xs (i + 2))]) hdis (c_X9_rebuilt hm ) wm_L_72 yvX9_rebuilt hm.1 rfl rfl rfl ⟨Nat.le_of_ble_eq_true rfl, Nat.le_of_ble_eq_true rfl⟩ hce (Nat.le_of_ble_eq_true rfl) dL_law_504 ?_
  exact g_icmpeq 899 dL_law_507 (by decide) (fun _ => kk _ _ (k_rebuilt hx hm _ _ _ _ _ _ hr)) (fun q9 => absurd (e_rebuilt hr fd _ _) q9)
theorem lw_wrong (hx : clS Z1 x st kp tp sr ha fi sp sh sc pa kc kq le dt mo ne) (hI : oI Z1) (hm : mdS Z2 m nw od fd tr rd ah kr ka ln sz it mv) (hdis : ∀ a, a ∈ Z1.1 → a ∉ Z2.1) (hX : va_X b L xs X.2.2.1 X.2.2.1.heap) (hbl : b < X.2.2.1.heap.size) (hbA : ¬ X.2.2.2.2.2.2.2.2.1 b) (hL : L < 2 ^ 31) (hi : i + 6 ≤ L) (hce : c9 + 0 ≤ room_1.cells ∧ n9 + 0 ≤ room_1.slots) (hr : CR Z1 d1 d2 x st kp tp sh sc pa kc kq le m nw od tr ah kr ka ln sz it) (kk : ∀ u1 u2, CR Z1 u1 u2 x st kp tp sh sc pa kc kq le m nw od tr ah kr ka ln sz it → mGo l G room_1 X RL cL_law 4 c9 n9 (zJ Z1 Z2) 899 [some (.ref b), some (.ref x), some (.ref m), some (.int (nI i))] [] (dJ Z1 u1 u2)) : mGo l G room_1 X RL cL_law 4 c9 n9 (zJ Z1 Z2) 512 [some (.ref b), some (.ref x), some (.ref m), some (.int (nI i))] [] (dJ Z1 d1 d2) := by
  refine al1 dL_law_512 ?_
  refine al0 dL_law_513 ?_
  refine il3 dL_law_514 ?_
  refine g_iconst (v := 1) dL_law_515 (by decide) ?_
  refine g_iadd dL_law_516 ?_
  refine g_sld (i + 1) hX hbl hbA (show nI i + 1 = nI (i + 1) from nI_add i 1) (by omega) hL dL_law_517 ?_
  refine al0 dL_law_518 ?_
  refine il3 dL_law_519 ?_
  refine g_iconst (v := 2) dL_law_520 (by decide) ?_
  refine g_iadd dL_law_521 ?_
  refine g_sld (i + 2) hX hbl hbA (show nI i + 2 = nI (i + 2) from nI_add i 2) (by omega) hL dL_law_522 ?_
  refine al0 dL_law_523 ?_
  refine il3 dL_law_524 ?_
  refine g_iconst (v := 3) dL_law_525 (by decide) ?_
  refine g_iadd dL_law_526 ?_
  refine g_sld (i + 3) hX hbl hbA (show nI i + 3 = nI (i + 3) from nI_add i 3) (by omega) hL dL_law_527 ?_
  refine callJ1 (As := [.int (xs (i + 1)), .int (xs (i + 2)), .int (xs (i + 3))]) hdis (c_X8_wrong hx ) wm_L_73 yvX8_wrong hx.o8 rfl rfl rfl ⟨Nat.le_of_ble_eq_true rfl, Nat.le_of_ble_eq_true rfl⟩ hce (Nat.le_of_ble_eq_true rfl) dL_law_528 ?_
  refine al2 dL_law_531 ?_
  refine al0 dL_law_532 ?_
  refine il3 dL_law_533 ?_
  refine g_iconst (v := 1) dL_law_534 (by decide) ?_
  refine g_iadd dL_law_535 ?_
  refine g_sld (i + 1) hX hbl hbA (show nI i + 1 = nI (i + 1) from nI_add i 1) (by omega) hL dL_law_536 ?_
  refine al0 dL_law_537 ?_
  refine il3 dL_law_538 ?_
  refine g_iconst (v := 2) dL_law_539 (by decide) ?_
  refine g_iadd dL_law_540 ?_
  refine g_sld (i + 2) hX hbl hbA (show nI i + 2 = nI (i + 2) from nI_add i 2) (by omega) hL dL_law_541 ?_
  refine al0 dL_law_542 ?_
  refine il3 dL_law_543 ?_
  refine g_iconst (v := 3) dL_law_544 (by decide) ?_
  refine g_iadd dL_law_545 ?_
  refine g_sld (i + 3) hX hbl hbA (show nI i + 3 = nI (i + 3) from nI_add i 3) (by omega) hL dL_law_546 ?_
  refine callJ2 (As := [.int (xs (i + 1)), .int (xs (i + 2)), .int (xs (i + 3))]) hdis (c_X9_wrong hm ) wm_L_76 yvX9_wrong hm.1 rfl rfl rfl ⟨Nat.le_of_ble_eq_true rfl, Nat.le_of_ble_eq_true rfl⟩ hce (Nat.le_of_ble_eq_true rfl) dL_law_547 ?_
  exact g_icmpeq 899 dL_law_550 (by decide) (fun _ => kk _ _ (k_wrong hx hm _ _ _ hr)) (fun q9 => absurd (e_wrong hx _ _ _ hr) q9)
theorem lw_image (hx : clS Z1 x st kp tp sr ha fi sp sh sc pa kc kq le dt mo ne) (hI : oI Z1) (hm : mdS Z2 m nw od fd tr rd ah kr ka ln sz it mv) (hdis : ∀ a, a ∈ Z1.1 → a ∉ Z2.1) (hX : va_X b L xs X.2.2.1 X.2.2.1.heap) (hbl : b < X.2.2.1.heap.size) (hbA : ¬ X.2.2.2.2.2.2.2.2.1 b) (hL : L < 2 ^ 31) (hi : i + 6 ≤ L) (hce : c9 + 0 ≤ room_1.cells ∧ n9 + 0 ≤ room_1.slots) (hr : CR Z1 d1 d2 x st kp tp sh sc pa kc kq le m nw od tr ah kr ka ln sz it) (kk : ∀ u1 u2, CR Z1 u1 u2 x st kp tp sh sc pa kc kq le m nw od tr ah kr ka ln sz it → mGo l G room_1 X RL cL_law 4 c9 n9 (zJ Z1 Z2) 899 [some (.ref b), some (.ref x), some (.ref m), some (.int (nI i))] [] (dJ Z1 u1 u2)) : mGo l G room_1 X RL cL_law 4 c9 n9 (zJ Z1 Z2) 555 [some (.ref b), some (.ref x), some (.ref m), some (.int (nI i))] [] (dJ Z1 d1 d2) := by
  obtain ⟨k, hk⟩ := CK_of hr
  refine al1 dL_law_555 ?_
  refine callJ1 (As := []) hdis (c_X8_image hx hr.1.1 hk.2.1.1 hk.2.1.2.1 hr.1.2.1) wm_L_77 yvX8_image hx.o8 rfl rfl rfl ⟨Nat.le_of_ble_eq_true rfl, Nat.le_of_ble_eq_true rfl⟩ hce (Nat.le_of_ble_eq_true rfl) dL_law_556 ?_
  refine al2 dL_law_559 ?_
  refine callJ2 (As := []) hdis (c_X9_image hm ) wm_L_80 yvX9_image hm.1 rfl rfl rfl ⟨Nat.le_of_ble_eq_true rfl, Nat.le_of_ble_eq_true rfl⟩ hce (Nat.le_of_ble_eq_true rfl) dL_law_560 ?_
  exact g_icmpeq 899 dL_law_563 (by decide) (fun _ => kk _ _ (k_image hx hm hk)) (fun q9 => absurd (rfl) q9)
theorem lw_restore (hx : clS Z1 x st kp tp sr ha fi sp sh sc pa kc kq le dt mo ne) (hI : oI Z1) (hm : mdS Z2 m nw od fd tr rd ah kr ka ln sz it mv) (hdis : ∀ a, a ∈ Z1.1 → a ∉ Z2.1) (hX : va_X b L xs X.2.2.1 X.2.2.1.heap) (hbl : b < X.2.2.1.heap.size) (hbA : ¬ X.2.2.2.2.2.2.2.2.1 b) (hL : L < 2 ^ 31) (hi : i + 6 ≤ L) (hce : c9 + 0 ≤ room_1.cells ∧ n9 + 0 ≤ room_1.slots) (hr : CR Z1 d1 d2 x st kp tp sh sc pa kc kq le m nw od tr ah kr ka ln sz it) (kk : ∀ u1 u2, CR Z1 u1 u2 x st kp tp sh sc pa kc kq le m nw od tr ah kr ka ln sz it → mGo l G room_1 X RL cL_law 4 c9 n9 (zJ Z1 Z2) 899 [some (.ref b), some (.ref x), some (.ref m), some (.int (nI i))] [] (dJ Z1 u1 u2)) : mGo l G room_1 X RL cL_law 4 c9 n9 (zJ Z1 Z2) 568 [some (.ref b), some (.ref x), some (.ref m), some (.int (nI i))] [] (dJ Z1 d1 d2) := by
  obtain ⟨k, h1, h2, _⟩ := id hr.2.2.1
  refine al1 dL_law_568 ?_
  refine callJ1 (As := []) hdis (c_X8_restore hx hr.1.1 hr.1.2.1 h1 h2) wm_L_81 yvX8_restore hx.o8 rfl rfl rfl ⟨Nat.le_of_ble_eq_true rfl, Nat.le_of_ble_eq_true rfl⟩ hce (Nat.le_of_ble_eq_true rfl) dL_law_569 ?_
  refine al2 dL_law_572 ?_
  refine callJ2 (As := []) hdis (c_X9_restore hm ) wm_L_84 yvX9_restore hm.1 rfl rfl rfl ⟨Nat.le_of_ble_eq_true rfl, Nat.le_of_ble_eq_true rfl⟩ hce (Nat.le_of_ble_eq_true rfl) dL_law_573 ?_
  exact g_icmpeq 899 dL_law_576 (by decide) (fun _ => kk _ _ (k_restore hx hm h1 h2 hr)) (fun q9 => absurd (e_restore hr) q9)
theorem lw_found (hx : clS Z1 x st kp tp sr ha fi sp sh sc pa kc kq le dt mo ne) (hI : oI Z1) (hm : mdS Z2 m nw od fd tr rd ah kr ka ln sz it mv) (hdis : ∀ a, a ∈ Z1.1 → a ∉ Z2.1) (hX : va_X b L xs X.2.2.1 X.2.2.1.heap) (hbl : b < X.2.2.1.heap.size) (hbA : ¬ X.2.2.2.2.2.2.2.2.1 b) (hL : L < 2 ^ 31) (hi : i + 6 ≤ L) (hce : c9 + 0 ≤ room_1.cells ∧ n9 + 0 ≤ room_1.slots) (hr : CR Z1 d1 d2 x st kp tp sh sc pa kc kq le m nw od tr ah kr ka ln sz it) (kk : ∀ u1 u2, CR Z1 u1 u2 x st kp tp sh sc pa kc kq le m nw od tr ah kr ka ln sz it → mGo l G room_1 X RL cL_law 4 c9 n9 (zJ Z1 Z2) 899 [some (.ref b), some (.ref x), some (.ref m), some (.int (nI i))] [] (dJ Z1 u1 u2)) : mGo l G room_1 X RL cL_law 4 c9 n9 (zJ Z1 Z2) 581 [some (.ref b), some (.ref x), some (.ref m), some (.int (nI i))] [] (dJ Z1 d1 d2) := by
  refine al1 dL_law_581 ?_
  refine al0 dL_law_582 ?_
  refine il3 dL_law_583 ?_
  refine g_iconst (v := 1) dL_law_584 (by decide) ?_
  refine g_iadd dL_law_585 ?_
  refine g_sld (i + 1) hX hbl hbA (show nI i + 1 = nI (i + 1) from nI_add i 1) (by omega) hL dL_law_586 ?_
  refine al0 dL_law_587 ?_
  refine il3 dL_law_588 ?_
  refine g_iconst (v := 2) dL_law_589 (by decide) ?_
  refine g_iadd dL_law_590 ?_
  refine g_sld (i + 2) hX hbl hbA (show nI i + 2 = nI (i + 2) from nI_add i 2) (by omega) hL dL_law_591 ?_
  refine al0 dL_law_592 ?_
  refine il3 dL_law_593 ?_
  refine g_iconst (v := 3) dL_law_594 (by decide) ?_
  refine g_iadd dL_law_595 ?_
  refine g_sld (i + 3) hX hbl hbA (show nI i + 3 = nI (i + 3) from nI_add i 3) (by omega) hL dL_law_596 ?_
  refine al0 dL_law_597 ?_
  refine il3 dL_law_598 ?_
  refine g_iconst (v := 4) dL_law_599 (by decide) ?_
  refine g_iadd dL_law_600 ?_
  refine g_sld (i + 4) hX hbl hbA (show nI i + 4 = nI (i + 4) from nI_add i 4) (by omega) hL dL_law_601 ?_
  refine callJ1 (As := [.int (xs (i + 1)), .int (xs (i + 2)), .int (xs (i + 3)), .int (xs (i + 4))]) hdis (c_X8_found hx hr.2.2.2.2.2.1 (sz_of hr).1) wm_L_85 yvX8_found hx.o8 rfl rfl rfl ⟨Nat.le_of_ble_eq_true rfl, Nat.le_of_ble_eq_true rfl⟩ hce (Nat.le_of_ble_eq_true rfl) dL_law_602 ?_
  refine al2 dL_law_605 ?_
  refine al0 dL_law_606 ?_
  refine il3 dL_law_607 ?_
  refine g_iconst (v := 1) dL_law_608 (by decide) ?_
  refine g_iadd dL_law_609 ?_
  refine g_sld (i + 1) hX hbl hbA (show nI i + 1 = nI (i + 1) from nI_add i 1) (by omega) hL dL_law_610 ?_
  refine al0 dL_law_611 ?_
  refine il3 dL_law_612 ?_
  refine g_iconst (v := 2) dL_law_613 (by decide) ?_
  refine g_iadd dL_law_614 ?_
  refine g_sld (i + 2) hX hbl hbA (show nI i + 2 = nI (i + 2) from nI_add i 2) (by omega) hL dL_law_615 ?_
  refine al0 dL_law_616 ?_
  refine il3 dL_law_617 ?_
  refine g_iconst (v := 3) dL_law_618 (by decide) ?_
  refine g_iadd dL_law_619 ?_
  refine g_sld (i + 3) hX hbl hbA (show nI i + 3 = nI (i + 3) from nI_add i 3) (by omega) hL dL_law_620 ?_
  refine al0 dL_law_621 ?_
  refine il3 dL_law_622 ?_
  refine g_iconst (v := 4) dL_law_623 (by decide) ?_
  refine g_iadd dL_law_624 ?_
  refine g_sld (i + 4) hX hbl hbA (show nI i + 4 = nI (i + 4) from nI_add i 4) (by omega) hL dL_law_625 ?_
  refine callJ2 (As := [.int (xs (i + 1)), .int (xs (i + 2)), .int (xs (i + 3)), .int (xs (i + 4))]) hdis (c_X9_found hm (sz_of hr).2) wm_L_89 yvX9_found hm.1 rfl rfl rfl ⟨Nat.le_of_ble_eq_true rfl, Nat.le_of_ble_eq_true rfl⟩ hce (Nat.le_of_ble_eq_true rfl) dL_law_626 ?_
  exact g_icmpeq 899 dL_law_629 (by decide) (fun _ => kk _ _ (k_found hx _ _ _ _ hr)) (fun q9 => absurd (e_found hx _ _ _ _ hr) q9)
theorem lw_film (hx : clS Z1 x st kp tp sr ha fi sp sh sc pa kc kq le dt mo ne) (hI : oI Z1) (hm : mdS Z2 m nw od fd tr rd ah kr ka ln sz it mv) (hdis : ∀ a, a ∈ Z1.1 → a ∉ Z2.1) (hX : va_X b L xs X.2.2.1 X.2.2.1.heap) (hbl : b < X.2.2.1.heap.size) (hbA : ¬ X.2.2.2.2.2.2.2.2.1 b) (hL : L < 2 ^ 31) (hi : i + 6 ≤ L) (hce : c9 + 0 ≤ room_1.cells ∧ n9 + 0 ≤ room_1.slots) (hr : CR Z1 d1 d2 x st kp tp sh sc pa kc kq le m nw od tr ah kr ka ln sz it) (kk : ∀ u1 u2, CR Z1 u1 u2 x st kp tp sh sc pa kc kq le m nw od tr ah kr ka ln sz it → mGo l G room_1 X RL cL_law 4 c9 n9 (zJ Z1 Z2) 899 [some (.ref b), some (.ref x), some (.ref m), some (.int (nI i))] [] (dJ Z1 u1 u2)) : mGo l G room_1 X RL cL_law 4 c9 n9 (zJ Z1 Z2) 634 [some (.ref b), some (.ref x), some (.ref m), some (.int (nI i))] [] (dJ Z1 d1 d2) := by
  refine al1 dL_law_634 ?_
  refine al0 dL_law_635 ?_
  refine il3 dL_law_636 ?_
  refine g_iconst (v := 1) dL_law_637 (by decide) ?_
  refine g_iadd dL_law_638 ?_
  refine g_sld (i + 1) hX hbl hbA (show nI i + 1 = nI (i + 1) from nI_add i 1) (by omega) hL dL_law_639 ?_
  refine al0 dL_law_640 ?_
  refine il3 dL_law_641 ?_
  refine g_iconst (v := 2) dL_law_642 (by decide) ?_
  refine g_iadd dL_law_643 ?_
  refine g_sld (i + 2) hX hbl hbA (show nI i + 2 = nI (i + 2) from nI_add i 2) (by omega) hL dL_law_644 ?_
  refine al0 dL_law_645 ?_
  refine il3 dL_law_646 ?_
  refine g_iconst (v := 3) dL_law_647 (by decide) ?_
  refine g_iadd dL_law_648 ?_
  refine g_sld (i + 3) hX hbl hbA (show nI i + 3 = nI (i + 3) from nI_add i 3) (by omega) hL dL_law_649 ?_
  refine al0 dL_law_650 ?_
  refine il3 dL_law_651 ?_
  refine g_iconst (v := 4) dL_law_652 (by decide) ?_
  refine g_iadd dL_law_653 ?_
  refine g_sld (i + 4) hX hbl hbA (show nI i + 4 = nI (i + 4) from nI_add i 4) (by omega) hL dL_law_654 ?_
  refine callJ1 (As := [.int (xs (i + 1)), .int (xs (i + 2)), .int (xs (i + 3)), .int (xs (i + 4))]) hdis (c_X8_film hx hr.2.2.2.2.2.1 (sz_of hr).1) wm_L_90 yvX8_film hx.o8 rfl rfl rfl ⟨Nat.le_of_ble_eq_true rfl, Nat.le_of_ble_eq_true rfl⟩ hce (Nat.le_of_ble_eq_true rfl) dL_law_655 ?_
  refine al2 dL_law_658 ?_
  refine al0 dL_law_659 ?_
  refine il3 dL_law_660 ?_
  refine g_iconst (v := 1) dL_law_661 (by decide) ?_
  refine g_iadd dL_law_662 ?_
  refine g_sld (i + 1) hX hbl hbA (show nI i + 1 = nI (i + 1) from nI_add i 1) (by omega) hL dL_law_663 ?_
  refine al0 dL_law_664 ?_
  refine il3 dL_law_665 ?_
  refine g_iconst (v := 2) dL_law_666 (by decide) ?_
  refine g_iadd dL_law_667 ?_
  refine g_sld (i + 2) hX hbl hbA (show nI i + 2 = nI (i + 2) from nI_add i 2) (by omega) hL dL_law_668 ?_
  refine al0 dL_law_669 ?_
  refine il3 dL_law_670 ?_
  refine g_iconst (v := 3) dL_law_671 (by decide) ?_
  refine g_iadd dL_law_672 ?_
  refine g_sld (i + 3) hX hbl hbA (show nI i + 3 = nI (i + 3) from nI_add i 3) (by omega) hL dL_law_673 ?_
  refine al0 dL_law_674 ?_
  refine il3 dL_law_675 ?_
  refine g_iconst (v := 4) dL_law_676 (by decide) ?_
  refine g_iadd dL_law_677 ?_
  refine g_sld (i + 4) hX hbl hbA (show nI i + 4 = nI (i + 4) from nI_add i 4) (by omega) hL dL_law_678 ?_
  refine callJ2 (As := [.int (xs (i + 1)), .int (xs (i + 2)), .int (xs (i + 3)), .int (xs (i + 4))]) hdis (c_X9_film hm (sz_of hr).2) wm_L_93 yvX9_film hm.1 rfl rfl rfl ⟨Nat.le_of_ble_eq_true rfl, Nat.le_of_ble_eq_true rfl⟩ hce (Nat.le_of_ble_eq_true rfl) dL_law_679 ?_
  exact g_icmpeq 899 dL_law_682 (by decide) (fun _ => kk _ _ (k_film hx hI hm _ _ _ _ hr)) (fun q9 => absurd (e_film hr _ _ _ _) q9)
theorem lw_sheet (hx : clS Z1 x st kp tp sr ha fi sp sh sc pa kc kq le dt mo ne) (hI : oI Z1) (hm : mdS Z2 m nw od fd tr rd ah kr ka ln sz it mv) (hdis : ∀ a, a ∈ Z1.1 → a ∉ Z2.1) (hX : va_X b L xs X.2.2.1 X.2.2.1.heap) (hbl : b < X.2.2.1.heap.size) (hbA : ¬ X.2.2.2.2.2.2.2.2.1 b) (hL : L < 2 ^ 31) (hi : i + 6 ≤ L) (hce : c9 + 0 ≤ room_1.cells ∧ n9 + 0 ≤ room_1.slots) (hr : CR Z1 d1 d2 x st kp tp sh sc pa kc kq le m nw od tr ah kr ka ln sz it) (kk : ∀ u1 u2, CR Z1 u1 u2 x st kp tp sh sc pa kc kq le m nw od tr ah kr ka ln sz it → mGo l G room_1 X RL cL_law 4 c9 n9 (zJ Z1 Z2) 899 [some (.ref b), some (.ref x), some (.ref m), some (.int (nI i))] [] (dJ Z1 u1 u2)) : mGo l G room_1 X RL cL_law 4 c9 n9 (zJ Z1 Z2) 687 [some (.ref b), some (.ref x), some (.ref m), some (.int (nI i))] [] (dJ Z1 d1 d2) := by
  refine al1 dL_law_687 ?_
  refine al0 dL_law_688 ?_
  refine il3 dL_law_689 ?_
  refine g_iconst (v := 1) dL_law_690 (by decide) ?_
  refine g_iadd dL_law_691 ?_
  refine g_sld (i + 1) hX hbl hbA (show nI i + 1 = nI (i + 1) from nI_add i 1) (by omega) hL dL_law_692 ?_
  refine al0 dL_law_693 ?_
  refine il3 dL_law_694 ?_
  refine g_iconst (v := 2) dL_law_695 (by decide) ?_
  refine g_iadd dL_law_696 ?_
  refine g_sld (i + 2) hX hbl hbA (show nI i + 2 = nI (i + 2) from nI_add i 2) (by omega) hL dL_law_697 ?_
  refine al0 dL_law_698 ?_
  refine il3 dL_law_699 ?_
  refine g_iconst (v := 3) dL_law_700 (by decide) ?_
  refine g_iadd dL_law_701 ?_
  refine g_sld (i + 3) hX hbl hbA (show nI i + 3 = nI (i + 3) from nI_add i 3) (by omega) hL dL_law_702 ?_
  refine callJ1 (As := [.int (xs (i + 1)), .int (xs (i + 2)), .int (xs (i + 3))]) hdis (c_X8_sheet hx hr.2.2.2.2.2.1 (sz_of hr).1) wm_L_94 yvX8_sheet hx.o8 rfl rfl rfl ⟨Nat.le_of_ble_eq_true rfl, Nat.le_of_ble_eq_true rfl⟩ hce (Nat.le_of_ble_eq_true rfl) dL_law_703 ?_
  refine al2 dL_law_706 ?_
  refine al0 dL_law_707 ?_
  refine il3 dL_law_708 ?_
  refine g_iconst (v := 1) dL_law_709 (by decide) ?_
  refine g_iadd dL_law_710 ?_
  refine g_sld (i + 1) hX hbl hbA (show nI i + 1 = nI (i + 1) from nI_add i 1) (by omega) hL dL_law_711 ?_
  refine al0 dL_law_712 ?_
  refine il3 dL_law_713 ?_
  refine g_iconst (v := 2) dL_law_714 (by decide) ?_
  refine g_iadd dL_law_715 ?_
  refine g_sld (i + 2) hX hbl hbA (show nI i + 2 = nI (i + 2) from nI_add i 2) (by omega) hL dL_law_716 ?_
  refine al0 dL_law_717 ?_
  refine il3 dL_law_718 ?_
  refine g_iconst (v := 3) dL_law_719 (by decide) ?_
  refine g_iadd dL_law_720 ?_
  refine g_sld (i + 3) hX hbl hbA (show nI i + 3 = nI (i + 3) from nI_add i 3) (by omega) hL dL_law_721 ?_
  refine callJ2 (As := [.int (xs (i + 1)), .int (xs (i + 2)), .int (xs (i + 3))]) hdis (c_X9_sheet hm ) wm_L_97 yvX9_sheet hm.1 rfl rfl rfl ⟨Nat.le_of_ble_eq_true rfl, Nat.le_of_ble_eq_true rfl⟩ hce (Nat.le_of_ble_eq_true rfl) dL_law_722 ?_
  exact g_icmpeq 899 dL_law_725 (by decide) (fun _ => kk _ _ (k_sheet hx hI hm _ _ _ hr)) (fun q9 => absurd (rfl) q9)
theorem lw_drop (hx : clS Z1 x st kp tp sr ha fi sp sh sc pa kc kq le dt mo ne) (hI : oI Z1) (hm : mdS Z2 m nw od fd tr rd ah kr ka ln sz it mv) (hdis : ∀ a, a ∈ Z1.1 → a ∉ Z2.1) (hX : va_X b L xs X.2.2.1 X.2.2.1.heap) (hbl : b < X.2.2.1.heap.size) (hbA : ¬ X.2.2.2.2.2.2.2.2.1 b) (hL : L < 2 ^ 31) (hi : i + 6 ≤ L) (hce : c9 + 0 ≤ room_1.cells ∧ n9 + 0 ≤ room_1.slots) (hr : CR Z1 d1 d2 x st kp tp sh sc pa kc kq le m nw od tr ah kr ka ln sz it) (kk : ∀ u1 u2, CR Z1 u1 u2 x st kp tp sh sc pa kc kq le m nw od tr ah kr ka ln sz it → mGo l G room_1 X RL cL_law 4 c9 n9 (zJ Z1 Z2) 899 [some (.ref b), some (.ref x), some (.ref m), some (.int (nI i))] [] (dJ Z1 u1 u2)) : mGo l G room_1 X RL cL_law 4 c9 n9 (zJ Z1 Z2) 730 [some (.ref b), some (.ref x), some (.ref m), some (.int (nI i))] [] (dJ Z1 d1 d2) := by
  refine al1 dL_law_730 ?_
  refine al0 dL_law_731 ?_
  refine il3 dL_law_732 ?_
  refine g_iconst (v := 1) dL_law_733 (by decide) ?_
  refine g_iadd dL_law_734 ?_
  refine g_sld (i + 1) hX hbl hbA (show nI i + 1 = nI (i + 1) from nI_add i 1) (by omega) hL dL_law_735 ?_
  refine callJ1 (As := [.int (xs (i + 1))]) hdis (c_X8_drop hx hr.2.2.2.2.2.1 (sz_of hr).1) wm_L_98 yvX8_drop hx.o8 rfl rfl rfl ⟨Nat.le_of_ble_eq_true rfl, Nat.le_of_ble_eq_true rfl⟩ hce (Nat.le_of_ble_eq_true rfl) dL_law_736 ?_
  refine al2 dL_law_739 ?_
  refine al0 dL_law_740 ?_
  refine il3 dL_law_741 ?_
  refine g_iconst (v := 1) dL_law_742 (by decide) ?_
  refine g_iadd dL_law_743 ?_
  refine g_sld (i + 1) hX hbl hbA (show nI i + 1 = nI (i + 1) from nI_add i 1) (by omega) hL dL_law_744 ?_
  refine callJ2 (As := [.int (xs (i + 1))]) hdis (c_X9_drop hm ) wm_L_101 yvX9_drop hm.1 rfl rfl rfl ⟨Nat.le_of_ble_eq_true rfl, Nat.le_of_ble_eq_true rfl⟩ hce (Nat.le_of_ble_eq_true rfl) dL_law_745 ?_
  exact g_icmpeq 899 dL_law_748 (by decide) (fun _ => kk _ _ (k_drop hx hm _ hr)) (fun q9 => absurd (e_drop hr _) q9)
theorem lw_item (hx : clS Z1 x st kp tp sr ha fi sp sh sc pa kc kq le dt mo ne) (hI : oI Z1) (hm : mdS Z2 m nw od fd tr rd ah kr ka ln sz it mv) (hdis : ∀ a, a ∈ Z1.1 → a ∉ Z2.1) (hX : va_X b L xs X.2.2.1 X.2.2.1.heap) (hbl : b < X.2.2.1.heap.size) (hbA : ¬ X.2.2.2.2.2.2.2.2.1 b) (hL : L < 2 ^ 31) (hi : i + 6 ≤ L) (hce : c9 + 0 ≤ room_1.cells ∧ n9 + 0 ≤ room_1.slots) (hr : CR Z1 d1 d2 x st kp tp sh sc pa kc kq le m nw od tr ah kr ka ln sz it) (kk : ∀ u1 u2, CR Z1 u1 u2 x st kp tp sh sc pa kc kq le m nw od tr ah kr ka ln sz it → mGo l G room_1 X RL cL_law 4 c9 n9 (zJ Z1 Z2) 899 [some (.ref b), some (.ref x), some (.ref m), some (.int (nI i))] [] (dJ Z1 u1 u2)) : mGo l G room_1 X RL cL_law 4 c9 n9 (zJ Z1 Z2) 753 [some (.ref b), some (.ref x), some (.ref m), some (.int (nI i))] [] (dJ Z1 d1 d2) := by
  refine al1 dL_law_753 ?_
  refine al0 dL_law_754 ?_
  refine il3 dL_law_755 ?_
  refine g_iconst (v := 1) dL_law_756 (by decide) ?_
  refine g_iadd dL_law_757 ?_
  refine g_sld (i + 1) hX hbl hbA (show nI i + 1 = nI (i + 1) from nI_add i 1) (by omega) hL dL_law_758 ?_
  refine al0 dL_law_759 ?_
  refine il3 dL_law_760 ?_
  refine g_iconst (v := 2) dL_law_761 (by decide) ?_
  refine g_iadd dL_law_762 ?_
  refine g_sld (i + 2) hX hbl hbA (show nI i + 2 = nI (i + 2) from nI_add i 2) (by omega) hL dL_law_763 ?_
  refine al0 dL_law_764 ?_
  refine il3 dL_law_765 ?_
  refine g_iconst (v := 3) dL_law_766 (by decide) ?_
  refine g_iadd dL_law_767 ?_
  refine g_sld (i + 3) hX hbl hbA (show nI i + 3 = nI (i + 3) from nI_add i 3) (by omega) hL dL_law_768 ?_
  refine al0 dL_law_769 ?_
  refine il3 dL_law_770 ?_
  refine g_iconst (v := 4) dL_law_771 (by decide) ?_
  refine g_iadd dL_law_772 ?_
  refine g_sld (i + 4) hX hbl hbA (show nI i + 4 = nI (i + 4) from nI_add i 4) (by omega) hL dL_law_773 ?_
  refine g_i2l dL_law_774 ?_
  refine g_bipush (v := 32) dL_law_775 (by decide) ?_
  refine g_lshl dL_law_777 ?_
  refine al0 dL_law_778 ?_
  refine il3 dL_law_779 ?_
  refine g_iconst (v := 5) dL_law_780 (by decide) ?_
  refine g_iadd dL_law_781 ?_
  refine g_sld (i + 5) hX hbl hbA (show nI i + 5 = nI (i + 5) from nI_add i 5) (by omega) hL dL_law_782 ?_
  refine g_i2l dL_law_783 ?_
  refine g_ldc2 dL_law_784 wk_L_102 ?_
  refine g_land dL_law_787 ?_
  refine g_lor dL_law_788 ?_
  refine callJ1 (As := [.int (xs (i + 1)), .int (xs (i + 2)), .int (xs (i + 3)), .long (((xs (i + 4)).toInt64 <<< (((32 : Int32)).toInt64 &&& 63)) ||| ((xs (i + 5)).toInt64 &&& 4294967295))]) hdis (c_X8_item hx hr.2.2.2.2.2.1 (sz_of hr).1) wm_L_104 yvX8_item hx.o8 rfl rfl rfl ⟨Nat.le_of_ble_eq_true rfl, Nat.le_of_ble_eq_true rfl⟩ hce (Nat.le_of_ble_eq_true rfl) dL_law_789 ?_
  refine al2 dL_law_792 ?_
  refine al0 dL_law_793 ?_
  refine il3 dL_law_794 ?_
  refine g_iconst (v := 1) dL_law_795 (by decide) ?_
  refine g_iadd dL_law_796 ?_
  refine g_sld (i + 1) hX hbl hbA (show nI i + 1 = nI (i + 1) from nI_add i 1) (by omega) hL dL_law_797 ?_
  refine al0 dL_law_798 ?_
  refine il3 dL_law_799 ?_
  refine g_iconst (v := 2) dL_law_800 (by decide) ?_
  refine g_iadd dL_law_801 ?_
  refine g_sld (i + 2) hX hbl hbA (show nI i + 2 = nI (i + 2) from nI_add i 2) (by omega) hL dL_law_802 ?_
  refine al0 dL_law_803 ?_
  refine il3 dL_law_804 ?_
  refine g_iconst (v := 3) dL_law_805 (by decide) ?_
  refine g_iadd dL_law_806 ?_
  refine g_sld (i + 3) hX hbl hbA (show nI i + 3 = nI (i + 3) from nI_add i 3) (by omega) hL dL_law_807 ?_
  refine al0 dL_law_808 ?_
  refine il3 dL_law_809 ?_
  refine g_iconst (v := 4) dL_law_810 (by decide) ?_
  refine g_iadd dL_law_811 ?_
  refine g_sld (i + 4) hX hbl hbA (show nI i + 4 = nI (i + 4) from nI_add i 4) (by omega) hL dL_law_812 ?_
  refine g_i2l dL_law_813 ?_
  refine g_bipush (v := 32) dL_law_814 (by decide) ?_
  refine g_lshl dL_law_816 ?_
  refine al0 dL_law_817 ?_
  refine il3 dL_law_818 ?_
  refine g_iconst (v := 5) dL_law_819 (by decide) ?_
  refine g_iadd dL_law_820 ?_
  refine g_sld (i + 5) hX hbl hbA (show nI i + 5 = nI (i + 5) from nI_add i 5) (by omega) hL dL_law_821 ?_
  refine g_i2l dL_law_822 ?_
  refine g_ldc2 dL_law_823 wk_L_102 ?_
  refine g_land dL_law_826 ?_
  refine g_lor dL_law_827 ?_
  refine callJ2 (As := [.int (xs (i + 1)), .int (xs (i + 2)), .int (xs (i + 3)), .long (((xs (i + 4)).toInt64 <<< (((32 : Int32)).toInt64 &&& 63)) ||| ((xs (i + 5)).toInt64 &&& 4294967295))]) hdis (c_X9_item hm (sz_of hr).2) wm_L_108 yvX9_item hm.1 rfl rfl rfl ⟨Nat.le_of_ble_eq_true rfl, Nat.le_of_ble_eq_true rfl⟩ hce (Nat.le_of_ble_eq_true rfl) dL_law_828 ?_
  exact g_icmpeq 899 dL_law_831 (by decide) (fun _ => kk _ _ (k_item hx hI hm _ _ _ _ hr)) (fun q9 => absurd (e_item hr _ _ _) q9)
theorem lw_copy (hx : clS Z1 x st kp tp sr ha fi sp sh sc pa kc kq le dt mo ne) (hI : oI Z1) (hm : mdS Z2 m nw od fd tr rd ah kr ka ln sz it mv) (hdis : ∀ a, a ∈ Z1.1 → a ∉ Z2.1) (hX : va_X b L xs X.2.2.1 X.2.2.1.heap) (hbl : b < X.2.2.1.heap.size) (hbA : ¬ X.2.2.2.2.2.2.2.2.1 b) (hL : L < 2 ^ 31) (hi : i + 6 ≤ L) (hce : c9 + 0 ≤ room_1.cells ∧ n9 + 0 ≤ room_1.slots) (hr : CR Z1 d1 d2 x st kp tp sh sc pa kc kq le m nw od tr ah kr ka ln sz it) (kk : ∀ u1 u2, CR Z1 u1 u2 x st kp tp sh sc pa kc kq le m nw od tr ah kr ka ln sz it → mGo l G room_1 X RL cL_law 4 c9 n9 (zJ Z1 Z2) 899 [some (.ref b), some (.ref x), some (.ref m), some (.int (nI i))] [] (dJ Z1 u1 u2)) : mGo l G room_1 X RL cL_law 4 c9 n9 (zJ Z1 Z2) 836 [some (.ref b), some (.ref x), some (.ref m), some (.int (nI i))] [] (dJ Z1 d1 d2) := by
  refine al1 dL_law_836 ?_
  refine al0 dL_law_837 ?_
  refine il3 dL_law_838 ?_
  refine g_iconst (v := 1) dL_law_839 (by decide) ?_
  refine g_iadd dL_law_840 ?_
  refine g_sld (i + 1) hX hbl hbA (show nI i + 1 = nI (i + 1) from nI_add i 1) (by omega) hL dL_law_841 ?_
  refine al0 dL_law_842 ?_
  refine il3 dL_law_843 ?_
  refine g_iconst (v := 2) dL_law_844 (by decide) ?_
  refine g_iadd dL_law_845 ?_
  refine g_sld (i + 2) hX hbl hbA (show nI i + 2 = nI (i + 2) from nI_add i 2) (by omega) hL dL_law_846 ?_
  refine al0 dL_law_847 ?_
  refine il3 dL_law_848 ?_
  refine g_iconst (v := 3) dL_law_849 (by decide) ?_
  refine g_iadd dL_law_850 ?_
  refine g_sld (i + 3) hX hbl hbA (show nI i + 3 = nI (i + 3) from nI_add i 3) (by omega) hL dL_law_851 ?_
  refine al0 dL_law_852 ?_
  refine il3 dL_law_853 ?_
  refine g_iconst (v := 4) dL_law_854 (by decide) ?_
  refine g_iadd dL_law_855 ?_
  refine g_sld (i + 4) hX hbl hbA (show nI i + 4 = nI (i + 4) from nI_add i 4) (by omega) hL dL_law_856 ?_
  refine al0 dL_law_857 ?_
  refine il3 dL_law_858 ?_
  refine g_iconst (v := 5) dL_law_859 (by decide) ?_
  refine g_iadd dL_law_860 ?_
  refine g_sld (i + 5) hX hbl hbA (show nI i + 5 = nI (i + 5) from nI_add i 5) (by omega) hL dL_law_861 ?_
  refine callJ1 (As := [.int (xs (i + 1)), .int (xs (i + 2)), .int (xs (i + 3)), .int (xs (i + 4)), .int (xs (i + 5))]) hdis (c_X8_copy hx hr.2.2.2.2.2.1 (sz_of hr).1) wm_L_109 yvX8_copy hx.o8 rfl rfl rfl ⟨Nat.le_of_ble_eq_true rfl, Nat.le_of_ble_eq_true rfl⟩ hce (Nat.le_of_ble_eq_true rfl) dL_law_862 ?_
  refine al2 dL_law_865 ?_
  refine al0 dL_law_866 ?_
  refine il3 dL_law_867 ?_
  refine g_iconst (v := 1) dL_law_868 (by decide) ?_
  refine g_iadd dL_law_869 ?_
  refine g_sld (i + 1) hX hbl hbA (show nI i + 1 = nI (i + 1) from nI_add i 1) (by omega) hL dL_law_870 ?_
  refine al0 dL_law_871 ?_
  refine il3 dL_law_872 ?_
  refine g_iconst (v := 2) dL_law_873 (by decide) ?_
  refine g_iadd dL_law_874 ?_
  refine g_sld (i + 2) hX hbl hbA (show nI i + 2 = nI (i + 2) from nI_add i 2) (by omega) hL dL_law_875 ?_
  refine al0 dL_law_876 ?_
  refine il3 dL_law_877 ?_
  refine g_iconst (v := 3) dL_law_878 (by decide) ?_
  refine g_iadd dL_law_879 ?_
  refine g_sld (i + 3) hX hbl hbA (show nI i + 3 = nI (i + 3) from nI_add i 3) (by omega) hL dL_law_880 ?_
  refine al0 dL_law_881 ?_
  refine il3 dL_law_882 ?_
  refine g_iconst (v := 4) dL_law_883 (by decide) ?_
  refine g_iadd dL_law_884 ?_
  refine g_sld (i + 4) hX hbl hbA (show nI i + 4 = nI (i + 4) from nI_add i 4) (by omega) hL dL_law_885 ?_
  refine al0 dL_law_886 ?_
  refine il3 dL_law_887 ?_
  refine g_iconst (v := 5) dL_law_888 (by decide) ?_
  refine g_iadd dL_law_889 ?_
  refine g_sld (i + 5) hX hbl hbA (show nI i + 5 = nI (i + 5) from nI_add i 5) (by omega) hL dL_law_890 ?_
  refine callJ2 (As := [.int (xs (i + 1)), .int (xs (i + 2)), .int (xs (i + 3)), .int (xs (i + 4)), .int (xs (i + 5))]) hdis (c_X9_copy hm (sz_of hr).2) wm_L_113 yvX9_copy hm.1 rfl rfl rfl ⟨Nat.le_of_ble_eq_true rfl, Nat.le_of_ble_eq_true rfl⟩ hce (Nat.le_of_ble_eq_true rfl) dL_law_891 ?_
  exact g_icmpeq 899 dL_law_894 (by decide) (fun _ => kk _ _ (k_copy hx hI hm _ _ _ _ _ hr)) (fun q9 => absurd (e_copy hr _ _ _ _ _) q9)
end
