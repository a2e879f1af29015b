def opk (k : Nat) : Bool := decide (farI (nI (k % 49)) = nI (k / 49))
def ochk : Nat → Nat → Nat → Bool
  | 0, _, c => c == 49
  | n + 1, k, c => if opk k then (ordF c == nI (k % 49)) && ochk n (k + 1) (c + 1) else ochk n (k + 1) c
theorem ochk_all : ochk 343 0 0 = true := by decide +kernel
theorem ochk_le : ∀ n k c, ochk n k c = true → c ≤ 49
  | 0, _, c, h => by simp [ochk] at h; omega
  | n + 1, k, c, h => by
    rw [ochk] at h
    split at h
    · simp only [Bool.and_eq_true] at h
      have := ochk_le n (k + 1) (c + 1) h.2
      omega
    · exact ochk_le n (k + 1) c h
/-- all that holds of a new object of the reference -/
def mdN0 (Z : mZ) (d : mD) (m nw od fd tp rd ah kp ka ln sz it mv : Nat) : Prop := mdS Z m nw od fd tp rd ah kp ka ln sz it mv ∧ oI Z ∧ gA d nw = upd (fun _ => 0) 193 1 ∧ (∀ j, j < 49 → gA d od j = ordF j) ∧ (∀ j, j < 4 → gA d ln j = -1) ∧ gA d sz = (fun _ => 0) ∧ gJ d it = (fun _ => 0) ∧ gI d 295 m = 0 ∧ gI d 299 m = 0 ∧ gI d 302 m = -1
theorem n_X9 {l : Launch} {G : mG} {Z : mZ} {d : mD} {a : Nat} (hi : oI Z) (hn : nO Z a) (ho : ob Z 9 a) (hb : bar Z a) (hz : ∀ f, gI d f a = 0) : CtN l G yX9_init cX9_init 4 2 40 12 3891 [.ref a] Z d (fun Z' d' => gW Z d a Z' d' ∧ oI Z' ∧ nO Z' a ∧ ∃ nw od fd tp rd ah kp ka ln sz it mv, mdN0 Z' d' a nw od fd tp rd ah kp ka ln sz it mv) := by
  refine enterN RX9 3 [some (.ref a), none, none, none] (by decide) rfl rfl rfl rfl (fun X hX hR => ?_)
  refine al0 (pc := 0) dX9_init_0 ?_
  refine g_obj (pc := 1) wm_X9_1 (by decide) (by decide) dX9_init_1 ?_
  refine al0 (pc := 4) dX9_init_4 ?_
  refine g_sipush (pc := 5) dX9_init_5 ks194 ?_
  refine g_newI (pc := 8) 194 rfl (by decide) (by decide) (by decide) dX9_init_8 (fun q1 hq1 => ?_)
  refine pF_X9_7 (pc := 10) hX (ob_new ho hq1) dX9_init_10 ?_
  obtain ⟨e1, i1, n1, o1, f1, a1, v1, r1, u1⟩ := S_arr (d := d) (f := 288) 10 194 hi hn ho (hb 288) hq1
  generalize zR (zN Z q1 10 194) 288 a q1 = Z1 at *
  generalize dN d q1 = d1 at *
  refine al0 (pc := 13) dX9_init_13 ?_
  refine g_bipush (pc := 14) dX9_init_14 kb49 ?_
  refine g_newI (pc := 16) 49 rfl (by decide) (by decide) (by decide) dX9_init_16 (fun q2 hq2 => ?_)
  refine pF_X9_13 (pc := 18) hX (ob_new o1 hq2) dX9_init_18 ?_
  obtain ⟨e2, i2, n2, o2, f2, a2, v2, r2, u2⟩ := S_arr (d := d1) (f := 289) 10 49 i1 n1 o1 ((r1 289 (by decide)).trans (hb 289)) hq2
  generalize zR (zN Z1 q2 10 49) 289 a q2 = Z2 at *
  generalize dN d1 q2 = d2 at *
  refine al0 (pc := 21) dX9_init_21 ?_
  refine g_bipush (pc := 22) dX9_init_22 kb6 ?_
  refine g_newI (pc := 24) 6 rfl (by decide) (by decide) (by decide) dX9_init_24 (fun q3 hq3 => ?_)
  refine pF_X9_16 (pc := 26) hX (ob_new o2 hq3) dX9_init_26 ?_
  obtain ⟨e3, i3, n3, o3, f3, a3, v3, r3, u3⟩ := S_arr (d := d2) (f := 293) 10 6 i2 n2 o2 ((r2 293 (by decide)).trans ((r1 293 (by decide)).trans (hb 293))) hq3
  generalize zR (zN Z2 q3 10 6) 293 a q3 = Z3 at *
  generalize dN d2 q3 = d3 at *
  refine al0 (pc := 29) dX9_init_29 ?_
  refine g_bipush (pc := 30) dX9_init_30 kb120 ?_
  refine g_newI (pc := 32) 120 rfl (by decide) (by decide) (by decide) dX9_init_32 (fun q4 hq4 => ?_)
  refine pF_X9_19 (pc := 34) hX (ob_new o3 hq4) dX9_init_34 ?_
  obtain ⟨e4, i4, n4, o4, f4, a4, v4, r4, u4⟩ := S_arr (d := d3) (f := 294) 10 120 i3 n3 o3 ((r3 294 (by decide)).trans ((r2 294 (by decide)).trans ((r1 294 (by decide)).trans (hb 294)))) hq4
  generalize zR (zN Z3 q4 10 120) 294 a q4 = Z4 at *
  generalize dN d3 q4 = d4 at *
  refine al0 (pc := 37) dX9_init_37 ?_
  refine g_bipush (pc := 38) dX9_init_38 kb96 ?_
  refine g_newI (pc := 40) 96 rfl (by decide) (by decide) (by decide) dX9_init_40 (fun q5 hq5 => ?_)
  refine pF_X9_22 (pc := 42) hX (ob_new o4 hq5) dX9_init_42 ?_
  obtain ⟨e5, i5, n5, o5, f5, a5, v5, r5, u5⟩ := S_arr (d := d4) (f := 297) 10 96 i4 n4 o4 ((r4 297 (by decide)).trans ((r3 297 (by decide)).trans ((r2 297 (by decide)).trans ((r1 297 (by decide)).trans (hb 297))))) hq5
  generalize zR (zN Z4 q5 10 96) 297 a q5 = Z5 at *
  generalize dN d4 q5 = d5 at *
  refine al0 (pc := 45) dX9_init_45 ?_
  refine g_sipush (pc := 46) dX9_init_46 ks1552 ?_
  refine g_newI (pc := 49) 1552 rfl (by decide) (by decide) (by decide) dX9_init_49 (fun q6 hq6 => ?_)
  refine pF_X9_25 (pc := 51) hX (ob_new o5 hq6) dX9_init_51 ?_
  obtain ⟨e6, i6, n6, o6, f6, a6, v6, r6, u6⟩ := S_arr (d := d5) (f := 298) 10 1552 i5 n5 o5 ((r5 298 (by decide)).trans ((r4 298 (by decide)).trans ((r3 298 (by decide)).trans ((r2 298 (by decide)).trans ((r1 298 (by decide)).trans (hb 298)))))) hq6
  generalize zR (zN Z5 q6 10 1552) 298 a q6 = Z6 at *
  generalize dN d5 q6 = d6 at *
  refine al0 (pc := 54) dX9_init_54 ?_
  refine g_sipush (pc := 55) dX9_init_55 ks194 ?_
  refine g_newI (pc := 58) 194 rfl (by decide) (by decide) (by decide) dX9_init_58 (fun q7 hq7 => ?_)
  refine pF_X9_28 (pc := 60) hX (ob_new o6 hq7) dX9_init_60 ?_
  obtain ⟨e7, i7, n7, o7, f7, a7, v7, r7, u7⟩ := S_arr (d := d6) (f := 300) 10 194 i6 n6 o6 ((r6 300 (by decide)).trans ((r5 300 (by decide)).trans ((r4 300 (by decide)).trans ((r3 300 (by decide)).trans ((r2 300 (by decide)).trans ((r1 300 (by decide)).trans (hb 300))))))) hq7
  generalize zR (zN Z6 q7 10 194) 300 a q7 = Z7 at *
  generalize dN d6 q7 = d7 at *
  refine al0 (pc := 63) dX9_init_63 ?_
  refine g_sipush (pc := 64) dX9_init_64 ks1552 ?_
  refine g_newI (pc := 67) 1552 rfl (by decide) (by decide) (by decide) dX9_init_67 (fun q8 hq8 => ?_)
  refine pF_X9_31 (pc := 69) hX (ob_new o7 hq8) dX9_init_69 ?_
  obtain ⟨e8, i8, n8, o8, f8, a8, v8, r8, u8⟩ := S_arr (d := d7) (f := 301) 10 1552 i7 n7 o7 ((r7 301 (by decide)).trans ((r6 301 (by decide)).trans ((r5 301 (by decide)).trans ((r4 301 (by decide)).trans ((r3 301 (by decide)).trans ((r2 301 (by decide)).trans ((r1 301 (by decide)).trans (hb 301)))))))) hq8
  generalize zR (zN Z7 q8 10 1552) 301 a q8 = Z8 at *
  generalize dN d7 q8 = d8 at *
  refine al0 (pc := 72) dX9_init_72 ?_
  refine g_iconst (pc := 73) dX9_init_73 kcm1 ?_
  refine pf_X9_34 (pc := 74) o8 dX9_init_74 ?_
  have e9 := Ex_int (a := a) (Z := Z8) (d := d8) 302 (-1)
  have v9 : ∀ g, gI (sI d8 302 a (-1)) g a = if g = 302 then -1 else gI d8 g a := fun g => by rw [gI_sI]; by_cases h9 : g = 302 <;> simp [h9]
  generalize sI d8 302 a (-1) = d9 at *
  refine al0 (pc := 77) dX9_init_77 ?_
  refine g_iconst (pc := 78) dX9_init_78 kc4 ?_
  refine g_newI (pc := 79) 4 rfl (by decide) (by decide) (by decide) dX9_init_79 (fun q10 hq10 => ?_)
  refine pF_X9_38 (pc := 81) hX (ob_new o8 hq10) dX9_init_81 ?_
  obtain ⟨e10, i10, n10, o10, f10, a10, v10, r10, u10⟩ := S_arr (d := d9) (f := 303) 10 4 i8 n8 o8 ((r8 303 (by decide)).trans ((r7 303 (by decide)).trans ((r6 303 (by decide)).trans ((r5 303 (by decide)).trans ((r4 303 (by decide)).trans ((r3 303 (by decide)).trans ((r2 303 (by decide)).trans ((r1 303 (by decide)).trans (hb 303))))))))) hq10
  generalize zR (zN Z8 q10 10 4) 303 a q10 = Z10 at *
  generalize dN d9 q10 = d10 at *
  refine al0 (pc := 84) dX9_init_84 ?_
  refine g_iconst (pc := 85) dX9_init_85 kc4 ?_
  refine g_newI (pc := 86) 4 rfl (by decide) (by decide) (by decide) dX9_init_86 (fun q11 hq11 => ?_)
  refine pF_X9_41 (pc := 88) hX (ob_new o10 hq11) dX9_init_88 ?_
  obtain ⟨e11, i11, n11, o11, f11, a11, v11, r11, u11⟩ := S_arr (d := d10) (f := 304) 10 4 i10 n10 o10 ((r10 304 (by decide)).trans ((r8 304 (by decide)).trans ((r7 304 (by decide)).trans ((r6 304 (by decide)).trans ((r5 304 (by decide)).trans ((r4 304 (by decide)).trans ((r3 304 (by decide)).trans ((r2 304 (by decide)).trans ((r1 304 (by decide)).trans (hb 304)))))))))) hq11
  generalize zR (zN Z10 q11 10 4) 304 a q11 = Z11 at *
  generalize dN d10 q11 = d11 at *
  refine al0 (pc := 91) dX9_init_91 ?_
  refine g_bipush (pc := 92) dX9_init_92 kb96 ?_
  refine g_newJ (pc := 94) 96 rfl (by decide) (by decide) (by decide) dX9_init_94 (fun q12 hq12 => ?_)
  refine pF_X9_44 (pc := 96) hX (ob_new o11 hq12) dX9_init_96 ?_
  obtain ⟨e12, i12, n12, o12, f12, a12, v12, r12, u12⟩ := S_arr (d := d11) (f := 305) 11 96 i11 n11 o11 ((r11 305 (by decide)).trans ((r10 305 (by decide)).trans ((r8 305 (by decide)).trans ((r7 305 (by decide)).trans ((r6 305 (by decide)).trans ((r5 305 (by decide)).trans ((r4 305 (by decide)).trans ((r3 305 (by decide)).trans ((r2 305 (by decide)).trans ((r1 305 (by decide)).trans (hb 305))))))))))) hq12
  generalize zR (zN Z11 q12 11 96) 305 a q12 = Z12 at *
  generalize dN d11 q12 = d12 at *
  refine al0 (pc := 99) dX9_init_99 ?_
  refine g_bipush (pc := 100) dX9_init_100 kb24 ?_
  refine g_newJ (pc := 102) 24 rfl (by decide) (by decide) (by decide) dX9_init_102 (fun q13 hq13 => ?_)
  refine pF_X9_48 (pc := 104) hX (ob_new o12 hq13) dX9_init_104 ?_
  obtain ⟨e13, i13, n13, o13, f13, a13, v13, r13, u13⟩ := S_arr (d := d12) (f := 306) 11 24 i12 n12 o12 ((r12 306 (by decide)).trans ((r11 306 (by decide)).trans ((r10 306 (by decide)).trans ((r8 306 (by decide)).trans ((r7 306 (by decide)).trans ((r6 306 (by decide)).trans ((r5 306 (by decide)).trans ((r4 306 (by decide)).trans ((r3 306 (by decide)).trans ((r2 306 (by decide)).trans ((r1 306 (by decide)).trans (hb 306)))))))))))) hq13
  generalize zR (zN Z12 q13 11 24) 306 a q13 = Z13 at *
  generalize dN d12 q13 = d13 at *
  have F13 := Fx_self a Z13 d13
  have F12 := Fx_tr (Ex_fx e13) F13
  have F11 := Fx_tr (Ex_fx e12) F12
  have F10 := Fx_tr (Ex_fx e11) F11
  have F9 := Fx_tr (Ex_fx e10) F10
  have F8 := Fx_tr (Ex_fx e9) F9
  have F7 := Fx_tr (Ex_fx e8) F8
  have F6 := Fx_tr (Ex_fx e7) F7
  have F5 := Fx_tr (Ex_fx e6) F6
  have F4 := Fx_tr (Ex_fx e5) F5
  have F3 := Fx_tr (Ex_fx e4) F4
  have F2 := Fx_tr (Ex_fx e3) F3
  have F1 := Fx_tr (Ex_fx e2) F2
  have E9 := (Ex_tr (Ex_tr (Ex_tr (Ex_tr (Ex_tr (Ex_tr (Ex_tr (Ex_tr (Ex_tr (Ex_tr (Ex_tr (Ex_tr e1 e2) e3) e4) e5) e6) e7) e8) e9) e10) e11) e12) e13)
  have hf1 : q1 ∉ Z.1 := hq1
  have hf2 : q2 ∉ Z.1 := fun h9 => hq2 (e1.1.1 q2 h9).1
  have hf10 : q10 ∉ Z.1 := fun h9 => hq10 ((Ex_tr (Ex_tr (Ex_tr (Ex_tr (Ex_tr (Ex_tr (Ex_tr (Ex_tr e1 e2) e3) e4) e5) e6) e7) e8) e9).1.1 q10 h9).1
  have R1 := Fx_rf F1 i1 f1
  have B1 := Fx_ar F1 a1
  have R2 := Fx_rf F2 i2 f2
  have B2 := Fx_ar F2 a2
  have R3 := Fx_rf F3 i3 f3
  have B3 := Fx_ar F3 a3
  have R4 := Fx_rf F4 i4 f4
  have B4 := Fx_ar F4 a4
  have R5 := Fx_rf F5 i5 f5
  have B5 := Fx_ar F5 a5
  have R6 := Fx_rf F6 i6 f6
  have B6 := Fx_ar F6 a6
  have R7 := Fx_rf F7 i7 f7
  have B7 := Fx_ar F7 a7
  have R8 := Fx_rf F8 i8 f8
  have B8 := Fx_ar F8 a8
  have R10 := Fx_rf F10 i10 f10
  have B10 := Fx_ar F10 a10
  have R11 := Fx_rf F11 i11 f11
  have B11 := Fx_ar F11 a11
  have R12 := Fx_rf F12 i12 f12
  have B12 := Fx_ar F12 a12
  have R13 := Fx_rf F13 i13 f13
  have B13 := Fx_ar F13 a13
  have no : ∀ {f b g a c e : Nat}, rf Z13 f b = some c → rf Z13 g a = some e → f ≠ g → c ≠ e := fun h1 h2 hn e9 => hn (i13.2 _ _ _ _ _ h1 (e9 ▸ h2)).1
  have HI : mdI [q1, q2, q3, q4, q5, q6, q7, q8, q10, q11] := by
    refine ⟨fun b h9 => ?_, ?_⟩
    · simp only [List.mem_cons, List.not_mem_nil, or_false] at h9
      rcases h9 with h9 | h9 | h9 | h9 | h9 | h9 | h9 | h9 | h9
      · rw [h9]; exact no R1 R2 (by decide)
      · rw [h9]; exact no R1 R3 (by decide)
      · rw [h9]; exact no R1 R4 (by decide)
      · rw [h9]; exact no R1 R5 (by decide)
      · rw [h9]; exact no R1 R6 (by decide)
      · rw [h9]; exact no R1 R7 (by decide)
      · rw [h9]; exact no R1 R8 (by decide)
      · rw [h9]; exact no R1 R10 (by decide)
      · rw [h9]; exact no R1 R11 (by decide)
    refine ⟨fun b h9 => ?_, ?_⟩
    · simp only [List.mem_cons, List.not_mem_nil, or_false] at h9
      rcases h9 with h9 | h9 | h9 | h9 | h9 | h9 | h9 | h9
      · rw [h9]; exact no R2 R3 (by decide)
      · rw [h9]; exact no R2 R4 (by decide)
      · rw [h9]; exact no R2 R5 (by decide)
      · rw [h9]; exact no R2 R6 (by decide)
      · rw [h9]; exact no R2 R7 (by decide)
      · rw [h9]; exact no R2 R8 (by decide)
      · rw [h9]; exact no R2 R10 (by decide)
      · rw [h9]; exact no R2 R11 (by decide)
    refine ⟨fun b h9 => ?_, ?_⟩
    · simp only [List.mem_cons, List.not_mem_nil, or_false] at h9
      rcases h9 with h9 | h9 | h9 | h9 | h9 | h9 | h9
      · rw [h9]; exact no R3 R4 (by decide)
      · rw [h9]; exact no R3 R5 (by decide)
      · rw [h9]; exact no R3 R6 (by decide)
      · rw [h9]; exact no R3 R7 (by decide)
      · rw [h9]; exact no R3 R8 (by decide)
      · rw [h9]; exact no R3 R10 (by decide)
      · rw [h9]; exact no R3 R11 (by decide)
    refine ⟨fun b h9 => ?_, ?_⟩
    · simp only [List.mem_cons, List.not_mem_nil, or_false] at h9
      rcases h9 with h9 | h9 | h9 | h9 | h9 | h9
      · rw [h9]; exact no R4 R5 (by decide)
      · rw [h9]; exact no R4 R6 (by decide)
      · rw [h9]; exact no R4 R7 (by decide)
      · rw [h9]; exact no R4 R8 (by decide)
      · rw [h9]; exact no R4 R10 (by decide)
      · rw [h9]; exact no R4 R11 (by decide)
    refine ⟨fun b h9 => ?_, ?_⟩
    · simp only [List.mem_cons, List.not_mem_nil, or_false] at h9
      rcases h9 with h9 | h9 | h9 | h9 | h9
      · rw [h9]; exact no R5 R6 (by decide)
      · rw [h9]; exact no R5 R7 (by decide)
      · rw [h9]; exact no R5 R8 (by decide)
      · rw [h9]; exact no R5 R10 (by decide)
      · rw [h9]; exact no R5 R11 (by decide)
    refine ⟨fun b h9 => ?_, ?_⟩
    · simp only [List.mem_cons, List.not_mem_nil, or_false] at h9
      rcases h9 with h9 | h9 | h9 | h9
      · rw [h9]; exact no R6 R7 (by decide)
      · rw [h9]; exact no R6 R8 (by decide)
      · rw [h9]; exact no R6 R10 (by decide)
      · rw [h9]; exact no R6 R11 (by decide)
    refine ⟨fun b h9 => ?_, ?_⟩
    · simp only [List.mem_cons, List.not_mem_nil, or_false] at h9
      rcases h9 with h9 | h9 | h9
      · rw [h9]; exact no R7 R8 (by decide)
      · rw [h9]; exact no R7 R10 (by decide)
      · rw [h9]; exact no R7 R11 (by decide)
    refine ⟨fun b h9 => ?_, ?_⟩
    · simp only [List.mem_cons, List.not_mem_nil, or_false] at h9
      rcases h9 with h9 | h9
      · rw [h9]; exact no R8 R10 (by decide)
      · rw [h9]; exact no R8 R11 (by decide)
    refine ⟨fun b h9 => ?_, ?_⟩
    · simp only [List.mem_cons, List.not_mem_nil, or_false] at h9
      rcases h9 with h9
      · rw [h9]; exact no R10 R11 (by decide)
    exact ⟨fun b h9 => (by cases h9), trivial⟩
  have HS : mdS Z13 a q1 q2 q3 q4 q5 q6 q7 q8 q10 q11 q12 q13 := ⟨o13, R1, R2, R3, R4, R5, R6, R7, R8, R10, R11, R12, R13, B1, B2, B3, B4, B5, B6, B7, B8, B10, B11, B12, B13, HI, no R12 R13 (by decide)⟩
  have G1 : gA d13 q1 = (fun _ => 0) := by rw [(F1.1 q1 a1.1).2.2.2.2.1, v1.1]
  have G11 : gA d13 q11 = (fun _ => 0) := by rw [(F11.1 q11 a11.1).2.2.2.2.1, v11.1]
  have G12 : gJ d13 q12 = (fun _ => 0) := by rw [(F12.1 q12 a12.1).2.2.2.2.2, v12.2.1]
  have H5 : gI d13 295 a = 0 := by simp only [u1, u2, u3, u4, u5, u6, u7, u8, v9, u10, u11, u12, u13, hz]; rfl
  have H9 : gI d13 299 a = 0 := by simp only [u1, u2, u3, u4, u5, u6, u7, u8, v9, u10, u11, u12, u13, hz]; rfl
  have H2 : gI d13 302 a = -1 := by simp only [u1, u2, u3, u4, u5, u6, u7, u8, v9, u10, u11, u12, u13, hz]; rfl
  refine al0 (pc := 107) dX9_init_107 ?_
  refine gf_X9_7 (pc := 108) o13 R1 dX9_init_108 ?_
  refine g_sipush (pc := 111) dX9_init_111 ks193 ?_
  refine g_iconst (pc := 114) dX9_init_114 kc1 ?_
  refine g_iast (pc := 115) 193 B1 (by decide) rfl (by decide) dX9_init_115 ?_
  refine g_iconst (pc := 116) dX9_init_116 kc0 ?_
  refine is1 (pc := 117) dX9_init_117 rfl ?_
  refine g_iconst (pc := 118) dX9_init_118 kc0 ?_
  refine is2 (pc := 119) dX9_init_119 rfl ?_
  have NE : q2 ≠ q1 := HS.n_od_nw
  have NE3 : q10 ≠ q2 := HS.n_ln_od
  have NE4 : q10 ≠ q1 := HS.n_ln_nw
  have L166 : ∀ (dB : mD) (n i : Nat), i + n = 4 → ((∀ b, b ≠ q10 → gA dB b = gA (tA (tA d13 q1 (upd (gA d13 q1) 193 1)) q2 (gA dB q2)) b) ∧ (∀ b, gJ dB b = gJ d13 b) ∧ (∀ f b, gI dB f b = gI d13 f b) ∧ (∀ b, gO dB b = gO d13 b) ∧ (∀ j, j < 49 → gA dB q2 j = ordF j) ∧ ∀ j, j < i → gA dB q10 j = -1) → mGo l G (mRn 2 40 12 3891) X RX9 cX9_init 4 12 3891 Z13 166 [some (.ref a), none, some (.int (nI i)), none] [] dB := by
    intro dB n; induction n generalizing dB with
    | zero =>
      intro i hin hI
      obtain rfl : i = 4 := by omega
      refine il2 (pc := 166) dX9_init_166 ?_
      refine g_iconst (pc := 167) dX9_init_167 kc4 ?_
      refine g_icmpge 184 (pc := 168) dX9_init_168 (by decide) (fun c168 => ?_) (fun c168 => absurd (nI_le (a := 4) (by omega) (by omega)) c168)
      obtain ⟨z1, z2, z3, z4, z5, z6⟩ := hI
      have k1 : gA dB q1 = upd (fun _ => 0) 193 1 := by rw [z1 q1 NE4.symm, gA_tA, if_neg NE.symm, gA_tA, if_pos rfl, G1]
      have k2 : gA dB q11 = (fun _ => 0) := by rw [z1 q11 HS.n_sz_ln, gA_tA, if_neg HS.n_sz_od, gA_tA, if_neg HS.n_sz_nw, G11]
      refine hR 184 _ _ _ _ _ ⟨⟨fun b hb => ?_, E9.1.2⟩, i13, n13, q1, q2, q3, q4, q5, q6, q7, q8, q10, q11, q12, q13, HS, i13, k1, z5, z6, k2, by rw [z2]; exact G12, by rw [z3]; exact H5, by rw [z3]; exact H9, by rw [z3]; exact H2⟩ (by decide) (by decide) dX9_init_184
      obtain ⟨y1, y2, y3, y4, y5, y6, y7⟩ := E9.1.1 b hb
      have m1 : b ≠ q1 := fun e => hf1 (e ▸ hb)
      have m2 : b ≠ q2 := fun e => hf2 (e ▸ hb)
      have m3 : b ≠ q10 := fun e => hf10 (e ▸ hb)
      exact ⟨y1, y2, y3, fun h9 => ⟨(y4 h9).1, fun f => (z3 f b).trans ((y4 h9).2 f)⟩, by rw [z1 b m3, gA_tA, if_neg m2, gA_tA, if_neg m1]; exact y5, (z2 b).trans y6, (z4 b).trans y7⟩
    | succ n ih =>
      intro i hin hI
      refine il2 (pc := 166) dX9_init_166 ?_
      refine g_iconst (pc := 167) dX9_init_167 kc4 ?_
      refine g_icmpge 184 (pc := 168) dX9_init_168 (by decide) (fun c168 => absurd c168 (nI_ge (b := 4) (by omega) (by omega))) (fun c168 => ?_)
      refine al0 (pc := 171) dX9_init_171 ?_
      refine gf_X9_38 (pc := 172) o13 R10 dX9_init_172 ?_
      refine il2 (pc := 175) dX9_init_175 ?_
      refine g_iconst (pc := 176) dX9_init_176 kcm1 ?_
      refine g_iast (pc := 177) i B10 (by omega) rfl (by decide) dX9_init_177 ?_
      refine ic2 (pc := 178) dX9_init_178 kc1 rfl ?_
      refine g_goto 166 (pc := 181) dX9_init_181 (by decide) ?_
      rw [nI_1]
      obtain ⟨z1, z2, z3, z4, z5, z6⟩ := hI
      refine ih _ (i + 1) (by omega) ⟨fun b hb => ?_, z2, z3, z4, fun j hj => ?_, fun j hj => ?_⟩
      · rw [gA_tA, if_neg hb, z1 b hb]
        by_cases hb2 : b = q2
        · rw [hb2, gA_tA, if_pos rfl, gA_tA, if_pos rfl, gA_tA, if_neg NE3.symm]
        · simp only [gA_tA, if_neg hb2]
      · rw [gA_tA, if_neg NE3.symm]; exact z5 j hj
      · rw [gA_tA, if_pos rfl]
        unfold upd
        by_cases hj2 : j = i
        · rw [if_pos hj2]
        · rw [if_neg hj2]; exact z6 j (by omega)
  have L120 : ∀ (n f c : Nat) (g : Nat → Int32), f + n = 7 → ochk (49 * n) (49 * f) c = true → (∀ j, j < c → g j = ordF j) → mGo l G (mRn 2 40 12 3891) X RX9 cX9_init 4 12 3891 Z13 120 [some (.ref a), some (.int (nI c)), some (.int (nI f)), none] [] (tA (tA d13 q1 (upd (gA d13 q1) 193 1)) q2 g) := by
    intro n; induction n with
    | zero =>
      intro f c g hin hc hg
      obtain rfl : f = 7 := by omega
      have hc9 : c = 49 := by simpa [ochk] using hc
      subst hc9
      refine il2 (pc := 120) dX9_init_120 ?_
      refine g_bipush (pc := 121) dX9_init_121 kb7 ?_
      refine g_icmpge 164 (pc := 123) dX9_init_123 (by decide) (fun c123 => ?_) (fun c123 => absurd (nI_le (a := 7) (by omega) (by omega)) c123)
      refine g_iconst (pc := 164) dX9_init_164 kc0 ?_
      refine is2 (pc := 165) dX9_init_165 rfl ?_
      refine dr1 ?_
      refine L166 _ 4 0 (by omega) ⟨fun b hb => ?_, fun _ => rfl, fun _ _ => rfl, fun _ => rfl, fun j hj => by rw [gA_tA, if_pos rfl]; exact hg j hj, fun j hj => absurd hj (by omega)⟩
      rw [gA_tA, gA_tA (tA d13 q1 _) q2 q2, if_pos rfl, gA_tA _ q2 b]
    | succ n ih =>
      intro f c g hin hc hg
      refine il2 (pc := 120) dX9_init_120 ?_
      refine g_bipush (pc := 121) dX9_init_121 kb7 ?_
      refine g_icmpge 164 (pc := 123) dX9_init_123 (by decide) (fun c123 => absurd c123 (nI_ge (b := 7) (by omega) (by omega))) (fun c123 => ?_)
      refine g_iconst (pc := 126) dX9_init_126 kc0 ?_
      refine is3 (pc := 127) dX9_init_127 rfl ?_
      have L128 : ∀ (k mq c : Nat) (g : Nat → Int32), mq + k = 49 → ochk (49 * n + k) (49 * f + mq) c = true → (∀ j, j < c → g j = ordF j) → mGo l G (mRn 2 40 12 3891) X RX9 cX9_init 4 12 3891 Z13 128 [some (.ref a), some (.int (nI c)), some (.int (nI f)), some (.int (nI mq))] [] (tA (tA d13 q1 (upd (gA d13 q1) 193 1)) q2 g) := by
        intro k; induction k with
        | zero =>
          intro mq c g hin2 hc hg
          obtain rfl : mq = 49 := by omega
          refine il3 (pc := 128) dX9_init_128 ?_
          refine g_bipush (pc := 129) dX9_init_129 kb49 ?_
          refine g_icmpge 158 (pc := 131) dX9_init_131 (by decide) (fun c131 => ?_) (fun c131 => absurd (nI_le (a := 49) (by omega) (by omega)) c131)
          refine ic2 (pc := 158) dX9_init_158 kc1 rfl ?_
          refine g_goto 120 (pc := 161) dX9_init_161 (by decide) ?_
          rw [nI_1]
          refine dr3 ?_
          exact ih (f + 1) c g (by omega) (by rw [show 49 * (f + 1) = 49 * f + 49 by omega]; exact hc) hg
        | succ k ih2 =>
          intro mq c g hin2 hc hg
          refine il3 (pc := 128) dX9_init_128 ?_
          refine g_bipush (pc := 129) dX9_init_129 kb49 ?_
          refine g_icmpge 158 (pc := 131) dX9_init_131 (by decide) (fun c131 => absurd c131 (nI_ge (b := 49) (by omega) (by omega))) (fun c131 => ?_)
          refine il3 (pc := 134) dX9_init_134 ?_
          refine cl_X9_51 (pc := 135) c_X9_farOf (by decide) ⟨by decide, by decide⟩ (Nat.le_of_ble_eq_true rfl) dX9_init_135 ?_
          refine il2 (pc := 138) dX9_init_138 ?_
          have hpk : opk (49 * f + mq) = decide (farI (nI mq) = nI f) := by
            unfold opk
            rw [show (49 * f + mq) % 49 = mq by omega, show (49 * f + mq) / 49 = f by omega]
          rw [show 49 * n + (k + 1) = (49 * n + k) + 1 by omega, ochk, hpk] at hc
          refine g_icmpne 152 (pc := 139) dX9_init_139 (by decide) (fun c139 => ?_) (fun c139 => ?_)
          · rw [if_neg (by simpa using c139)] at hc
            refine ic3 (pc := 152) dX9_init_152 kc1 rfl ?_
            refine g_goto 128 (pc := 155) dX9_init_155 (by decide) ?_
            rw [nI_1]
            exact ih2 (mq + 1) c g (by omega) hc hg
          · rw [if_pos (by simpa using c139)] at hc
            simp only [Bool.and_eq_true, beq_iff_eq] at hc
            have hle := ochk_le _ _ _ hc.2
            have hov : ordF c = nI mq := by rw [hc.1, show (49 * f + mq) % 49 = mq by omega]
            refine al0 (pc := 142) dX9_init_142 ?_
            refine gf_X9_13 (pc := 143) o13 R2 dX9_init_143 ?_
            refine il1 (pc := 146) dX9_init_146 ?_
            refine il3 (pc := 147) dX9_init_147 ?_
            refine g_iast (pc := 148) c B2 (by omega) rfl (by decide) dX9_init_148 ?_
            rw [gA_tA, if_pos rfl, tA_tA]
            refine ic1 (pc := 149) dX9_init_149 kc1 rfl ?_
            refine ic3 (pc := 152) dX9_init_152 kc1 rfl ?_
            refine g_goto 128 (pc := 155) dX9_init_155 (by decide) ?_
            rw [nI_1, nI_1]
            refine ih2 (mq + 1) (c + 1) _ (by omega) hc.2 (fun j hj => ?_)
            unfold upd
            by_cases hj2 : j = c
            · rw [if_pos hj2, hj2, hov]
            · rw [if_neg hj2]; exact hg j (by omega)
      exact L128 49 0 c g (by omega) (by rw [show 49 * n + 49 = 49 * (n + 1) by omega]; exact hc) hg
  have q0 := L120 7 0 0 (gA d13 q2) (by omega) ochk_all (fun j hj => absurd hj (by omega))
  rw [show tA (tA d13 q1 (upd (gA d13 q1) 193 1)) q2 (gA d13 q2) = (tA d13 q1 (upd (gA d13 q1) 193 1)) from tA_selfE (by rw [gA_tA, if_neg NE])] at q0
  exact q0
