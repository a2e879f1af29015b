theorem n_X2 {l : Launch} {G : mG} {Z : mZ} {d : mD} {a : Nat} (hi : oI Z) (hn : nO Z a) (ho : ob Z 2 a) (hb : bar Z a) (hz : ∀ f, gI d f a = 0) : CtN l G yX2_init cX2_init 1 1 12 1 96 [.ref a] Z d (fun Z' d' => gW Z d a Z' d' ∧ oI Z' ∧ nO Z' a ∧ mkP Z' d' a) := by
  refine enterN RX2 0 [some (.ref a)] (by decide) rfl rfl rfl rfl (fun X hX hR => ?_)
  refine al0 (pc := 0) dX2_init_0 ?_
  refine g_obj (pc := 1) wm_X2_3 (by decide) (by decide) dX2_init_1 ?_
  refine al0 (pc := 4) dX2_init_4 ?_
  refine g_bipush (pc := 5) dX2_init_5 kb96 ?_
  refine g_newI (pc := 7) 96 rfl (by decide) (by decide) (by decide) dX2_init_7 (fun q1 hq1 => ?_)
  refine pF_X2_9 (pc := 9) hX (ob_new ho hq1) dX2_init_9 ?_
  obtain ⟨e1, i1, n1, o1, f1, a1, v1, r1, u1⟩ := S_arr (d := d) (f := 64) 10 96 hi hn ho (hb 64) hq1
  generalize zR (zN Z q1 10 96) 64 a q1 = Z1 at *
  generalize dN d q1 = d1 at *
  have F1 := Fx_self a Z1 d1
  have E9 := e1
  exact hR 12 _ _ _ _ _ ⟨E9.1, i1, n1, q1, ⟨o1, f1, a1⟩, v1.1⟩ (by decide) (by decide) dX2_init_12
theorem n_X1 {l : Launch} {G : mG} {Z : mZ} {d : mD} {a : Nat} (hi : oI Z) (hn : nO Z a) (ho : ob Z 1 a) (hb : bar Z a) (hz : ∀ f, gI d f a = 0) : CtN l G yX1_init cX1_init 1 1 12 0 0 [.ref a] Z d (fun Z' d' => gW Z d a Z' d' ∧ oI Z' ∧ nO Z' a ∧ True) := by
  refine enterN RX1 0 [some (.ref a)] (by decide) rfl rfl rfl rfl (fun X hX hR => ?_)
  refine al0 (pc := 0) dX1_init_0 ?_
  refine g_obj (pc := 1) wm_X1_3 (by decide) (by decide) dX1_init_1 ?_
  refine al0 (pc := 4) dX1_init_4 ?_
  refine g_iconst (pc := 5) dX1_init_5 kc0 ?_
  refine pf_X1_9 (pc := 6) ho dX1_init_6 ?_
  have e1 := Ex_int (a := a) (Z := Z) (d := d) 32 0
  have v1 : ∀ g, gI (sI d 32 a 0) g a = if g = 32 then 0 else gI d g a := fun g => by rw [gI_sI]; by_cases h9 : g = 32 <;> simp [h9]
  generalize sI d 32 a 0 = d1 at *
  refine al0 (pc := 9) dX1_init_9 ?_
  refine g_iconst (pc := 10) dX1_init_10 kc0 ?_
  refine pf_X1_15 (pc := 11) ho dX1_init_11 ?_
  have e2 := Ex_int (a := a) (Z := Z) (d := d1) 33 0
  have v2 : ∀ g, gI (sI d1 33 a 0) g a = if g = 33 then 0 else gI d1 g a := fun g => by rw [gI_sI]; by_cases h9 : g = 33 <;> simp [h9]
  generalize sI d1 33 a 0 = d2 at *
  have F2 := Fx_self a Z d2
  have F1 := Fx_tr (Ex_fx e2) F2
  have E9 := (Ex_tr e1 e2)
  exact hR 14 _ _ _ _ _ ⟨E9.1, hi, hn, trivial⟩ (by decide) (by decide) dX1_init_14
theorem n_X4 {l : Launch} {G : mG} {Z : mZ} {d : mD} {a : Nat} (hi : oI Z) (hn : nO Z a) (ho : ob Z 4 a) (hb : bar Z a) (hz : ∀ f, gI d f a = 0) : CtN l G yX4_init cX4_init 1 1 12 0 0 [.ref a] Z d (fun Z' d' => gW Z d a Z' d' ∧ oI Z' ∧ nO Z' a ∧ True) := by
  refine enterN RX4 0 [some (.ref a)] (by decide) rfl rfl rfl rfl (fun X hX hR => ?_)
  refine al0 (pc := 0) dX4_init_0 ?_
  refine g_obj (pc := 1) wm_X4_3 (by decide) (by decide) dX4_init_1 ?_
  refine al0 (pc := 4) dX4_init_4 ?_
  refine g_bipush (pc := 5) dX4_init_5 kb24 ?_
  refine pf_X4_9 (pc := 7) ho dX4_init_7 ?_
  have e1 := Ex_int (a := a) (Z := Z) (d := d) 128 24
  have v1 : ∀ g, gI (sI d 128 a 24) g a = if g = 128 then 24 else gI d g a := fun g => by rw [gI_sI]; by_cases h9 : g = 128 <;> simp [h9]
  generalize sI d 128 a 24 = d1 at *
  refine al0 (pc := 10) dX4_init_10 ?_
  refine g_iconst (pc := 11) dX4_init_11 kc0 ?_
  refine pf_X4_15 (pc := 12) ho dX4_init_12 ?_
  have e2 := Ex_int (a := a) (Z := Z) (d := d1) 129 0
  have v2 : ∀ g, gI (sI d1 129 a 0) g a = if g = 129 then 0 else gI d1 g a := fun g => by rw [gI_sI]; by_cases h9 : g = 129 <;> simp [h9]
  generalize sI d1 129 a 0 = d2 at *
  refine al0 (pc := 15) dX4_init_15 ?_
  refine g_iconst (pc := 16) dX4_init_16 kc0 ?_
  refine pf_X4_18 (pc := 17) ho dX4_init_17 ?_
  have e3 := Ex_int (a := a) (Z := Z) (d := d2) 130 0
  have v3 : ∀ g, gI (sI d2 130 a 0) g a = if g = 130 then 0 else gI d2 g a := fun g => by rw [gI_sI]; by_cases h9 : g = 130 <;> simp [h9]
  generalize sI d2 130 a 0 = d3 at *
  refine al0 (pc := 20) dX4_init_20 ?_
  refine g_iconst (pc := 21) dX4_init_21 kc0 ?_
  refine pf_X4_21 (pc := 22) ho dX4_init_22 ?_
  have e4 := Ex_int (a := a) (Z := Z) (d := d3) 131 0
  have v4 : ∀ g, gI (sI d3 131 a 0) g a = if g = 131 then 0 else gI d3 g a := fun g => by rw [gI_sI]; by_cases h9 : g = 131 <;> simp [h9]
  generalize sI d3 131 a 0 = d4 at *
  have F4 := Fx_self a Z d4
  have F3 := Fx_tr (Ex_fx e4) F4
  have F2 := Fx_tr (Ex_fx e3) F3
  have F1 := Fx_tr (Ex_fx e2) F2
  have E9 := (Ex_tr (Ex_tr (Ex_tr e1 e2) e3) e4)
  exact hR 25 _ _ _ _ _ ⟨E9.1, hi, hn, trivial⟩ (by decide) (by decide) dX4_init_25
theorem n_X0 {l : Launch} {G : mG} {Z : mZ} {d : mD} {a : Nat} (hi : oI Z) (hn : nO Z a) (ho : ob Z 0 a) (hb : bar Z a) (hz : ∀ f, gI d f a = 0) : CtN l G yX0_init cX0_init 1 1 12 2 9 [.ref a] Z d (fun Z' d' => gW Z d a Z' d' ∧ oI Z' ∧ nO Z' a ∧ ∃ mo ne, fld Z' a mo ne) := by
  refine enterN RX0 0 [some (.ref a)] (by decide) rfl rfl rfl rfl (fun X hX hR => ?_)
  refine al0 (pc := 0) dX0_init_0 ?_
  refine g_obj (pc := 1) wm_X0_3 (by decide) (by decide) dX0_init_1 ?_
  refine al0 (pc := 4) dX0_init_4 ?_
  refine g_bipush (pc := 5) dX0_init_5 kb6 ?_
  refine g_newI (pc := 7) 6 rfl (by decide) (by decide) (by decide) dX0_init_7 (fun q1 hq1 => ?_)
  refine pF_X0_9 (pc := 9) hX (ob_new ho hq1) dX0_init_9 ?_
  obtain ⟨e1, i1, n1, o1, f1, a1, v1, r1, u1⟩ := S_arr (d := d) (f := 0) 10 6 hi hn ho (hb 0) hq1
  generalize zR (zN Z q1 10 6) 0 a q1 = Z1 at *
  generalize dN d q1 = d1 at *
  refine al0 (pc := 12) dX0_init_12 ?_
  refine g_iconst (pc := 13) dX0_init_13 kc3 ?_
  refine g_newI (pc := 14) 3 rfl (by decide) (by decide) (by decide) dX0_init_14 (fun q2 hq2 => ?_)
  refine pF_X0_15 (pc := 16) hX (ob_new o1 hq2) dX0_init_16 ?_
  obtain ⟨e2, i2, n2, o2, f2, a2, v2, r2, u2⟩ := S_arr (d := d1) (f := 1) 10 3 i1 n1 o1 ((r1 1 (by decide)).trans (hb 1)) hq2
  generalize zR (zN Z1 q2 10 3) 1 a q2 = Z2 at *
  generalize dN d1 q2 = d2 at *
  have F2 := Fx_self a Z2 d2
  have F1 := Fx_tr (Ex_fx e2) F2
  have E9 := (Ex_tr e1 e2)
  exact hR 19 _ _ _ _ _ ⟨E9.1, i2, n2, q1, q2, o2, Fx_rf F1 i1 f1, f2, Fx_ar F1 a1, a2⟩ (by decide) (by decide) dX0_init_19
theorem n_X5 {l : Launch} {G : mG} {Z : mZ} {d : mD} {a : Nat} (hi : oI Z) (hn : nO Z a) (ho : ob Z 5 a) (hb : bar Z a) (hz : ∀ f, gI d f a = 0) : CtN l G yX5_init cX5_init 1 1 12 1 24 [.ref a] Z d (fun Z' d' => gW Z d a Z' d' ∧ oI Z' ∧ nO Z' a ∧ mkH Z' d' a) := by
  refine enterN RX5 0 [some (.ref a)] (by decide) rfl rfl rfl rfl (fun X hX hR => ?_)
  refine al0 (pc := 0) dX5_init_0 ?_
  refine g_obj (pc := 1) wm_X5_3 (by decide) (by decide) dX5_init_1 ?_
  refine al0 (pc := 4) dX5_init_4 ?_
  refine g_bipush (pc := 5) dX5_init_5 kb24 ?_
  refine g_newJ (pc := 7) 24 rfl (by decide) (by decide) (by decide) dX5_init_7 (fun q1 hq1 => ?_)
  refine pF_X5_9 (pc := 9) hX (ob_new ho hq1) dX5_init_9 ?_
  obtain ⟨e1, i1, n1, o1, f1, a1, v1, r1, u1⟩ := S_arr (d := d) (f := 160) 11 24 hi hn ho (hb 160) hq1
  generalize zR (zN Z q1 11 24) 160 a q1 = Z1 at *
  generalize dN d q1 = d1 at *
  refine al0 (pc := 12) dX5_init_12 ?_
  refine g_iconst (pc := 13) dX5_init_13 kc0 ?_
  refine pf_X5_15 (pc := 14) o1 (by decide) (by decide) dX5_init_14 ?_
  have e2 := Ex_int (a := a) (Z := Z1) (d := d1) 161 0
  have v2 : ∀ g, gI (sI d1 161 a 0) g a = if g = 161 then 0 else gI d1 g a := fun g => by rw [gI_sI]; by_cases h9 : g = 161 <;> simp [h9]
  generalize sI d1 161 a 0 = d2 at *
  refine al0 (pc := 17) dX5_init_17 ?_
  refine g_iconst (pc := 18) dX5_init_18 kc0 ?_
  refine pf_X5_19 (pc := 19) o1 dX5_init_19 ?_
  have e3 := Ex_int (a := a) (Z := Z1) (d := d2) 162 0
  have v3 : ∀ g, gI (sI d2 162 a 0) g a = if g = 162 then 0 else gI d2 g a := fun g => by rw [gI_sI]; by_cases h9 : g = 162 <;> simp [h9]
  generalize sI d2 162 a 0 = d3 at *
  refine al0 (pc := 22) dX5_init_22 ?_
  refine g_iconst (pc := 23) dX5_init_23 kc0 ?_
  refine pf_X5_23 (pc := 24) o1 dX5_init_24 ?_
  have e4 := Ex_int (a := a) (Z := Z1) (d := d3) 163 0
  have v4 : ∀ g, gI (sI d3 163 a 0) g a = if g = 163 then 0 else gI d3 g a := fun g => by rw [gI_sI]; by_cases h9 : g = 163 <;> simp [h9]
  generalize sI d3 163 a 0 = d4 at *
  have F4 := Fx_self a Z1 d4
  have F3 := Fx_tr (Ex_fx e4) F4
  have F2 := Fx_tr (Ex_fx e3) F3
  have F1 := Fx_tr (Ex_fx e2) F2
  have E9 := (Ex_tr (Ex_tr (Ex_tr e1 e2) e3) e4)
  exact hR 27 _ _ _ _ _ ⟨E9.1, i1, n1, ⟨q1, ⟨o1, Fx_rf F1 i1 f1, Fx_ar F1 a1⟩, by rw [(F1.1 q1 a1.1).2.2.2.2.2, v1.2.1]⟩, by simp only [u1, v2, v3, v4, hz]; rfl, by simp only [u1, v2, v3, v4, hz]; rfl, by simp only [u1, v2, v3, v4, hz]; rfl⟩ (by decide) (by decide) dX5_init_27
theorem n_X7 {l : Launch} {G : mG} {Z : mZ} {d : mD} {a : Nat} (hi : oI Z) (hn : nO Z a) (ho : ob Z 7 a) (hb : bar Z a) (hz : ∀ f, gI d f a = 0) : CtN l G yX7_init cX7_init 1 1 12 2 216 [.ref a] Z d (fun Z' d' => gW Z d a Z' d' ∧ oI Z' ∧ nO Z' a ∧ (∃ le dt, tap Z' a le dt) ∧ gI d' 225 a = 0) := by
  refine enterN RX7 0 [some (.ref a)] (by decide) rfl rfl rfl rfl (fun X hX hR => ?_)
  refine al0 (pc := 0) dX7_init_0 ?_
  refine g_obj (pc := 1) wm_X7_3 (by decide) (by decide) dX7_init_1 ?_
  refine al0 (pc := 4) dX7_init_4 ?_
  refine g_bipush (pc := 5) dX7_init_5 kb120 ?_
  refine g_newI (pc := 7) 120 rfl (by decide) (by decide) (by decide) dX7_init_7 (fun q1 hq1 => ?_)
  refine pF_X7_9 (pc := 9) hX (ob_new ho hq1) dX7_init_9 ?_
  obtain ⟨e1, i1, n1, o1, f1, a1, v1, r1, u1⟩ := S_arr (d := d) (f := 224) 10 120 hi hn ho (hb 224) hq1
  generalize zR (zN Z q1 10 120) 224 a q1 = Z1 at *
  generalize dN d q1 = d1 at *
  refine al0 (pc := 12) dX7_init_12 ?_
  refine g_iconst (pc := 13) dX7_init_13 kc0 ?_
  refine pf_X7_15 (pc := 14) o1 dX7_init_14 ?_
  have e2 := Ex_int (a := a) (Z := Z1) (d := d1) 225 0
  have v2 : ∀ g, gI (sI d1 225 a 0) g a = if g = 225 then 0 else gI d1 g a := fun g => by rw [gI_sI]; by_cases h9 : g = 225 <;> simp [h9]
  generalize sI d1 225 a 0 = d2 at *
  refine al0 (pc := 17) dX7_init_17 ?_
  refine g_bipush (pc := 18) dX7_init_18 kb96 ?_
  refine g_newI (pc := 20) 96 rfl (by decide) (by decide) (by decide) dX7_init_20 (fun q3 hq3 => ?_)
  refine pF_X7_19 (pc := 22) hX (ob_new o1 hq3) dX7_init_22 ?_
  obtain ⟨e3, i3, n3, o3, f3, a3, v3, r3, u3⟩ := S_arr (d := d2) (f := 226) 10 96 i1 n1 o1 ((r1 226 (by decide)).trans (hb 226)) hq3
  generalize zR (zN Z1 q3 10 96) 226 a q3 = Z3 at *
  generalize dN d2 q3 = d3 at *
  refine al0 (pc := 25) dX7_init_25 ?_
  refine g_iconst (pc := 26) dX7_init_26 kc0 ?_
  refine pf_X7_22 (pc := 27) o3 dX7_init_27 ?_
  have e4 := Ex_int (a := a) (Z := Z3) (d := d3) 227 0
  have v4 : ∀ g, gI (sI d3 227 a 0) g a = if g = 227 then 0 else gI d3 g a := fun g => by rw [gI_sI]; by_cases h9 : g = 227 <;> simp [h9]
  generalize sI d3 227 a 0 = d4 at *
  refine al0 (pc := 30) dX7_init_30 ?_
  refine g_iconst (pc := 31) dX7_init_31 kc0 ?_
  refine pf_X7_25 (pc := 32) o3 dX7_init_32 ?_
  have e5 := Ex_int (a := a) (Z := Z3) (d := d4) 228 0
  have v5 : ∀ g, gI (sI d4 228 a 0) g a = if g = 228 then 0 else gI d4 g a := fun g => by rw [gI_sI]; by_cases h9 : g = 228 <;> simp [h9]
  generalize sI d4 228 a 0 = d5 at *
  have F5 := Fx_self a Z3 d5
  have F4 := Fx_tr (Ex_fx e5) F5
  have F3 := Fx_tr (Ex_fx e4) F4
  have F2 := Fx_tr (Ex_fx e3) F3
  have F1 := Fx_tr (Ex_fx e2) F2
  have E9 := (Ex_tr (Ex_tr (Ex_tr (Ex_tr e1 e2) e3) e4) e5)
  exact hR 35 _ _ _ _ _ ⟨E9.1, i3, n3, ⟨q1, q3, o3, Fx_rf F1 i1 f1, Fx_rf F3 i3 f3, Fx_ar F1 a1, Fx_ar F3 a3⟩, by simp only [u1, v2, u3, v4, v5, hz]; rfl⟩ (by decide) (by decide) dX7_init_35
theorem n_X3 {l : Launch} {G : mG} {Z : mZ} {d : mD} {a : Nat} (hi : oI Z) (hn : nO Z a) (ho : ob Z 3 a) (hb : bar Z a) (hz : ∀ f, gI d f a = 0) : CtN l G yX3_init cX3_init 1 2 32 4 194 [.ref a] Z d (fun Z' d' => gW Z d a Z' d' ∧ oI Z' ∧ nO Z' a ∧ mkS Z' d' a) := by
  refine enterN RX3 0 [some (.ref a)] (by decide) rfl rfl rfl rfl (fun X hX hR => ?_)
  refine al0 (pc := 0) dX3_init_0 ?_
  refine g_obj (pc := 1) wm_X3_3 (by decide) (by decide) dX3_init_1 ?_
  refine al0 (pc := 4) dX3_init_4 ?_
  refine nw_X3_9 (pc := 5) (by decide) (by decide) dX3_init_5 (fun q1 hq1 => ?_)
  refine g_dupR (pc := 8) dX3_init_8 ?_
  refine callN (pc := 9) (n_X2 (oI_new 2 0 hi) (nO_new 2 0 (nO_fresh hi hq1)) (ob_born Z q1 2 0) (bar_new 2 0) (fun g9 => by rw [gI_dN, if_pos rfl])) wm_X3_11 yiX2_init (by decide) (by decide) (Nat.le_of_ble_eq_true rfl) dX3_init_9 (fun W1 w1 hp1 => ?_)
  obtain ⟨g1, j1, m1, t1⟩ := hp1
  refine pF_X3_12 (pc := 12) hX (gW_ob g1 (ob_new ho hq1)) dX3_init_12 ?_
  obtain ⟨e1, i1, n1, o1, f1, x1, r1, u1⟩ := S_obj (f := 96) 2 hi hn ho (hb 96) hq1 g1 j1 m1
  generalize zR W1 96 a q1 = Z1 at *
  refine al0 (pc := 15) dX3_init_15 ?_
  refine nw_X3_9 (pc := 16) (by decide) (by decide) dX3_init_16 (fun q2 hq2 => ?_)
  refine g_dupR (pc := 19) dX3_init_19 ?_
  refine callN (pc := 20) (n_X2 (oI_new 2 0 i1) (nO_new 2 0 (nO_fresh i1 hq2)) (ob_born Z1 q2 2 0) (bar_new 2 0) (fun g9 => by rw [gI_dN, if_pos rfl])) wm_X3_11 yiX2_init (by decide) (by decide) (Nat.le_of_ble_eq_true rfl) dX3_init_20 (fun W2 w2 hp2 => ?_)
  obtain ⟨g2, j2, m2, t2⟩ := hp2
  refine pF_X3_18 (pc := 23) hX (gW_ob g2 (ob_new o1 hq2)) dX3_init_23 ?_
  obtain ⟨e2, i2, n2, o2, f2, x2, r2, u2⟩ := S_obj (f := 97) 2 i1 n1 o1 ((r1 97 (by decide)).trans (hb 97)) hq2 g2 j2 m2
  generalize zR W2 97 a q2 = Z2 at *
  refine al0 (pc := 26) dX3_init_26 ?_
  refine g_iconst (pc := 27) dX3_init_27 kc0 ?_
  refine pf_X3_21 (pc := 28) o2 dX3_init_28 ?_
  have e3 := Ex_int (a := a) (Z := Z2) (d := w2) 98 0
  have v3 : ∀ g, gI (sI w2 98 a 0) g a = if g = 98 then 0 else gI w2 g a := fun g => by rw [gI_sI]; by_cases h9 : g = 98 <;> simp [h9]
  generalize sI w2 98 a 0 = d3 at *
  refine al0 (pc := 31) dX3_init_31 ?_
  refine g_iconst (pc := 32) dX3_init_32 kc1 ?_
  refine pf_X3_25 (pc := 33) o2 dX3_init_33 ?_
  have e4 := Ex_int (a := a) (Z := Z2) (d := d3) 99 1
  have v4 : ∀ g, gI (sI d3 99 a 1) g a = if g = 99 then 1 else gI d3 g a := fun g => by rw [gI_sI]; by_cases h9 : g = 99 <;> simp [h9]
  generalize sI d3 99 a 1 = d4 at *
  have F4 := Fx_self a Z2 d4
  have F3 := Fx_tr (Ex_fx e4) F4
  have F2 := Fx_tr (Ex_fx e3) F3
  have F1 := Fx_tr (Ex_fx e2) F2
  have E9 := (Ex_tr (Ex_tr (Ex_tr e1 e2) e3) e4)
  exact hR 36 _ _ _ _ _ ⟨E9.1, i2, n2, ⟨q1, q2, o2, Fx_rf F1 i1 f1, Fx_rf F2 i2 f2, mkP_fx F1 i1 (mkP_fx x1 j1 t1), mkP_fx F2 i2 (mkP_fx x2 j2 t2)⟩, by simp only [u1, u2, v3, v4, hz]; rfl, by simp only [u1, u2, v3, v4, hz]; rfl⟩ (by decide) (by decide) dX3_init_36
