def stq (Z : mZ) (d : mD) (t sc pa : Nat) : Prop := ob Z 6 t ∧ rf Z 192 t = some sc ∧ rf Z 193 t = some pa ∧ mkS Z d sc ∧ ar Z 12 pa 8 ∧ gI d 194 t = 0 ∧ (∀ j, j < 8 → ∃ s, gO d pa j = some s ∧ mkS Z d s ∧ nO Z s) ∧ ∀ j k, j < 8 → k < 8 → j ≠ k → gO d pa j ≠ gO d pa k
def crs (d : mD) (pa kq : Nat) : Prop := ∀ i j, i < 8 → j < 8 → gO d pa i ≠ gO d kq j
theorem mkS_k {Z : mZ} {d : mD} {s : Nat} (h : mkS Z d s) : mK Z s = 3 := by
  obtain ⟨⟨p, q, h1, _⟩, _⟩ := h
  exact h1.2
theorem stq_of {Z0 Z : mZ} {d0 d : mD} {t sc pa : Nat} (h : yI Z0 d0 t sc pa Z d 8) : stq Z d t sc pa := by
  obtain ⟨h1, h2, h3, h4, h5, h6, h7, h8, h9, h10, h11, h12⟩ := h
  exact ⟨h4, h5, h6, h7, h8, h9, fun j hj => by obtain ⟨s, k1, k2, k3, k4⟩ := h11 j hj; exact ⟨s, k1, k3, k4⟩, h12⟩
theorem stq_mv {a : Nat} {Z Z' : mZ} {d d' : mD} {t sc pa : Nat} (F : Fx a Z d Z' d') (hi : oI Z) (ha : mK Z a = 8) (hO : gO d' pa = gO d pa) (hnO : ∀ s, mkS Z d s → nO Z s → nO Z' s) (h : stq Z d t sc pa) : stq Z' d' t sc pa := by
  obtain ⟨h1, h2, h3, h4, h5, h6, h7, h8⟩ := h
  have ne : ∀ s, mkS Z d s → s ≠ a := fun s hs e => by have := mkS_k hs; rw [e, ha] at this; omega
  have nt : t ≠ a := fun e => by have := h1.2; rw [e, ha] at this; omega
  refine ⟨Fx_ob F h1, Fx_rf F hi h2, Fx_rf F hi h3, mkS_fx F hi (ne sc h4) h4, Fx_ar F h5, by rw [((F.1 t h1.1).2.2.2.1 nt).2, h6], fun j hj => ?_, by rw [hO]; exact h8⟩
  obtain ⟨s, k1, k2, k3⟩ := h7 j hj
  exact ⟨s, by rw [hO, k1], mkS_fx F hi (ne s k2) k2, hnO s k2 k3⟩
theorem stq_ex {a : Nat} {Z Z' : mZ} {d d' : mD} {t sc pa : Nat} (E : Ex a Z d Z' d') (hi : oI Z) (ha : mK Z a = 8) (h : stq Z d t sc pa) : stq Z' d' t sc pa :=
  stq_mv (Ex_fx E) hi ha (E.1.1 pa h.2.2.2.2.1.1).2.2.2.2.2.2 (fun s hs hn f b hc => by rcases E.1.2 f b s hc with h1 | h1; exact hn f b h1; exact h1 (mkS_in hs)) h
theorem stq_zR {a f q : Nat} {Z : mZ} {d : mD} {t sc pa : Nat} (F : Fx a Z d (zR Z f a q) d) (hi : oI Z) (ha : mK Z a = 8) (hq : mK Z q = 6) (h : stq Z d t sc pa) : stq (zR Z f a q) d t sc pa :=
  stq_mv F hi ha rfl (fun s hs hn => nO_ref hn (fun e => by have := mkS_k hs; rw [e, hq] at this; omega)) h
theorem mkS_scv {Z : mZ} {d : mD} {s : Nat} (h : mkS Z d s) : scv Z s := by
  obtain ⟨⟨p, q, h1, h2, h3, ⟨A, hA, _⟩, ⟨B, hB, _⟩⟩, _⟩ := h
  have e1 : oA Z s = A := by unfold oA; rw [h2]; show ((rf Z 64 p)).getD 0 = A; rw [hA.2.1]; rfl
  have e2 : nA Z s = B := by unfold nA; rw [h3]; show ((rf Z 64 q)).getD 0 = B; rw [hB.2.1]; rfl
  exact ⟨p, q, h1, h2, h3, by rw [e1]; exact hA, by rw [e2]; exact hB⟩
theorem mInj_of {Z : mZ} {tp le dt fi mo ne : Nat} (hi : oI Z) (ht : tap Z tp le dt) (hf : fld Z fi mo ne) : mInj Z le dt mo ne := by
  have ow : ∀ {f b g a c : Nat}, rf Z f b = some c → rf Z g a = some c → f = g ∧ b = a := fun h1 h2 => hi.2 _ _ _ _ _ h1 h2
  have o1 : ∀ s, scv Z s → ∃ p, rf Z 96 s = some p ∧ rf Z 64 p = some (oA Z s) := fun s hs => by obtain ⟨p, q, h1, h2, h3, h4, h5⟩ := hs; exact ⟨p, h2, h4.2.1⟩
  have o2 : ∀ s, scv Z s → ∃ p, rf Z 97 s = some p ∧ rf Z 64 p = some (nA Z s) := fun s hs => by obtain ⟨p, q, h1, h2, h3, h4, h5⟩ := hs; exact ⟨q, h3, h5.2.1⟩
  have no : ∀ {f b g a c e : Nat}, rf Z f b = some c → rf Z g a = some e → f ≠ g → c ≠ e := fun h1 h2 hn e9 => hn (ow h1 (e9 ▸ h2)).1
  refine ⟨fun s s' h1 h2 e => ?_, fun s s' h1 h2 e => ?_, fun s s' h1 h2 e => ?_, fun s hs => ?_, no ht.2.1 ht.2.2.1 (by decide), no ht.2.1 hf.2.1 (by decide), no ht.2.1 hf.2.2.1 (by decide), no ht.2.2.1 hf.2.1 (by decide), no ht.2.2.1 hf.2.2.1 (by decide), no hf.2.1 hf.2.2.1 (by decide)⟩
  · obtain ⟨p, a1, a2⟩ := o1 s h1
    obtain ⟨p', b1, b2⟩ := o1 s' h2
    have := (ow a2 (e ▸ b2)).2
    exact (ow a1 (this ▸ b1)).2
  · obtain ⟨p, a1, a2⟩ := o2 s h1
    obtain ⟨p', b1, b2⟩ := o2 s' h2
    have := (ow a2 (e ▸ b2)).2
    exact (ow a1 (this ▸ b1)).2
  · obtain ⟨p, a1, a2⟩ := o1 s h1
    obtain ⟨p', b1, b2⟩ := o2 s' h2
    have := (ow a2 (e ▸ b2)).2
    exact absurd (ow a1 (this ▸ b1)).1 (by decide)
  · obtain ⟨p, a1, a2⟩ := o1 s hs
    obtain ⟨p', b1, b2⟩ := o2 s hs
    exact ⟨no a2 ht.2.1 (by decide), no a2 ht.2.2.1 (by decide), no a2 hf.2.1 (by decide), no a2 hf.2.2.1 (by decide), no b2 ht.2.1 (by decide), no b2 ht.2.2.1 (by decide), no b2 hf.2.1 (by decide), no b2 hf.2.2.1 (by decide)⟩
theorem clS_of {Z : mZ} {d : mD} {x st kp tp sr ha fi sp sh sc pa kc kq le dt mo ne : Nat} (hi : oI Z) (h8 : ob Z 8 x) (r0 : rf Z 256 x = some st) (r1 : rf Z 257 x = some kp) (r3 : rf Z 259 x = some tp) (r4 : rf Z 260 x = some sr) (r5 : rf Z 261 x = some ha) (r6 : rf Z 262 x = some fi) (r7 : rf Z 263 x = some sp) (r8 : rf Z 264 x = some sh) (s1 : stq Z d st sc pa) (s2 : stq Z d kp kc kq) (ht : tap Z tp le dt) (h4 : ob Z 4 sr) (h1 : ob Z 1 ha) (hf : fld Z fi mo ne) (hs : mkS Z d sp) (hh : ar Z 13 sh 4) : clS Z x st kp tp sr ha fi sp sh sc pa kc kq le dt mo ne := by
  have no : ∀ {f b g a c e : Nat}, rf Z f b = some c → rf Z g a = some e → f ≠ g → c ≠ e := fun h1 h2 hn e9 => hn (hi.2 _ _ _ _ _ h1 (e9 ▸ h2)).1
  have nst : st ≠ kp := no r0 r1 (by decide)
  refine ⟨h8, r0, r1, r3, r4, r5, r6, r7, r8, ⟨s1.1, s1.2.1, s1.2.2.1, mkS_scv s1.2.2.2.1, s1.2.2.2.2.1⟩, ⟨s2.1, s2.2.1, s2.2.2.1, mkS_scv s2.2.2.2.1, s2.2.2.2.2.1⟩, ht, h4, h1, hf, mkS_scv hs, hh, mInj_of hi ht hf, no s1.2.1 r7 (by decide), no s2.2.1 r7 (by decide), fun e => nst (hi.2 _ _ _ _ _ s1.2.1 (e ▸ s2.2.1)).2, nst, fun e => nst (hi.2 _ _ _ _ _ s1.2.2.1 (e ▸ s2.2.2.1)).2, no s1.2.2.1 r8 (by decide), no s2.2.2.1 r8 (by decide)⟩
def hIv (Z0 : mZ) (d0 : mD) (a sh : Nat) (Z : mZ) (d : mD) (i : Nat) : Prop := Ex a Z0 d0 Z d ∧ oI Z ∧ nO Z a ∧ ob Z 8 a ∧ rf Z 264 a = some sh ∧ ar Z 13 sh 4 ∧ gI d 258 a = 0 ∧ sh ∉ Z0.1 ∧ (∀ j, j < i → ∃ h, gO d sh j = some h ∧ mkH Z d h ∧ nO Z h) ∧ ∀ j k, j < i → k < i → j ≠ k → gO d sh j ≠ gO d sh k
theorem mkH_in {Z : mZ} {d : mD} {s : Nat} (h : mkH Z d s) : s ∈ Z.1 := by
  obtain ⟨⟨A, h1, _⟩, _⟩ := h
  exact h1.1.1
theorem hIv_step {Z0 Z W : mZ} {d0 d w : mD} {a sh i q : Nat} (h : hIv Z0 d0 a sh Z d i) (hq : q ∉ Z.1) (hg : gW (zN Z q 5 0) (dN d q) q W w) (hi2 : oI W) (hn2 : nO W q) (hs : mkH W w q) : hIv Z0 d0 a sh W (tO w sh (va_up (gO w sh) i (some q))) (i + 1) := by
  obtain ⟨h1, h2, h3, h4, h5, h8, h9, h10, h11, h12⟩ := h
  have hq0 : q ∉ Z0.1 := fun e => hq (h1.1.1 q e).1
  have F : Fx q Z d W w := Fx_tr (Fx_new q 5 0 hq h2) (Fx_gW hg (bar_new 5 0))
  have hin : ∀ b, b ∈ Z.1 → b ≠ q := fun b hb e => hq (e ▸ hb)
  have hmz : ∀ b, b ∈ Z.1 → b ∈ (zN Z q 5 0).1 := fun b hb => mem_zN.mpr (Or.inl hb)
  have hO : ∀ b, b ∈ Z.1 → gO w b = gO d b := fun b hb => by rw [(hg.1 b (hmz b hb)).2.2.2.2.2.2, gO_dN, if_neg (hin b hb)]
  have tS : ∀ s, mkH Z d s → mkH W (tO w sh (va_up (gO w sh) i (some q))) s := fun s hs9 => mkH_fx (Fx_tO (a := q)) hi2 (hin s (mkH_in hs9)) (mkH_fx F h2 (hin s (mkH_in hs9)) hs9)
  have hv : ∀ j, gO (tO w sh (va_up (gO w sh) i (some q))) sh j = if j = i then some q else gO d sh j := fun j => by rw [gO_tO, if_pos rfl, va_up_eq, hO sh h8.1]
  refine ⟨⟨gW_arO (gW_call (gW_new 5 0 h1.1 hq) hq0 hg) h10, fun f c hc => Fx_rf F h2 (h1.2 f c hc)⟩, hi2, nO_call (nO_new 5 0 h3) (hmz a h4.1) hg, gW_ob hg (ob_new h4 hq), Fx_rf F h2 h5, gW_ar hg (ar_new h8 hq), ?_, h10, fun j hj => ?_, fun j k hj hk hjk => ?_⟩
  · show gI w 258 a = 0
    rw [((hg.1 a (hmz a h4.1)).2.2.2.1 (hin a h4.1)).2, gI_dN, if_neg (hin a h4.1), h9]
  · rw [hv]
    by_cases hji : j = i
    · rw [if_pos hji]
      exact ⟨q, rfl, ⟨by obtain ⟨⟨A, k1, k2⟩, _⟩ := hs; exact ⟨A, k1, k2⟩, hs.2⟩, hn2⟩
    · rw [if_neg hji]
      obtain ⟨s, k1, k3, k4⟩ := h11 j (by omega)
      exact ⟨s, k1, tS s k3, nO_call (nO_new 5 0 k4) (hmz s (mkH_in k3)) hg⟩
  · rw [hv, hv]
    by_cases h1j : j = i
    · rw [if_pos h1j, if_neg (fun e => hjk (h1j.trans e.symm))]
      obtain ⟨s, k1, k3, k4⟩ := h11 k (by omega)
      rw [k1]
      exact fun e => hin s (mkH_in k3) (Option.some.inj e).symm
    · rw [if_neg h1j]
      by_cases h1k : k = i
      · rw [if_pos h1k]
        obtain ⟨s, k1, k3, k4⟩ := h11 j (by omega)
        rw [k1]
        exact fun e => hin s (mkH_in k3) (Option.some.inj e)
      · rw [if_neg h1k]
        exact h12 j k (by omega) (by omega) hjk
/-- all that holds of a new object of the class -/
def clN0 (Z : mZ) (d : mD) (x st kp tp sr ha fi sp sh sc pa kc kq le dt mo ne : Nat) : Prop := clS Z x st kp tp sr ha fi sp sh sc pa kc kq le dt mo ne ∧ oI Z ∧ stq Z d st sc pa ∧ stq Z d kp kc kq ∧ crs d pa kq ∧ gI d 258 x = 0 ∧ gI d 225 tp = 0 ∧ mkS Z d sp ∧ (∀ j, j < 4 → ∃ h, gO d sh j = some h ∧ mkH Z d h) ∧ ∀ j k, j < 4 → k < 4 → j ≠ k → gO d sh j ≠ gO d sh k
theorem n_X8 {l : Launch} {G : mG} {Z : mZ} {d : mD} {a : Nat} (hi : oI Z) (hn : nO Z a) (ho : ob Z 8 a) (hb : bar Z a) (hz : ∀ f, gI d f a = 0) : CtN l G yX8_init cX8_init 2 4 73 116 4138 [.ref a] Z d (fun Z' d' => gW Z d a Z' d' ∧ oI Z' ∧ nO Z' a ∧ ∃ st kp tp sr ha fi sp sh sc pa kc kq le dt mo ne, clN0 Z' d' a st kp tp sr ha fi sp sh sc pa kc kq le dt mo ne) := by
  refine enterN RX8 1 [some (.ref a), none] (by decide) rfl rfl rfl rfl (fun X hX hR => ?_)
  refine al0 (pc := 0) dX8_init_0 ?_
  refine g_obj (pc := 1) wm_X8_1 (by decide) (by decide) dX8_init_1 ?_
  refine al0 (pc := 4) dX8_init_4 ?_
  refine nw_X8_7 (pc := 5) (by decide) (by decide) dX8_init_5 (fun q1 hq1 => ?_)
  refine g_dupR (pc := 8) dX8_init_8 ?_
  refine callN (pc := 9) (n_X6 (oI_new 6 0 hi) (nO_new 6 0 (nO_fresh hi hq1)) (ob_born Z q1 6 0) (bar_new 6 0) (fun g9 => by rw [gI_dN, if_pos rfl])) wm_X8_9 yiX6_init (by decide) (by decide) (Nat.le_of_ble_eq_true rfl) dX8_init_9 (fun W1 w1 hp1 => ?_)
  obtain ⟨g1, j1, m1, t1⟩ := hp1
  refine pF_X8_10 (pc := 12) hX (gW_ob g1 (ob_new ho hq1)) dX8_init_12 ?_
  obtain ⟨e1, i1, n1, o1, f1, x1, r1, u1⟩ := S_obj (f := 256) 6 hi hn ho (hb 256) hq1 g1 j1 m1
  obtain ⟨sc, pa, y1⟩ := t1
  have k1 : mK W1 q1 = 6 := y1.2.2.2.1.2
  have b1 : mK W1 a = 8 := (gW_ob g1 (ob_new ho hq1)).2
  have S1 := stq_zR x1 j1 b1 k1 (stq_of y1)
  generalize zR W1 256 a q1 = Z1 at *
  refine al0 (pc := 15) dX8_init_15 ?_
  refine nw_X8_7 (pc := 16) (by decide) (by decide) dX8_init_16 (fun q2 hq2 => ?_)
  refine g_dupR (pc := 19) dX8_init_19 ?_
  refine callN (pc := 20) (n_X6 (oI_new 6 0 i1) (nO_new 6 0 (nO_fresh i1 hq2)) (ob_born Z1 q2 6 0) (bar_new 6 0) (fun g9 => by rw [gI_dN, if_pos rfl])) wm_X8_9 yiX6_init (by decide) (by decide) (Nat.le_of_ble_eq_true rfl) dX8_init_20 (fun W2 w2 hp2 => ?_)
  obtain ⟨g2, j2, m2, t2⟩ := hp2
  refine pF_X8_16 (pc := 23) hX (gW_ob g2 (ob_new o1 hq2)) dX8_init_23 ?_
  obtain ⟨e2, i2, n2, o2, f2, x2, r2, u2⟩ := S_obj (f := 257) 6 i1 n1 o1 ((r1 257 (by decide)).trans (hb 257)) hq2 g2 j2 m2
  obtain ⟨kc, kq, y2⟩ := t2
  have k2 : mK W2 q2 = 6 := y2.2.2.2.1.2
  have b2 : mK W2 a = 8 := (gW_ob g2 (ob_new o1 hq2)).2
  have S2 := stq_zR x2 j2 b2 k2 (stq_of y2)
  generalize zR W2 257 a q2 = Z2 at *
  refine al0 (pc := 26) dX8_init_26 ?_
  refine g_iconst (pc := 27) dX8_init_27 kc0 ?_
  refine pf_X8_19 (pc := 28) o2 (by decide) (by decide) dX8_init_28 ?_
  have e3 := Ex_int (a := a) (Z := Z2) (d := w2) 258 0
  have v3 : ∀ g, gI (sI w2 258 a 0) g a = if g = 258 then 0 else gI w2 g a := fun g => by rw [gI_sI]; by_cases h9 : g = 258 <;> simp [h9]
  generalize sI w2 258 a 0 = d3 at *
  refine al0 (pc := 31) dX8_init_31 ?_
  refine nw_X8_23 (pc := 32) (by decide) (by decide) dX8_init_32 (fun q4 hq4 => ?_)
  refine g_dupR (pc := 35) dX8_init_35 ?_
  refine callN (pc := 36) (n_X7 (oI_new 7 0 i2) (nO_new 7 0 (nO_fresh i2 hq4)) (ob_born Z2 q4 7 0) (bar_new 7 0) (fun g9 => by rw [gI_dN, if_pos rfl])) wm_X8_25 yiX7_init (by decide) (by decide) (Nat.le_of_ble_eq_true rfl) dX8_init_36 (fun W4 w4 hp4 => ?_)
  obtain ⟨g4, j4, m4, t4⟩ := hp4
  refine pF_X8_26 (pc := 39) hX (gW_ob g4 (ob_new o2 hq4)) dX8_init_39 ?_
  obtain ⟨e4, i4, n4, o4, f4, x4, r4, u4⟩ := S_obj (f := 259) 7 i2 n2 o2 ((r2 259 (by decide)).trans ((r1 259 (by decide)).trans (hb 259))) hq4 g4 j4 m4
  generalize zR W4 259 a q4 = Z4 at *
  refine al0 (pc := 42) dX8_init_42 ?_
  refine nw_X8_30 (pc := 43) (by decide) (by decide) dX8_init_43 (fun q5 hq5 => ?_)
  refine g_dupR (pc := 46) dX8_init_46 ?_
  refine callN (pc := 47) (n_X4 (oI_new 4 0 i4) (nO_new 4 0 (nO_fresh i4 hq5)) (ob_born Z4 q5 4 0) (bar_new 4 0) (fun g9 => by rw [gI_dN, if_pos rfl])) wm_X8_32 yiX4_init (by decide) (by decide) (Nat.le_of_ble_eq_true rfl) dX8_init_47 (fun W5 w5 hp5 => ?_)
  obtain ⟨g5, j5, m5, t5⟩ := hp5
  refine pF_X8_33 (pc := 50) hX (gW_ob g5 (ob_new o4 hq5)) dX8_init_50 ?_
  obtain ⟨e5, i5, n5, o5, f5, x5, r5, u5⟩ := S_obj (f := 260) 4 i4 n4 o4 ((r4 260 (by decide)).trans ((r2 260 (by decide)).trans ((r1 260 (by decide)).trans (hb 260)))) hq5 g5 j5 m5
  generalize zR W5 260 a q5 = Z5 at *
  refine al0 (pc := 53) dX8_init_53 ?_
  refine nw_X8_37 (pc := 54) (by decide) (by decide) dX8_init_54 (fun q6 hq6 => ?_)
  refine g_dupR (pc := 57) dX8_init_57 ?_
  refine callN (pc := 58) (n_X1 (oI_new 1 0 i5) (nO_new 1 0 (nO_fresh i5 hq6)) (ob_born Z5 q6 1 0) (bar_new 1 0) (fun g9 => by rw [gI_dN, if_pos rfl])) wm_X8_39 yiX1_init (by decide) (by decide) (Nat.le_of_ble_eq_true rfl) dX8_init_58 (fun W6 w6 hp6 => ?_)
  obtain ⟨g6, j6, m6, t6⟩ := hp6
  refine pF_X8_40 (pc := 61) hX (gW_ob g6 (ob_new o5 hq6)) dX8_init_61 ?_
  obtain ⟨e6, i6, n6, o6, f6, x6, r6, u6⟩ := S_obj (f := 261) 1 i5 n5 o5 ((r5 261 (by decide)).trans ((r4 261 (by decide)).trans ((r2 261 (by decide)).trans ((r1 261 (by decide)).trans (hb 261))))) hq6 g6 j6 m6
  generalize zR W6 261 a q6 = Z6 at *
  refine al0 (pc := 64) dX8_init_64 ?_
  refine nw_X8_44 (pc := 65) (by decide) (by decide) dX8_init_65 (fun q7 hq7 => ?_)
  refine g_dupR (pc := 68) dX8_init_68 ?_
  refine callN (pc := 69) (n_X0 (oI_new 0 0 i6) (nO_new 0 0 (nO_fresh i6 hq7)) (ob_born Z6 q7 0 0) (bar_new 0 0) (fun g9 => by rw [gI_dN, if_pos rfl])) wm_X8_46 yiX0_init (by decide) (by decide) (Nat.le_of_ble_eq_true rfl) dX8_init_69 (fun W7 w7 hp7 => ?_)
  obtain ⟨g7, j7, m7, t7⟩ := hp7
  refine pF_X8_47 (pc := 72) hX (gW_ob g7 (ob_new o6 hq7)) dX8_init_72 ?_
  obtain ⟨e7, i7, n7, o7, f7, x7, r7, u7⟩ := S_obj (f := 262) 0 i6 n6 o6 ((r6 262 (by decide)).trans ((r5 262 (by decide)).trans ((r4 262 (by decide)).trans ((r2 262 (by decide)).trans ((r1 262 (by decide)).trans (hb 262)))))) hq7 g7 j7 m7
  generalize zR W7 262 a q7 = Z7 at *
  refine al0 (pc := 75) dX8_init_75 ?_
  refine nw_X8_51 (pc := 76) (by decide) (by decide) dX8_init_76 (fun q8 hq8 => ?_)
  refine g_dupR (pc := 79) dX8_init_79 ?_
  refine callN (pc := 80) (n_X3 (oI_new 3 0 i7) (nO_new 3 0 (nO_fresh i7 hq8)) (ob_born Z7 q8 3 0) (bar_new 3 0) (fun g9 => by rw [gI_dN, if_pos rfl])) wm_X8_53 yiX3_init (by decide) (by decide) (Nat.le_of_ble_eq_true rfl) dX8_init_80 (fun W8 w8 hp8 => ?_)
  obtain ⟨g8, j8, m8, t8⟩ := hp8
  refine pF_X8_54 (pc := 83) hX (gW_ob g8 (ob_new o7 hq8)) dX8_init_83 ?_
  obtain ⟨e8, i8, n8, o8, f8, x8, r8, u8⟩ := S_obj (f := 263) 3 i7 n7 o7 ((r7 263 (by decide)).trans ((r6 263 (by decide)).trans ((r5 263 (by decide)).trans ((r4 263 (by decide)).trans ((r2 263 (by decide)).trans ((r1 263 (by decide)).trans (hb 263))))))) hq8 g8 j8 m8
  generalize zR W8 263 a q8 = Z8 at *
  have F8 := Fx_self a Z8 w8
  have F7 := Fx_tr (Ex_fx e8) F8
  have F6 := Fx_tr (Ex_fx e7) F7
  have F5 := Fx_tr (Ex_fx e6) F6
  have F4 := Fx_tr (Ex_fx e5) F5
  have F3 := Fx_tr (Ex_fx e4) F4
  have F2 := Fx_tr (Ex_fx e3) F3
  have F1 := Fx_tr (Ex_fx e2) F2
  have E9 := (Ex_tr (Ex_tr (Ex_tr (Ex_tr (Ex_tr (Ex_tr (Ex_tr e1 e2) e3) e4) e5) e6) e7) e8)
  obtain ⟨⟨le, dt, t4a⟩, t4b⟩ := t4
  obtain ⟨mo, ne, t7⟩ := t7
  have hZ1 : oI Z1 := i1
  have C2 : crs w2 pa kq := fun i j hi9 hj9 e9 => by
    obtain ⟨s9, z1, z2, z3, z4⟩ := y1.2.2.2.2.2.2.2.2.2.2.1 i hi9
    obtain ⟨s8, z5, z6, z7, z8⟩ := y2.2.2.2.2.2.2.2.2.2.2.1 j hj9
    have hp1 : pa ∈ W1.1 := y1.2.2.2.2.2.2.2.1.1
    have hp2 : pa ∈ Z1.1 := (x1.1 pa hp1).1
    have hne : pa ≠ q2 := fun h9 => hq2 (h9 ▸ hp2)
    have q5 : gO w2 pa i = gO w1 pa i := by rw [(g2.1 pa (mem_zN.mpr (Or.inl hp2))).2.2.2.2.2.2, gO_dN, if_neg hne]
    rw [q5, z1, z5] at e9
    exact z6 (mem_zN.mpr (Or.inl (x1.1 s8 (by rw [← Option.some.inj e9]; exact mkS_in z3)).1))
  have S1e := stq_ex e2 i1 (o1).2 S1
  have X2 := (Ex_tr (Ex_tr (Ex_tr (Ex_tr (Ex_tr e3 e4) e5) e6) e7) e8)
  have S1f := stq_ex X2 i2 o2.2 S1e
  have S2f := stq_ex X2 i2 o2.2 S2
  have C8 : crs w8 pa kq := fun i j hi9 hj9 => by rw [(X2.1.1 pa S1e.2.2.2.2.1.1).2.2.2.2.2.2, (X2.1.1 kq S2.2.2.2.2.1.1).2.2.2.2.2.2]; exact C2 i j hi9 hj9
  have nq : ∀ {q Z9 k9}, ob Z9 8 a → mK Z9 q = k9 → k9 ≠ 8 → q ≠ a := fun h1 h2 h3 e9 => h3 (by rw [← h2, e9]; exact h1.2)
  have T4 : tap Z4 q4 le dt := ⟨Fx_ob x4 t4a.1, Fx_rf x4 j4 t4a.2.1, Fx_rf x4 j4 t4a.2.2.1, Fx_ar x4 t4a.2.2.2.1, Fx_ar x4 t4a.2.2.2.2⟩
  have T4f : tap Z8 q4 le dt := ⟨Fx_ob F4 T4.1, Fx_rf F4 i4 T4.2.1, Fx_rf F4 i4 T4.2.2.1, Fx_ar F4 T4.2.2.2.1, Fx_ar F4 T4.2.2.2.2⟩
  have nq4 : q4 ≠ a := nq o4 T4.1.2 (by decide)
  have V4 : gI w8 225 q4 = 0 := by rw [((F4.1 q4 T4.1.1).2.2.2.1 nq4).2, t4b]
  have T7 : fld Z8 q7 mo ne := ⟨Fx_ob F7 (Fx_ob x7 t7.1), Fx_rf F7 i7 (Fx_rf x7 j7 t7.2.1), Fx_rf F7 i7 (Fx_rf x7 j7 t7.2.2.1), Fx_ar F7 (Fx_ar x7 t7.2.2.2.1), Fx_ar F7 (Fx_ar x7 t7.2.2.2.2)⟩
  have T5 : ob Z8 4 q5 := Fx_ob F5 (Fx_ob x5 (gW_ob g5 (ob_born _ _ _ _)))
  have T6 : ob Z8 1 q6 := Fx_ob F6 (Fx_ob x6 (gW_ob g6 (ob_born _ _ _ _)))
  have nq8 : q8 ≠ a := fun h9 => hq8 (h9 ▸ o7.1)
  have T8 : mkS Z8 w8 q8 := mkS_fx x8 j8 nq8 t8
  have V0 : gI w8 258 a = 0 := by simp only [u1, u2, v3, u4, u5, u6, u7, u8, hz]; rfl
  refine al0 (pc := 86) dX8_init_86 ?_
  refine g_iconst (pc := 87) dX8_init_87 kc4 ?_
  refine g_newT (pc := 88) 4 wc_X8_58 rfl (by decide) (by decide) (by decide) dX8_init_88 (fun q9 hq9 => ?_)
  refine pF_X8_60 (pc := 91) hX (ob_new o8 hq9) dX8_init_91 ?_
  obtain ⟨e9, i9, n9, o9, f9, a9, v9, r9, u9⟩ := S_arr (d := w8) (f := 264) 13 4 i8 n8 o8 ((r8 264 (by decide)).trans ((r7 264 (by decide)).trans ((r6 264 (by decide)).trans ((r5 264 (by decide)).trans ((r4 264 (by decide)).trans ((r2 264 (by decide)).trans ((r1 264 (by decide)).trans (hb 264)))))))) hq9
  generalize zR (zN Z8 q9 13 4) 264 a q9 = Z9 at *
  generalize dN w8 q9 = d9 at *
  refine g_iconst (pc := 94) dX8_init_94 kc0 ?_
  refine is1 (pc := 95) dX8_init_95 rfl ?_
  have L96 : ∀ (n i : Nat) (Zi : mZ) (di : mD), i + n = 4 → hIv Z8 w8 a q9 Zi di i → mGo l G (mRn 4 73 116 4138) X RX8 cX8_init 2 (108 + 2 * i) (4026 + 28 * i) Zi 96 [some (.ref a), some (.int (nI i))] [] di := by
    intro n; induction n with
    | zero =>
      intro i Zi di hin hI
      obtain rfl : i = 4 := by omega
      refine il1 (pc := 96) dX8_init_96 ?_
      refine g_iconst (pc := 97) dX8_init_97 kc4 ?_
      refine g_icmpge 120 (pc := 98) dX8_init_98 (by decide) (fun c98 => ?_) (fun c98 => absurd (nI_le (a := 4) (by omega) (by omega)) c98)
      obtain ⟨z1, z2, z3, z4, z5, z6, z7, z8, z9, z10⟩ := hI
      have FF := Ex_fx z1
      have U1 := stq_ex z1 i8 o8.2 S1f
      have U2 := stq_ex z1 i8 o8.2 S2f
      have U8 := mkS_fx FF i8 nq8 T8
      have U4 : tap Zi q4 le dt := ⟨Fx_ob FF T4f.1, Fx_rf FF i8 T4f.2.1, Fx_rf FF i8 T4f.2.2.1, Fx_ar FF T4f.2.2.2.1, Fx_ar FF T4f.2.2.2.2⟩
      have U7 : fld Zi q7 mo ne := ⟨Fx_ob FF T7.1, Fx_rf FF i8 T7.2.1, Fx_rf FF i8 T7.2.2.1, Fx_ar FF T7.2.2.2.1, Fx_ar FF T7.2.2.2.2⟩
      have UV : gI di 225 q4 = 0 := by rw [((FF.1 q4 T4f.1.1).2.2.2.1 nq4).2, V4]
      have UC : crs di pa kq := fun i j hi9 hj9 => by rw [(z1.1.1 pa S1f.2.2.2.2.1.1).2.2.2.2.2.2, (z1.1.1 kq S2f.2.2.2.2.1.1).2.2.2.2.2.2]; exact C8 i j hi9 hj9
      have CL := clS_of (d := di) z2 z4 (Fx_rf FF i8 (Fx_rf F1 i1 f1)) (Fx_rf FF i8 (Fx_rf F2 i2 f2)) (Fx_rf FF i8 (Fx_rf F4 i4 f4)) (Fx_rf FF i8 (Fx_rf F5 i5 f5)) (Fx_rf FF i8 (Fx_rf F6 i6 f6)) (Fx_rf FF i8 (Fx_rf F7 i7 f7)) (Fx_rf FF i8 f8) z5 U1 U2 U4 (Fx_ob FF T5) (Fx_ob FF T6) U7 U8 z6
      refine hR 120 _ _ _ _ _ ⟨(Ex_tr E9 z1).1, z2, z3, q1, q2, q4, q5, q6, q7, q8, q9, sc, pa, kc, kq, le, dt, mo, ne, CL, z2, U1, U2, UC, z7, UV, U8, fun j hj => ?_, z10⟩ (by decide) (by decide) dX8_init_120
      obtain ⟨h9, c1, c2, c3⟩ := z9 j hj
      exact ⟨h9, c1, c2⟩
    | succ n ih =>
      intro i Zi di hin hI
      refine il1 (pc := 96) dX8_init_96 ?_
      refine g_iconst (pc := 97) dX8_init_97 kc4 ?_
      refine g_icmpge 120 (pc := 98) dX8_init_98 (by decide) (fun c98 => absurd c98 (nI_ge (b := 4) (by omega) (by omega))) (fun c98 => ?_)
      refine al0 (pc := 101) dX8_init_101 ?_
      refine gf_X8_60 (pc := 102) hI.2.2.2.1 hI.2.2.2.2.1 dX8_init_102 ?_
      refine il1 (pc := 105) dX8_init_105 ?_
      refine nw_X8_58 (pc := 106) (show 108 + 2 * i + 1 ≤ 116 by omega) (show 4026 + 28 * i + 4 ≤ 4138 by omega) dX8_init_106 (fun q hq => ?_)
      refine g_dupR (pc := 109) dX8_init_109 ?_
      refine callN (pc := 110) (n_X5 (oI_new 5 0 hI.2.1) (nO_new 5 0 (nO_fresh hI.2.1 hq)) (ob_born Zi q 5 0) (bar_new 5 0) (fun g9 => by rw [gI_dN, if_pos rfl])) wm_X8_64 yiX5_init (by decide) ⟨show 108 + 2 * i + 1 + 1 ≤ 116 by omega, show 4026 + 28 * i + 4 + 24 ≤ 4138 by omega⟩ (Nat.le_of_ble_eq_true rfl) dX8_init_110 (fun W w hp => ?_)
      obtain ⟨gg, jj, mm, tt⟩ := hp
      have hs9 := tt
      obtain ⟨⟨A9, ho9, _⟩, _⟩ := hs9
      refine g_astT (pc := 113) i (gW_ar gg (ar_new hI.2.2.2.2.2.1 hq)) (by omega) rfl (by decide) ho9.1 dX8_init_113 ?_
      refine ic1 (pc := 114) dX8_init_114 kc1 rfl ?_
      refine g_goto 96 (pc := 117) dX8_init_117 (by decide) ?_
      rw [nI_1]
      have q0 := ih (i + 1) W _ (by omega) (hIv_step hI hq gg jj mm tt)
      rw [show 108 + 2 * (i + 1) = 108 + 2 * i + 1 + 1 by omega, show 4026 + 28 * (i + 1) = 4026 + 28 * i + 4 + 24 by omega] at q0
      exact q0
  exact L96 4 0 Z9 d9 rfl ⟨e9, i9, n9, o9, f9, a9, by rw [u9]; exact V0, hq9, fun j hj => absurd hj (by omega), fun j k hj => absurd hj (by omega)⟩
