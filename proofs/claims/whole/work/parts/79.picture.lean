theorem ltn {j t : Nat} (hj : j < 96) (ht : t ≤ 96) : nI j < nI t ↔ j < t := by
  rw [ma_lt, nI_toInt (by omega), nI_toInt (by omega)]; omega
theorem lt4 {j : Nat} (hj : j < 96) : ¬ nI j < (-1000004 : Int32) := fun h => by
  rw [ma_lt, nI_toInt (by omega), show (-1000004 : Int32).toInt = -1000004 by decide] at h
  omega
/-- what is read is a digit -/
theorem rdt_b (le : Nat → Int32) (n : Nat) : ∀ k t p g, t ≤ 96 → (∀ j, j < t → 0 ≤ (g j).toInt ∧ (g j).toInt ≤ 9) → ∀ j, j < 96 → nI j < (rdtL le n k t p g).1 → 0 ≤ ((rdtL le n k t p g).2.2 j).toInt ∧ ((rdtL le n k t p g).2.2 j).toInt ≤ 9
  | 0, t, p, g, ht, hg, j, hj, h => by
    rw [rdtL] at h ⊢
    by_cases h0 : hrC le n p = 0
    · rw [if_pos h0] at h; exact hg j ((ltn hj ht).mp h)
    · rw [if_neg h0] at h; exact absurd h (lt4 hj)
  | k + 1, t, p, g, ht, hg, j, hj, h => by
    rw [rdtL] at h ⊢
    by_cases h1 : t < 96 ∧ ¬ hrC le n p = 0
    · rw [if_pos h1] at h ⊢
      by_cases h2 : wthn (rdV le n p) 0 9
      · rw [if_pos h2] at h ⊢
        have hv := wth_nI 9 (by decide) h2
        have hv9 : (rdV le n p).toInt = (tN (rdV le n p) : Int) := (congrArg Int32.toInt hv.1).trans (nI_toInt (by omega))
        have he : endN t (mB (hrC le n p = 114)) ≤ 96 := by unfold endN; split <;> omega
        refine rdt_b le n k _ _ _ he (fun q hq => ?_) j hj h
        rw [filI_at]
        by_cases h9 : t ≤ q ∧ q < t + (endN t (mB (hrC le n p = 114)) - t)
        · rw [if_pos h9, hv9]; omega
        · rw [if_neg h9]; exact hg q (by omega)
      · rw [if_neg h2] at h; exact absurd h (lt4 hj)
    · rw [if_neg h1] at h ⊢
      by_cases h0 : hrC le n p = 0
      · rw [if_pos h0] at h; exact hg j ((ltn hj ht).mp h)
      · rw [if_neg h0] at h; exact absurd h (lt4 hj)
theorem piH_b (le : Nat → Int32) (n : Nat) (g : Nat → Int32) : dB (piH (rpiT le n g)) := fun j hj => by
  unfold piH
  by_cases h : nI j < (rpiT le n g).1
  · rw [if_pos h]
    unfold rpiT at h ⊢
    by_cases hp : isPc (hrC le n 0)
    · rw [if_pos hp] at h ⊢
      exact rdt_b le n 96 0 _ g (by omega) (fun j hj => absurd hj (by omega)) j hj h
    · rw [if_neg hp] at h; exact absurd h (lt4 hj)
  · rw [if_neg h]; decide
section
variable {Z Z2 : mZ} {d1 d2 e1 e2 : mD} {x st kp tp sr ha fi sp sh sc pa kc kq le dt mo ne m nw od fd tr rd ah kr ka ln sz it mv : Nat}
theorem tpR_0 (h1 : gI e1 225 tp = 0) (h2 : gI e2 295 m = 0) : tpR e1 e2 tp le m tr 0 := ⟨h1, h2, by decide, fun i hi => absurd hi (by omega), fun i hi => absurd hi (by omega)⟩
theorem k_picture (hx : clS Z x st kp tp sr ha fi sp sh sc pa kc kq le dt mo ne) (hm : mdS Z2 m nw od fd tr rd ah kr ka ln sz it mv) {n : Nat} (ht : tpR d1 d2 tp le m tr n) (hr : CR Z d1 d2 x st kp tp sh sc pa kc kq le m nw od tr ah kr ka ln sz it) : CR Z (piD d1 tp dt (oA Z sc) (nA Z sc) st (rdL (gA d1 le) n n 0 (gA d1 dt) 0 0 0)) (rpiD d2 m nw rd tr n (rpiT (gA d2 tr) n (gA d2 rd))) x st kp tp sh sc pa kc kq le m nw od tr ah kr ka ln sz it := by
  have hQ : rdQ (gA d2 tr) n (if isPc (hrC (gA d2 tr) n 0) then hrC (gA d2 tr) n 0 else 0) (rdL (gA d1 le) n n 0 (gA d1 dt) 0 0 0) (rpiT (gA d2 tr) n (gA d2 rd)) := by
    rw [rdL_cg (le := gA d1 le) (lf := gA d2 tr) n n 0 _ _ _ _ (fun j _ hj => ht.2.2.2.1 j (by omega))]
    exact pic_eq ht.2.2.2.2 _ _
  have hbd := piH_b (gA d2 tr) n (gA d2 rd)
  have hpn : (rpiT (gA d2 tr) n (gA d2 rd)).2.1 ≤ n := rpiT_le _ _ _
  have hno : ¬ (rpiT (gA d2 tr) n (gA d2 rd)).1 = -1000004 → isPc (hrC (gA d2 tr) n 0) := fun h => by
    by_cases hp : isPc (hrC (gA d2 tr) n 0)
    · exact hp
    · exact absurd (by unfold rpiT; rw [if_neg hp]) h
  generalize rdL (gA d1 le) n n 0 (gA d1 dt) 0 0 0 = A at hQ
  generalize rpiT (gA d2 tr) n (gA d2 rd) = Q at hQ hpn hno hbd
  obtain ⟨q1, q2, q3⟩ := hQ
  have sxE : ∀ s, scv Z s → gA (piE d1 tp dt A) (oA Z s) = gA d1 (oA Z s) ∧ gA (piE d1 tp dt A) (nA Z s) = gA d1 (nA Z s) := fun s hs => by
    have := hx.inj.2.2.2.1 s hs
    unfold piE tpD
    exact ⟨by rw [gA_sI, gA_tA, if_neg this.2.1]; rfl, by rw [gA_sI, gA_tA, if_neg this.2.2.2.2.2.1]; rfl⟩
  have gE : ∀ f a, f ≠ 225 → f ≠ 227 → f ≠ 228 → gI (piE d1 tp dt A) f a = gI d1 f a := fun f a h1 h2 h3 => by
    unfold piE tpD
    rw [gI_ne h1, gI_tA, gI_ne h2, gI_ne h3]
  have g225 : gI (piE d1 tp dt A) 225 tp = 0 := gI_eq _ _ _ _
  have shE9 : ∀ e2, gA e2 ln = gA d2 ln → gA e2 sz = gA d2 sz → gJ e2 it = gJ d2 it → ∀ e1, (∀ a, gI e1 161 a = gI d1 161 a ∧ gI e1 162 a = gI d1 162 a ∧ gI e1 163 a = gI d1 163 a) → (∀ a, gO e1 a = gO d1 a) → (∀ a, gJ e1 a = gJ d1 a) → shR Z e1 e2 sh ln sz it := fun e2 z1 z2 z3 e1 z4 z5 z6 => by
    obtain ⟨s1, s2, s3⟩ := hr.2.2.2.2.2
    have eo : ∀ i, psO e1 sh i = psO d1 sh i := fun i => by unfold psO; rw [z5]
    refine ⟨fun i hi => ?_, fun i j hi hj hn => ?_, fun i hi => ?_⟩
    · rw [eo, z5]; exact s1 i hi
    · rw [eo, eo]; exact s2 i j hi hj hn
    · rw [eo, (z4 _).1, (z4 _).2.1, (z4 _).2.2, z6, z1, z2, z3]; exact s3 i hi
  unfold piD rpiD
  by_cases hQ4 : Q.1 = -1000004
  · rw [if_pos hQ4, if_pos (by rw [q1]; exact rpiR_neg ht.2.2.1 hpn hQ4)]
    have eA : ∀ b, b ≠ rd → gA (sI (rdD d2 m rd (hrP (gA d2 tr) n Q.2.1) Q.2.2) 295 m 0) b = gA d2 b := fun b h => by unfold rdD; rw [gA_sI, gA_tA, if_neg h]; rfl
    have eI : ∀ f, f ≠ 295 → f ≠ 296 → gI (sI (rdD d2 m rd (hrP (gA d2 tr) n Q.2.1) Q.2.2) 295 m 0) f m = gI d2 f m := fun f h h' => by unfold rdD; rw [gI_ne h, gI_tA, gI_ne h']
    refine CR_agS (d1 := d1) (d2 := d2) hx ⟨fun s hs _ => ⟨(sxE s hs).1, (sxE s hs).2, gE _ _ (by decide) (by decide) (by decide), gE _ _ (by decide) (by decide) (by decide)⟩, fun a => ⟨gE _ _ (by decide) (by decide) (by decide), gE _ _ (by decide) (by decide) (by decide)⟩, fun _ => rfl⟩ (eA nw hm.n_nw_rd) (eA od hm.n_od_rd) (eA ah hm.n_ah_rd) (eA kr hm.n_kp_rd) (eA ka hm.n_ka_rd) (eI _ (by decide) (by decide)) (eI _ (by decide) (by decide)) ⟨0, tpR_0 g225 (gI_eq _ _ _ _)⟩ (shE9 _ (eA ln hm.n_ln_rd) (eA sz hm.n_sz_rd) rfl _ (fun a => ⟨gE _ _ (by decide) (by decide) (by decide), gE _ _ (by decide) (by decide) (by decide), gE _ _ (by decide) (by decide) (by decide)⟩) (fun _ => rfl) (fun _ => rfl)) hr
  · obtain ⟨⟨t, ht96, hQt⟩, hfg⟩ := q3 hQ4
    have hpc := hno hQ4
    rw [if_pos hpc] at q2
    have q0 : ¬ A.1 < 0 := by
      rw [q1]; unfold rpiR; rw [if_neg hQ4, hQt]; exact nI_pos (by omega)
    rw [if_neg hQ4, if_neg q0, q2]
    generalize hrC (gA d2 tr) n 0 = w at hpc q2
    obtain ⟨r1, ⟨k, ⟨a1, a2, a3, a4, a5⟩, r2'⟩, r3, _, r5, _⟩ := id hr
    have hoD : gA (piE d1 tp dt A) dt = A.2.1 := by unfold piE tpD; rw [gA_sI, gA_tA, if_pos rfl]
    have nodt : ∀ s, scv Z s → oA Z s ≠ dt ∧ nA Z s ≠ dt := fun s hs => ⟨(hx.inj.2.2.2.1 s hs).2.1, (hx.inj.2.2.2.1 s hs).2.2.2.2.2.1⟩
    have hdt1 : gA (piO (piE d1 tp dt A) (oA Z sc) dt (w = 110)) dt = A.2.1 := by
      unfold piO
      split
      · exact hoD
      · rw [gA_tA, if_neg (nodt sc hx.scV).1.symm]; exact hoD
    -- the pictures of every scene
    have nO9 : ∀ s, scv Z s → s ≠ sc → gA (sI (piO (piO (piE d1 tp dt A) (oA Z sc) dt (w = 110)) (nA Z sc) dt (w = 111)) 194 st 0) (oA Z s) = gA d1 (oA Z s) ∧ gA (sI (piO (piO (piE d1 tp dt A) (oA Z sc) dt (w = 110)) (nA Z sc) dt (w = 111)) 194 st 0) (nA Z s) = gA d1 (nA Z s) := fun s hs hn => by
      have i1 : oA Z s ≠ oA Z sc := fun e => hn (hx.inj.1 _ _ hs hx.scV e)
      have i2 : oA Z s ≠ nA Z sc := hx.inj.2.2.1 _ _ hs hx.scV
      have i3 : nA Z s ≠ oA Z sc := (hx.inj.2.2.1 _ _ hx.scV hs).symm
      have i4 : nA Z s ≠ nA Z sc := fun e => hn (hx.inj.2.1 _ _ hs hx.scV e)
      have pO : ∀ (e : mD) (a b : Nat) (c : Prop) [Decidable c], b ≠ a → gA (piO e a dt c) b = gA e b := fun e a b c _ h => by
        unfold piO
        split
        · rfl
        · rw [gA_tA, if_neg h]
      rw [gA_sI, gA_sI, pO _ _ _ _ i2, pO _ _ _ _ i1, pO _ _ _ _ i4, pO _ _ _ _ i3]
      exact sxE s hs
    have gF : ∀ f a, f ≠ 225 → f ≠ 227 → f ≠ 228 → f ≠ 194 → gI (sI (piO (piO (piE d1 tp dt A) (oA Z sc) dt (w = 110)) (nA Z sc) dt (w = 111)) 194 st 0) f a = gI d1 f a := fun f a h1 h2 h3 h4 => by
      rw [gI_ne h4, gI_piO, gI_piO]; exact gE f a h1 h2 h3
    have goF : ∀ a, gO (sI (piO (piO (piE d1 tp dt A) (oA Z sc) dt (w = 110)) (nA Z sc) dt (w = 111)) 194 st 0) a = gO d1 a := fun a => by
      have pO : ∀ (e : mD) (q : Nat) (c : Prop) [Decidable c], gO (piO e q dt c) a = gO e a := fun e q c _ => by unfold piO; split <;> rfl
      rw [gO_sI, pO, pO]; rfl
    have gjF : ∀ a, gJ (sI (piO (piO (piE d1 tp dt A) (oA Z sc) dt (w = 110)) (nA Z sc) dt (w = 111)) 194 st 0) a = gJ d1 a := fun a => by
      have pO : ∀ (e : mD) (q : Nat) (c : Prop) [Decidable c], gJ (piO e q dt c) a = gJ e a := fun e q c _ => by unfold piO; split <;> rfl
      rw [gJ_sI, pO, pO]; rfl
    have hoa : ∀ j, j < 96 → gA (sI (piO (piO (piE d1 tp dt A) (oA Z sc) dt (w = 110)) (nA Z sc) dt (w = 111)) 194 st 0) (oA Z sc) j = if w = 110 then gA d1 (oA Z sc) j else A.2.1 j := fun j hj => by
      rw [gA_sI]
      have e1 : gA (piO (piO (piE d1 tp dt A) (oA Z sc) dt (w = 110)) (nA Z sc) dt (w = 111)) (oA Z sc) = gA (piO (piE d1 tp dt A) (oA Z sc) dt (w = 110)) (oA Z sc) := by
        unfold piO
        split
        · rfl
        · rw [gA_tA, if_neg hx.ab]
      rw [e1]
      by_cases hw : w = 110
      · rw [piO_t _ _ _ _ hw, if_pos hw, (sxE sc hx.scV).1]
      · rw [piO_f _ _ _ _ hw, if_neg hw, gA_tA, if_pos rfl, cpy0 _ _ hj, hoD]
    have hna : ∀ j, j < 96 → gA (sI (piO (piO (piE d1 tp dt A) (oA Z sc) dt (w = 110)) (nA Z sc) dt (w = 111)) 194 st 0) (nA Z sc) j = if w = 111 then gA d1 (nA Z sc) j else A.2.1 j := fun j hj => by
      rw [gA_sI]
      by_cases hw : w = 111
      · rw [piO_t _ _ _ _ hw, if_pos hw]
        have e1 : gA (piO (piE d1 tp dt A) (oA Z sc) dt (w = 110)) (nA Z sc) = gA (piE d1 tp dt A) (nA Z sc) := by
          unfold piO
          split
          · rfl
          · rw [gA_tA, if_neg hx.ab.symm]
        rw [e1, (sxE sc hx.scV).2]
      · rw [piO_f _ _ _ _ hw, if_neg hw, gA_tA, if_pos rfl, cpy0 _ _ hj, hdt1]
    have g194 : gI (sI (piO (piO (piE d1 tp dt A) (oA Z sc) dt (w = 110)) (nA Z sc) dt (w = 111)) 194 st 0) 194 st = 0 := gI_eq _ _ _ _
    have g194k : gI (sI (piO (piO (piE d1 tp dt A) (oA Z sc) dt (w = 110)) (nA Z sc) dt (w = 111)) 194 st 0) 194 kp = gI d1 194 kp := by
      rw [gI_sI, if_neg (fun q => hx.n4 q.2.symm), gI_piO, gI_piO]; exact gE _ _ (by decide) (by decide) (by decide)
    have g225F : gI (sI (piO (piO (piE d1 tp dt A) (oA Z sc) dt (w = 110)) (nA Z sc) dt (w = 111)) 194 st 0) 225 tp = 0 := by
      rw [gI_ne (by decide), gI_piO, gI_piO]; exact g225
    generalize sI (piO (piO (piE d1 tp dt A) (oA Z sc) dt (w = 110)) (nA Z sc) dt (w = 111)) 194 st 0 = E at nO9 gF goF gjF hoa hna g194 g194k g225F
    have eA : ∀ b, b ≠ rd → b ≠ nw → gA (sI (sI (rpiF d2 m nw rd w Q 96) 299 m 0) 295 m 0) b = gA d2 b := fun b h h' => by
      rw [gA_sI, gA_sI]; unfold rpiF rpiE rdD; rw [gA_tA, if_neg h', gA_tA, if_neg h]; rfl
    have eN : gA (sI (sI (rpiF d2 m nw rd w Q 96) 299 m 0) 295 m 0) nw = piW w (gA d2 nw) (piH Q) 96 := by rw [gA_sI, gA_sI, rpiF_nw]
    have eo : ∀ b i, psO E b i = psO d1 b i := fun b i => by unfold psO; rw [goF]
    have sn : ∀ s w9, scv Z s → s ≠ sc → sR Z d1 s w9 → sR Z E s w9 := fun s w9 hs hn q => ⟨by rw [(nO9 s hs hn).1]; exact q.1, by rw [(nO9 s hs hn).2]; exact q.2.1, by rw [gF _ _ (by decide) (by decide) (by decide) (by decide)]; exact q.2.2.1, by rw [gF _ _ (by decide) (by decide) (by decide) (by decide)]; exact q.2.2.2⟩
    have q4 : ∀ i, i < 8 → psO d1 kq i ≠ sc := fun i hi => nO_ne (r1.2.2.1 i hi).2 hx.st.2.1
    have pw1 : ∀ j, j < 96 → piW w (gA d2 nw) (piH Q) 96 j = if w = 110 then gA d2 nw j else piH Q j := fun j hj => by
      by_cases hw : w = 110
      · rw [if_pos hw, piW_3 _ _ _ (fun q => q.2 hw) (by omega)]
      · rw [if_neg hw, piW_1 _ _ _ ⟨hj, hw⟩]
    have pw2 : ∀ j, j < 96 → piW w (gA d2 nw) (piH Q) 96 (96 + j) = if w = 111 then gA d2 nw (96 + j) else piH Q j := fun j hj => by
      by_cases hw : w = 111
      · rw [if_pos hw, piW_3 _ _ _ (by omega) (fun q => q.2.2 hw)]
      · rw [if_neg hw, piW_2 _ _ _ (by omega) ⟨by omega, by omega, hw⟩, Nat.add_sub_cancel_left]
    have hH : dB (piH Q) := hbd
    refine ⟨?_, ⟨0, ⟨g194, by decide, ?_, ?_, fun i hi => absurd hi (by omega)⟩, ?_⟩, ?_, ⟨0, tpR_0 g225F (gI_eq _ _ _ _)⟩, ?_, ?_⟩
    · obtain ⟨p1, p2, p3, p4, p5, p6⟩ := r1
      refine ⟨fun i hi => ?_, fun i hi => ?_, fun i hi => ?_, fun i j hi hj hn => ?_, fun i j hi hj hn => ?_, fun i j hi hj => ?_⟩
      · rw [eo, goF]; exact p1 i hi
      · rw [eo, goF]; exact p2 i hi
      · rw [eo, eo]; exact p3 i hi
      · rw [eo, eo]; exact p4 i j hi hj hn
      · rw [eo, eo]; exact p5 i j hi hj hn
      · rw [eo, eo]; exact p6 i j hi hj
    · rw [eN]
      refine ⟨fun j hj => ?_, fun j hj => ?_, ?_, ?_⟩
      · rw [hoa j hj, pw1 j hj, a3.1 j hj, hfg j hj]
      · show _ = piW w (gA d2 nw) (piH Q) 96 (96 + j)
        rw [hna j hj, pw2 j hj, hfg j hj, show gA d1 (nA Z sc) j = gA d2 nw (96 + j) from a3.2.1 j hj]
      · rw [gF _ _ (by decide) (by decide) (by decide) (by decide), piW_3 _ _ _ (by omega) (by omega)]; exact a3.2.2.1
      · rw [gF _ _ (by decide) (by decide) (by decide) (by decide), piW_3 _ _ _ (by omega) (by omega)]; exact a3.2.2.2
    · rw [eN]
      refine ⟨fun j hj => ?_, fun j hj => ?_, ?_, ?_⟩
      · rw [pw1 j hj]; split
        · exact a4.1 j hj
        · exact hH j hj
      · show 0 ≤ (piW w (gA d2 nw) (piH Q) 96 (96 + j)).toInt ∧ (piW w (gA d2 nw) (piH Q) 96 (96 + j)).toInt ≤ 9
        rw [pw2 j hj]; split
        · exact a4.2.1 j hj
        · exact hH j hj
      · rw [piW_3 _ _ _ (by omega) (by omega)]; exact a4.2.2.1
      · rw [piW_3 _ _ _ (by omega) (by omega)]; exact a4.2.2.2
    · rw [gI_ne (by decide), gI_eq]; rfl
    · rw [eA kr hm.n_kp_rd hm.n_kp_nw, eA ka hm.n_ka_rd hm.n_ka_nw, gI_ne (show 302 ≠ 295 by decide), gI_ne (show 302 ≠ 299 by decide)]
      have e302 : gI (rpiF d2 m nw rd w Q 96) 302 m = gI d2 302 m := by unfold rpiF rpiE rdD; rw [gI_tA, gI_tA, gI_ne (by decide)]
      rw [e302]
      exact keR_st (gF _ _ (by decide) (by decide) (by decide) (by decide)) g194k (goF kq) (fun w9 => sn kc w9 hx.kcV hx.n3.symm) (fun i w9 hi => sn _ w9 (r1.2.1 i hi).2 (q4 i hi)) r3
    · rw [eA od hm.n_od_rd hm.n_od_nw]; exact r5
    · exact shE9 _ (eA ln hm.n_ln_rd hm.n_ln_nw) (eA sz hm.n_sz_rd hm.n_sz_nw) rfl _ (fun a => ⟨gF _ _ (by decide) (by decide) (by decide) (by decide), gF _ _ (by decide) (by decide) (by decide) (by decide), gF _ _ (by decide) (by decide) (by decide) (by decide)⟩) goF gjF
end
