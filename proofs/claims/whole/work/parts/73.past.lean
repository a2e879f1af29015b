/-- the relation with how many steps lie behind -/
def CK (Z : mZ) (d1 d2 : mD) (x st kp tp sh sc pa kc kq le m nw od tr ah kr ka ln sz it k : Nat) : Prop := CR Z d1 d2 x st kp tp sh sc pa kc kq le m nw od tr ah kr ka ln sz it ∧ stR Z d1 st sc pa k (gA d2 nw) (gA d2 ah) ∧ gI d2 299 m = nI k
section
variable {Z Z2 : mZ} {d1 d2 e1 : mD} {x st kp tp sr ha fi sp sh sc pa kc kq le dt mo ne m nw od fd tr rd ah kr ka ln sz it mv : Nat}
theorem CK_of (hr : CR Z d1 d2 x st kp tp sh sc pa kc kq le m nw od tr ah kr ka ln sz it) : ∃ k, CK Z d1 d2 x st kp tp sh sc pa kc kq le m nw od tr ah kr ka ln sz it k := by
  obtain ⟨k, h1, h2⟩ := hr.2.1
  exact ⟨k, hr, h1, h2⟩
theorem agN_ah (hm : mdS Z2 m nw od fd tr rd ah kr ka ln sz it mv) (f : Nat → Int32) : agN m od tr ln sz it d2 (tA d2 ah f) :=
  ⟨by rw [gA_tA, if_neg hm.n_od_ah], by rw [gA_tA, if_neg hm.n_tp_ah], by rw [gA_tA, if_neg hm.n_ln_ah], by rw [gA_tA, if_neg hm.n_sz_ah], rfl, rfl⟩
theorem agN_nw (hm : mdS Z2 m nw od fd tr rd ah kr ka ln sz it mv) (f : Nat → Int32) : agN m od tr ln sz it d2 (tA d2 nw f) :=
  ⟨by rw [gA_tA, if_neg hm.n_od_nw], by rw [gA_tA, if_neg hm.n_tp_nw], by rw [gA_tA, if_neg hm.n_ln_nw], by rw [gA_tA, if_neg hm.n_sz_nw], rfl, rfl⟩
theorem agN_kr (hm : mdS Z2 m nw od fd tr rd ah kr ka ln sz it mv) (f : Nat → Int32) : agN m od tr ln sz it d2 (tA d2 kr f) :=
  ⟨by rw [gA_tA, if_neg hm.n_od_kp], by rw [gA_tA, if_neg hm.n_tp_kp], by rw [gA_tA, if_neg hm.n_ln_kp], by rw [gA_tA, if_neg hm.n_sz_kp], rfl, rfl⟩
theorem agN_ka (hm : mdS Z2 m nw od fd tr rd ah kr ka ln sz it mv) (f : Nat → Int32) : agN m od tr ln sz it d2 (tA d2 ka f) :=
  ⟨by rw [gA_tA, if_neg hm.n_od_ka], by rw [gA_tA, if_neg hm.n_tp_ka], by rw [gA_tA, if_neg hm.n_ln_ka], by rw [gA_tA, if_neg hm.n_sz_ka], rfl, rfl⟩
theorem agN_tr {d e f : mD} (h : agN m od tr ln sz it d e) (g : agN m od tr ln sz it e f) : agN m od tr ln sz it d f :=
  ⟨g.1.trans h.1, g.2.1.trans h.2.1, g.2.2.1.trans h.2.2.1, g.2.2.2.1.trans h.2.2.2.1, g.2.2.2.2.1.trans h.2.2.2.2.1, g.2.2.2.2.2.trans h.2.2.2.2.2⟩
theorem agN_sI {d : mD} {f : Nat} {v : Int32} (h : f ≠ 295) : agN m od tr ln sz it d (sI d f m v) := ⟨rfl, rfl, rfl, rfl, rfl, gI_ne h.symm _ _ _ _⟩
/-- now alone becomes another -/
theorem CK_set (hx : clS Z x st kp tp sr ha fi sp sh sc pa kc kq le dt mo ne) (hm : mdS Z2 m nw od fd tr rd ah kr ka ln sz it mv) {k : Nat} {w' : Nat → Int32} (h1 : agR sh le d1 e1) (h2 : ∀ a, gI e1 194 a = gI d1 194 a ∧ gI e1 258 a = gI d1 258 a) (h3 : ∀ a, gO e1 a = gO d1 a) (h4 : ∀ s w, scv Z s → s ≠ sc → s ≠ sp → sR Z d1 s w → sR Z e1 s w) (h5 : sR Z e1 sc w') (h6 : vR w') (hr : CK Z d1 d2 x st kp tp sh sc pa kc kq le m nw od tr ah kr ka ln sz it k) : CK Z e1 (tA d2 nw w') x st kp tp sh sc pa kc kq le m nw od tr ah kr ka ln sz it k := by
  obtain ⟨hc, ⟨a1, a2, a3, a4, a5⟩, hu⟩ := hr
  obtain ⟨r1, _, r3, _⟩ := id hc
  have eo : ∀ b i, psO e1 b i = psO d1 b i := fun b i => by unfold psO; rw [h3]
  have q1 : ∀ i, i < 8 → psO d1 pa i ≠ sp := fun i hi => nO_ne (r1.2.2.1 i hi).1 hx.r7
  have q2 : ∀ i, i < 8 → psO d1 kq i ≠ sp := fun i hi => nO_ne (r1.2.2.1 i hi).2 hx.r7
  have q3 : ∀ i, i < 8 → psO d1 pa i ≠ sc := fun i hi => nO_ne (r1.2.2.1 i hi).1 hx.st.2.1
  have q4 : ∀ i, i < 8 → psO d1 kq i ≠ sc := fun i hi => nO_ne (r1.2.2.1 i hi).2 hx.st.2.1
  have eN : gA (tA d2 nw w') nw = w' := by rw [gA_tA, if_pos rfl]
  have eA : ∀ b, b ≠ nw → gA (tA d2 nw w') b = gA d2 b := fun b h => by rw [gA_tA, if_neg h]
  have hst : stR Z e1 st sc pa k (gA (tA d2 nw w') nw) (gA (tA d2 nw w') ah) := by
    rw [eN, eA ah hm.n_ah_nw]
    refine ⟨(h2 st).1.trans a1, a2, h5, h6, fun i hi => ?_⟩
    rw [eo]
    exact ⟨h4 _ _ (r1.1 i (by omega)).2 (q3 i (by omega)) (q1 i (by omega)) (a5 i hi).1, (a5 i hi).2⟩
  refine ⟨CR_mk h1 (agN_nw hm w') ?_ ⟨k, hst, hu⟩ ?_ hc, hst, hu⟩
  · obtain ⟨p1, p2, p3, p4, p5, p6⟩ := r1
    refine ⟨fun i hi => ?_, fun i hi => ?_, fun i hi => ?_, fun i j hi hj hn => ?_, fun i j hi hj hn => ?_, fun i j hi hj => ?_⟩
    · rw [eo, h3]; exact p1 i hi
    · rw [eo, h3]; exact p2 i hi
    · rw [eo, eo]; exact p3 i hi
    · rw [eo, eo]; exact p4 i j hi hj hn
    · rw [eo, eo]; exact p5 i j hi hj hn
    · rw [eo, eo]; exact p6 i j hi hj
  · rw [eA kr hm.n_kp_nw, eA ka hm.n_ka_nw]
    exact keR_st (h2 x).2 (h2 kp).1 (h3 kq) (fun w => h4 kc w hx.kcV hx.n3.symm hx.n2) (fun i w hi => h4 _ w (r1.2.1 i hi).2 (q4 i hi) (q2 i hi)) r3
theorem ntF_lt {g w : Nat → Int32} {k i j : Nat} (hk : k < 8) (hi : i < k) (hj : j < 194) : rwA g i j = rwA (ntF g w k) i j := by
  unfold rwA ntF cpF ntG ntN
  rw [if_neg (show ¬ k = 8 by omega), if_neg (show ¬ k = 8 by omega), if_neg (by omega)]
theorem ntF_at {g w : Nat → Int32} {k j : Nat} (hj : j < 194) : w j = rwA (ntF g w k) (ntN k) j := by
  unfold rwA ntF cpF
  rw [if_pos (by omega)]
  congr 1; omega
theorem ntF_8 {g w : Nat → Int32} {i j : Nat} (hi : i < 7) (hj : j < 194) : rwA g (i + 1) j = rwA (ntF g w 8) i j := by
  unfold rwA ntF cpF ntG ntN rnS
  rw [if_pos rfl, if_pos rfl, if_neg (by omega), if_pos (by omega)]
  congr 1; omega
theorem lo_at (d : mD) (t pa i : Nat) (hi : i < 8) : gO (loD d t pa) pa i = gO d pa (if i < 7 then i + 1 else 0) := by
  show gO (tO d pa _) pa i = _
  rw [gO_tO, if_pos rfl]
  unfold rotO
  by_cases h : i < 7
  · rw [if_pos h, if_pos h]
  · rw [if_neg h, if_neg h, if_pos (by omega)]
/-- a step more behind -/
theorem CK_ke (hx : clS Z x st kp tp sr ha fi sp sh sc pa kc kq le dt mo ne) (hm : mdS Z2 m nw od fd tr rd ah kr ka ln sz it mv) {k : Nat} (hr : CK Z d1 d2 x st kp tp sh sc pa kc kq le m nw od tr ah kr ka ln sz it k) : CK Z (keD Z d1 st sc pa k) (ntD d2 m nw ah k) x st kp tp sh sc pa kc kq le m nw od tr ah kr ka ln sz it (nk k) := by
  obtain ⟨hc, ⟨a1, a2, a3, a4, a5⟩, hu⟩ := hr
  obtain ⟨r1, _, r3, _⟩ := id hc
  obtain ⟨p1, p2, p3, p4, p5, p6⟩ := id r1
  have q3 : ∀ i, i < 8 → psO d1 pa i ≠ sc := fun i hi => nO_ne (p3 i hi).1 hx.st.2.1
  have q5 : ∀ i, i < 8 → kc ≠ psO d1 pa i := fun i hi => (nO_ne (p3 i hi).1 hx.kp.2.1).symm
  have eH : gA (ntD d2 m nw ah k) ah = ntF (gA d2 ah) (gA d2 nw) k := by unfold ntD; rw [gA_sI, gA_tA, if_pos rfl]
  have eA : ∀ b, b ≠ ah → gA (ntD d2 m nw ah k) b = gA d2 b := fun b h => by unfold ntD; rw [gA_sI, gA_tA, if_neg h]
  have en : ntN k + 1 = nk k := by unfold ntN nk; split <;> omega
  have eu : gI (ntD d2 m nw ah k) 299 m = nI (nk k) := by unfold ntD; rw [gI_eq, en]
  have ez : gI (ntD d2 m nw ah k) 302 m = gI d2 302 m := gI_ne (by decide) _ _ _ _
  have hN : agN m od tr ln sz it d2 (ntD d2 m nw ah k) := agN_tr (agN_ah hm _) (agN_sI (by decide))
  by_cases h8 : k = 8
  · subst h8
    have e7 : psO (loD d1 st pa) pa 7 = psO d1 pa 0 := by unfold psO; rw [lo_at d1 st pa 7 (by decide), if_neg (by decide)]
    have ek : keD Z d1 st sc pa 8 = sI (scBz Z (loD d1 st pa) (psO d1 pa 0) sc) 194 st 8 := by unfold keD; rw [if_pos rfl, e7]
    have v0 : scv Z (psO d1 pa 0) := (p1 0 (by decide)).2
    have sl : ∀ s w, sR Z d1 s w → sR Z (loD d1 st pa) s w := fun s w q => sR_sI (d := tO d1 pa _) (by decide) q
    have sn : ∀ s w, scv Z s → s ≠ psO d1 pa 0 → sR Z d1 s w → sR Z (keD Z d1 st sc pa 8) s w := fun s w hs hn q => by
      rw [ek]; exact sR_sI (by decide) (sR_scB_ne hx.inj v0 hs hn (sl s w q))
    have s0 : ∀ w, sR Z d1 sc w → sR Z (keD Z d1 st sc pa 8) (psO d1 pa 0) w := fun w q => by
      rw [ek]; exact sR_sI (by decide) (sR_scB_at hx.inj v0 hx.scV (sl sc w q))
    have eo : ∀ i, i < 8 → gO (keD Z d1 st sc pa 8) pa i = gO d1 pa (if i < 7 then i + 1 else 0) := fun i hi => by rw [ek]; exact lo_at d1 st pa i hi
    have ep : ∀ i, i < 8 → psO (keD Z d1 st sc pa 8) pa i = psO d1 pa (if i < 7 then i + 1 else 0) := fun i hi => by unfold psO; rw [eo i hi]
    have eq9 : gO (keD Z d1 st sc pa 8) kq = gO d1 kq := keD_gO Z d1 st sc pa 8 kq hx.n5.symm
    have eQ : ∀ i, psO (keD Z d1 st sc pa 8) kq i = psO d1 kq i := fun i => by unfold psO; rw [eq9]
    have sg : ∀ i, i < 8 → (if i < 7 then i + 1 else 0) < 8 := fun i hi => by split <;> omega
    have sj : ∀ i j, i < 8 → j < 8 → i ≠ j → (if i < 7 then i + 1 else 0) ≠ (if j < 7 then j + 1 else 0) := fun i j hi hj hn => by split <;> split <;> omega
    have hst : stR Z (keD Z d1 st sc pa 8) st sc pa (nk 8) (gA (ntD d2 m nw ah 8) nw) (gA (ntD d2 m nw ah 8) ah) := by
      rw [eH, eA nw hm.n_nw_ah]
      refine ⟨keD_194 Z d1 st sc pa 8, by decide, sn sc _ hx.scV (q3 0 (by decide)).symm a3, a4, fun i hi => ?_⟩
      have hi8 : i < 8 := hi
      rw [ep i hi8]
      by_cases h7 : i < 7
      · rw [if_pos h7]
        exact ⟨sR_cg (fun j hj => ntF_8 h7 hj) (sn _ _ (p1 (i + 1) (by omega)).2 (p4 (i + 1) 0 (by omega) (by decide) (by omega)) (a5 (i + 1) (by omega)).1), vR_cg (fun j hj => ntF_8 h7 hj) (a5 (i + 1) (by omega)).2⟩
      · rw [if_neg h7]
        have hi7 : i = ntN 8 := by show i = 7; omega
        rw [hi7]
        exact ⟨sR_cg (fun j hj => ntF_at hj) (s0 _ a3), vR_cg (fun j hj => ntF_at hj) a4⟩
    refine ⟨CR_mk ?_ hN ?_ ⟨nk 8, hst, eu⟩ ?_ hc, hst, eu⟩
    · rw [ek]
      exact agR_tr (agR_tO hx.n6.symm) (agR_tr (agR_sI (f := 194) (by decide)) (agR_tr (agR_scB hx.inj v0) (agR_sI (f := 194) (by decide))))
    · refine ⟨fun i hi => ?_, fun i hi => ?_, fun i hi => ?_, fun i j hi hj hn => ?_, fun i j hi hj hn => ?_, fun i j hi hj => ?_⟩
      · rw [ep i hi, eo i hi]; exact p1 _ (sg i hi)
      · rw [eQ, eq9]; exact p2 i hi
      · rw [ep i hi, eQ]; exact ⟨(p3 _ (sg i hi)).1, (p3 i hi).2⟩
      · rw [ep i hi, ep j hj]; exact p4 _ _ (sg i hi) (sg j hj) (sj i j hi hj hn)
      · rw [eQ, eQ]; exact p5 i j hi hj hn
      · rw [ep i hi, eQ]; exact p6 _ j (sg i hi) hj
    · rw [ez, eA kr hm.n_kp_ah, eA ka hm.n_ka_ah]
      refine keR_st ?_ ?_ eq9 (fun w => sn kc w hx.kcV (q5 0 (by decide))) (fun i w hi => sn _ w (p2 i hi).2 (fun e => p6 0 i (by decide) hi e.symm)) r3
      · rw [ek, gI_ne (by decide), gI_scBz _ _ _ _ _ _ (by decide) (by decide)]
        exact gI_ne (by decide) _ _ _ _
      · rw [ek, gI_sI, if_neg (fun q => hx.n4 q.2.symm), gI_scBz _ _ _ _ _ _ (by decide) (by decide)]
        show gI (sI _ 194 st 7) 194 kp = _
        rw [gI_sI, if_neg (fun q => hx.n4 q.2.symm)]; rfl
  · have k8 : k < 8 := by omega
    have ek : keD Z d1 st sc pa k = sI (scBz Z d1 (psO d1 pa k) sc) 194 st (nI (k + 1)) := by unfold keD; rw [if_neg h8]
    have enk : nk k = k + 1 := by unfold nk; rw [if_neg h8]
    have ent : ntN k = k := by unfold ntN; rw [if_neg h8]
    have v0 : scv Z (psO d1 pa k) := (p1 k k8).2
    have sn : ∀ s w, scv Z s → s ≠ psO d1 pa k → sR Z d1 s w → sR Z (keD Z d1 st sc pa k) s w := fun s w hs hn q => by
      rw [ek]; exact sR_sI (by decide) (sR_scB_ne hx.inj v0 hs hn q)
    have s0 : ∀ w, sR Z d1 sc w → sR Z (keD Z d1 st sc pa k) (psO d1 pa k) w := fun w q => by
      rw [ek]; exact sR_sI (by decide) (sR_scB_at hx.inj v0 hx.scV q)
    have eo : ∀ b, gO (keD Z d1 st sc pa k) b = gO d1 b := fun b => by rw [ek]; rfl
    have ep : ∀ b i, psO (keD Z d1 st sc pa k) b i = psO d1 b i := fun b i => by unfold psO; rw [eo]
    have hst : stR Z (keD Z d1 st sc pa k) st sc pa (nk k) (gA (ntD d2 m nw ah k) nw) (gA (ntD d2 m nw ah k) ah) := by
      rw [eH, eA nw hm.n_nw_ah]
      refine ⟨keD_194 Z d1 st sc pa k, nk_le a2, sn sc _ hx.scV (q3 k k8).symm a3, a4, fun i hi => ?_⟩
      rw [enk] at hi
      rw [ep]
      by_cases h7 : i = k
      · have hi7 : i = ntN k := by rw [ent]; exact h7
        subst h7
        have hw : ∀ j, j < 194 → gA d2 nw j = rwA (ntF (gA d2 ah) (gA d2 nw) i) i j := fun j hj => by
          have := ntF_at (g := gA d2 ah) (w := gA d2 nw) (k := i) hj
          rw [ent] at this
          exact this
        exact ⟨sR_cg hw (s0 _ a3), vR_cg hw a4⟩
      · have hik : i < k := by omega
        exact ⟨sR_cg (fun j hj => ntF_lt k8 hik hj) (sn _ _ (p1 i (by omega)).2 (p4 i k (by omega) k8 h7) (a5 i hik).1), vR_cg (fun j hj => ntF_lt k8 hik hj) (a5 i hik).2⟩
    refine ⟨CR_mk ?_ hN ?_ ⟨nk k, hst, eu⟩ ?_ hc, hst, eu⟩
    · rw [ek]
      exact agR_tr (agR_scB hx.inj v0) (agR_sI (f := 194) (by decide))
    · rw [ek]; exact r1
    · rw [ez, eA kr hm.n_kp_ah, eA ka hm.n_ka_ah]
      refine keR_st ?_ ?_ (eo kq) (fun w => sn kc w hx.kcV (q5 k k8)) (fun i w hi => sn _ w (p2 i hi).2 (fun e => p6 k i k8 hi e.symm)) r3
      · rw [ek, gI_ne (by decide), gI_scBz _ _ _ _ _ _ (by decide) (by decide)]
      · rw [ek, gI_sI, if_neg (fun q => hx.n4 q.2.symm), gI_scBz _ _ _ _ _ _ (by decide) (by decide)]
end
