section
variable {Z Z2 : mZ} {d d1 d2 e2 : mD} {x st kp tp sr ha fi sp sh sc pa kc kq le dt mo ne m nw od fd tr rd ah kr ka ln sz it mv : Nat}
theorem k_undo (hx : clS Z x st kp tp sr ha fi sp sh sc pa kc kq le dt mo ne) (hm : mdS Z2 m nw od fd tr rd ah kr ka ln sz it mv) {k : Nat} (hr : CK Z d1 d2 x st kp tp sh sc pa kc kq le m nw od tr ah kr ka ln sz it k) : CR Z (undD Z d1 st sc pa k) (runD d2 m nw ah k) x st kp tp sh sc pa kc kq le m nw od tr ah kr ka ln sz it := by
  unfold undD runD
  by_cases h0 : k = 0
  · rw [if_pos h0, if_pos h0]; exact hr.1
  · rw [if_neg h0, if_neg h0]
    obtain ⟨hc, ⟨a1, a2, a3, a4, a5⟩, hu⟩ := hr
    obtain ⟨r1, _, r3, _⟩ := id hc
    obtain ⟨p1, p2, p3, p4, p5, p6⟩ := id r1
    have q3 : ∀ i, i < 8 → psO d1 pa i ≠ sc := fun i hi => nO_ne (p3 i hi).1 hx.st.2.1
    have q4 : ∀ i, i < 8 → psO d1 kq i ≠ sc := fun i hi => nO_ne (p3 i hi).2 hx.st.2.1
    unfold gbD
    have sn : ∀ s w, scv Z s → s ≠ sc → sR Z d1 s w → sR Z (scBz Z (sI d1 194 st (nI (k - 1))) sc (psO d1 pa (k - 1))) s w := fun s w hs hn q => sR_scB_ne hx.inj hx.scV hs hn (sR_sI (by decide) q)
    have eA : ∀ b, b ≠ nw → gA (sI (tA d2 nw (runF (gA d2 ah) (gA d2 nw) k)) 299 m (nI (k - 1))) b = gA d2 b := fun b h => by rw [gA_sI, gA_tA, if_neg h]
    have eN : gA (sI (tA d2 nw (runF (gA d2 ah) (gA d2 nw) k)) 299 m (nI (k - 1))) nw = runF (gA d2 ah) (gA d2 nw) k := by rw [gA_sI, gA_tA, if_pos rfl]
    have hw : ∀ j, j < 194 → rwA (gA d2 ah) (k - 1) j = runF (gA d2 ah) (gA d2 nw) k j := fun j hj => by
      unfold rwA runF cpF
      rw [if_pos (by omega), Nat.sub_zero]
    refine CR_mk (agR_tr (agR_sI (f := 194) (by decide)) (agR_scB hx.inj hx.scV)) (agN_tr (agN_nw hm _) (agN_sI (by decide))) r1 ⟨k - 1, ⟨?_, by omega, ?_, ?_, fun i hi => ?_⟩, gI_eq _ _ _ _⟩ ?_ hc
    · rw [gI_scBz _ _ _ _ _ _ (by decide) (by decide), gI_eq]
    · rw [eN]
      exact sR_cg hw (sR_scB_at hx.inj hx.scV (p1 (k - 1) (by omega)).2 (sR_sI (by decide) (a5 (k - 1) (by omega)).1))
    · rw [eN]
      exact vR_cg hw (a5 (k - 1) (by omega)).2
    · rw [eA ah hm.n_ah_nw]
      exact ⟨sn _ _ (p1 i (by omega)).2 (q3 i (by omega)) (a5 i (by omega)).1, (a5 i (by omega)).2⟩
    · rw [eA kr hm.n_kp_nw, eA ka hm.n_ka_nw, gI_ne (show 302 ≠ 299 by decide)]
      refine keR_st (d := d1) ?_ ?_ rfl (fun w => sn kc w hx.kcV hx.n3.symm) (fun i w hi => sn _ w (p2 i hi).2 (q4 i hi)) r3
      · rw [gI_scBz _ _ _ _ _ _ (by decide) (by decide), gI_ne (by decide)]
      · rw [gI_scBz _ _ _ _ _ _ (by decide) (by decide), gI_sI, if_neg (fun q => hx.n4 q.2.symm)]
/-- a past becomes another -/
theorem stB_fx {pb : Nat} (hi : mInj Z le dt mo ne) (sh : Nat) : ∀ n i d, i + n ≤ 8 → (∀ j, j < 8 → scv Z (psO d pa j)) → (∀ j, j < 8 → scv Z (psO d pb j)) → (∀ i j, i < 8 → j < 8 → i ≠ j → psO d pa i ≠ psO d pa j) → (∀ i j, i < 8 → j < 8 → psO d pb i ≠ psO d pa j) →
    (∀ b, gO (stB Z pa pb n i d) b = gO d b) ∧ (∀ f a, f ≠ 98 → f ≠ 99 → gI (stB Z pa pb n i d) f a = gI d f a) ∧ agR sh le d (stB Z pa pb n i d) ∧ (∀ s w, scv Z s → (∀ j, j < 8 → s ≠ psO d pa j) → sR Z d s w → sR Z (stB Z pa pb n i d) s w) ∧ (∀ j w, j < i → sR Z d (psO d pa j) w → sR Z (stB Z pa pb n i d) (psO d pa j) w) ∧ (∀ j w, i ≤ j → j < i + n → sR Z d (psO d pb j) w → sR Z (stB Z pa pb n i d) (psO d pa j) w)
  | 0, i, d, _, _, _, _, _ => ⟨fun _ => rfl, fun _ _ _ _ => rfl, agR_self _ _ _, fun _ _ _ _ q => q, fun _ _ _ q => q, fun j _ h1 h2 => absurd h2 (by omega)⟩
  | n + 1, i, d, hn, v1, v2, n1, n2 => by
    have ih := stB_fx (pb := pb) hi sh n (i + 1) (scBz Z d (psO d pa i) (psO d pb i)) (by omega) v1 v2 n1 n2
    obtain ⟨i1, i2, i3, i4, i5, i6⟩ := ih
    have hi8 : i < 8 := by omega
    refine ⟨i1, fun f a h1 h2 => (i2 f a h1 h2).trans (gI_scBz _ _ _ _ _ _ h1 h2), agR_tr (agR_scB hi (v1 i hi8)) i3, fun s w hs hq q => i4 s w hs hq (sR_scB_ne hi (v1 i hi8) hs (hq i hi8) q), fun j w hj q => i5 j w (by omega) (sR_scB_ne hi (v1 i hi8) (v1 j (by omega)) (n1 j i (by omega) hi8 (by omega)) q), fun j w h1 h2 q => ?_⟩
    by_cases he : j = i
    · subst he
      exact i5 j w (by omega) (sR_scB_at hi (v1 j hi8) (v2 j hi8) q)
    · exact i6 j w (by omega) (by omega) (sR_scB_ne hi (v1 i hi8) (v2 j (by omega)) (n2 j i (by omega) hi8) q)
theorem cp_lt {g h : Nat → Int32} {n j : Nat} (hj : j < n) : h j = cpF g h 0 n j := by
  unfold cpF; rw [if_pos (by omega), Nat.sub_zero]
theorem k_image (hx : clS Z x st kp tp sr ha fi sp sh sc pa kc kq le dt mo ne) (hm : mdS Z2 m nw od fd tr rd ah kr ka ln sz it mv) {k : Nat} (hr : CK Z d1 d2 x st kp tp sh sc pa kc kq le m nw od tr ah kr ka ln sz it k) : CR Z (imaD Z d1 x st kp sc kc pa kq k) (rimD d2 m nw ah kr ka) x st kp tp sh sc pa kc kq le m nw od tr ah kr ka ln sz it := by
  obtain ⟨hc, ⟨a1, a2, a3, a4, a5⟩, hu⟩ := hr
  obtain ⟨r1, _, r3, _⟩ := id hc
  obtain ⟨p1, p2, p3, p4, p5, p6⟩ := id r1
  have q3 : ∀ i, i < 8 → psO d1 pa i ≠ kc := fun i hi => nO_ne (p3 i hi).1 hx.kp.2.1
  have q4 : ∀ i, i < 8 → psO d1 kq i ≠ kc := fun i hi => nO_ne (p3 i hi).2 hx.kp.2.1
  have q5 : ∀ i, i < 8 → psO d1 kq i ≠ sc := fun i hi => nO_ne (p3 i hi).2 hx.st.2.1
  obtain ⟨i1, i2, i3, i4, i5, i6⟩ := stB_fx (pa := kq) (pb := pa) hx.inj sh k 0 (sI (scBz Z d1 kc sc) 194 kp (nI k)) (by omega) (fun j hj => (p2 j hj).2) (fun j hj => (p1 j hj).2) p5 p6
  unfold imaD
  generalize stB Z kq pa k 0 (sI (scBz Z d1 kc sc) 194 kp (nI k)) = e at i1 i2 i3 i4 i5 i6
  have sn : ∀ s w, scv Z s → s ≠ kc → (∀ j, j < 8 → s ≠ psO d1 kq j) → sR Z d1 s w → sR Z (sI e 258 x 1) s w := fun s w hs hn hq q => sR_sI (by decide) (i4 s w hs hq (sR_sI (by decide) (sR_scB_ne hx.inj hx.kcV hs hn q)))
  have eo : ∀ b, gO (sI e 258 x 1) b = gO d1 b := fun b => i1 b
  have ep : ∀ b i, psO (sI e 258 x 1) b i = psO d1 b i := fun b i => by unfold psO; rw [eo]
  have gk : gI (sI e 258 x 1) 194 kp = nI k := by rw [gI_ne (by decide), i2 _ _ (by decide) (by decide), gI_eq]
  have eA : ∀ b, b ≠ kr → b ≠ ka → gA (rimD d2 m nw ah kr ka) b = gA d2 b := fun b h h' => by unfold rimD; rw [gA_sI, gA_tA, if_neg h', gA_tA, if_neg h]
  have eK : gA (rimD d2 m nw ah kr ka) kr = cpF (gA d2 kr) (gA d2 nw) 0 194 := by unfold rimD; rw [gA_sI, gA_tA, if_neg hm.n_kp_ka, gA_tA, if_pos rfl]
  have eQ : gA (rimD d2 m nw ah kr ka) ka = cpF (gA d2 ka) (gA d2 ah) 0 1552 := by unfold rimD; rw [gA_sI, gA_tA, if_pos rfl]
  have e3 : gI (rimD d2 m nw ah kr ka) 302 m = gI d2 299 m := by unfold rimD; rw [gI_eq]
  have e4 : gI (rimD d2 m nw ah kr ka) 299 m = gI d2 299 m := by unfold rimD; exact gI_ne (by decide) _ _ _ _
  have hw : ∀ i, i < k → ∀ j, j < 194 → rwA (gA d2 ah) i j = rwA (cpF (gA d2 ka) (gA d2 ah) 0 1552) i j := fun i hi j hj => cp_lt (h := gA d2 ah) (show 194 * i + j < 1552 by omega)
  refine CR_mk (agR_tr (agR_scB hx.inj hx.kcV) (agR_tr (agR_sI (f := 194) (by decide)) (agR_tr i3 (agR_sI (f := 258) (by decide))))) (agN_tr (agN_kr hm _) (agN_tr (agN_ka hm _) (agN_sI (by decide)))) ?_ ⟨k, ?_, e4.trans hu⟩ ⟨k, gk, a2, Or.inr ⟨?_, e3.trans hu, ?_⟩⟩ hc
  · refine ⟨fun i hi => ?_, fun i hi => ?_, fun i hi => ?_, fun i j hi hj hn => ?_, fun i j hi hj hn => ?_, fun i j hi hj => ?_⟩
    · rw [ep, eo]; exact p1 i hi
    · rw [ep, eo]; exact p2 i hi
    · rw [ep, ep]; exact p3 i hi
    · rw [ep, ep]; exact p4 i j hi hj hn
    · rw [ep, ep]; exact p5 i j hi hj hn
    · rw [ep, ep]; exact p6 i j hi hj
  · rw [eA nw hm.n_nw_kp hm.n_nw_ka, eA ah hm.n_ah_kp hm.n_ah_ka]
    refine stR_st ?_ (eo pa) (sn sc _ hx.scV hx.n3 (fun j hj => (q5 j hj).symm)) (fun i w hi => sn _ w (p1 i hi).2 (q3 i hi) (fun j hj => p6 i j hi hj)) ⟨a1, a2, a3, a4, a5⟩
    rw [gI_ne (by decide), i2 _ _ (by decide) (by decide), gI_sI, if_neg (fun q => hx.n4 q.2), gI_scBz _ _ _ _ _ _ (by decide) (by decide)]
  · rw [gI_eq]; decide
  · rw [eK, eQ]
    refine ⟨gk, a2, sR_cg (fun j hj => cp_lt hj) (sR_sI (by decide) (i4 kc _ hx.kcV (fun j hj => (q4 j hj).symm) (sR_sI (by decide) (sR_scB_at hx.inj hx.kcV hx.scV a3)))), vR_cg (fun j hj => cp_lt hj) a4, fun i hi => ?_⟩
    rw [ep]
    exact ⟨sR_cg (hw i hi) (sR_sI (by decide) (i6 i _ (by omega) (by omega) (sR_sI (by decide) (sR_scB_ne hx.inj hx.kcV (p1 i (by omega)).2 (q3 i (by omega)) (a5 i hi).1)))), vR_cg (hw i hi) (a5 i hi).2⟩
theorem e_restore (hr : CR Z d1 d2 x st kp tp sh sc pa kc kq le m nw od tr ah kr ka ln sz it) : (if gI d1 258 x = 0 then (-1000004 : Int32) else 1) = rreR (gI d2 302 m) := by
  obtain ⟨_, _, ⟨k, r1, r2, r3⟩, _⟩ := hr
  unfold rreR
  rcases r3 with q | q
  · rw [if_pos q.1, q.2, if_neg (by decide)]
  · rw [if_neg q.1, q.2.1, if_pos (Int32.not_lt.mp (nI_pos (by omega)))]
theorem k_restore (hx : clS Z x st kp tp sr ha fi sp sh sc pa kc kq le dt mo ne) (hm : mdS Z2 m nw od fd tr rd ah kr ka ln sz it mv) {k : Nat} (hk9 : gI d1 194 kp = nI k) (hk8 : k ≤ 8) (hc : CR Z d1 d2 x st kp tp sh sc pa kc kq le m nw od tr ah kr ka ln sz it) : CR Z (if gI d1 258 x = 0 then d1 else resD Z d1 st sc kc pa kq k) (rreD d2 m nw ah kr ka) x st kp tp sh sc pa kc kq le m nw od tr ah kr ka ln sz it := by
  obtain ⟨r1, _, r3, _⟩ := id hc
  obtain ⟨k', b1, b2, b3⟩ := id r3
  have ek : k' = k := (nI_eq (by omega) (by omega)).mp (b1.symm.trans hk9)
  subst ek
  unfold rreD
  rcases b3 with q | ⟨q1, q2, ⟨c1, c2, c3, c4, c5⟩⟩
  · rw [if_pos q.1, q.2, if_neg (by decide)]; exact hc
  · rw [if_neg q1, if_pos (by rw [q2]; exact Int32.not_lt.mp (nI_pos (by omega)))]
    obtain ⟨p1, p2, p3, p4, p5, p6⟩ := id r1
    have q3 : ∀ i, i < 8 → psO d1 pa i ≠ sc := fun i hi => nO_ne (p3 i hi).1 hx.st.2.1
    have q4 : ∀ i, i < 8 → psO d1 kq i ≠ sc := fun i hi => nO_ne (p3 i hi).2 hx.st.2.1
    have q5 : ∀ i, i < 8 → psO d1 pa i ≠ kc := fun i hi => nO_ne (p3 i hi).1 hx.kp.2.1
    obtain ⟨i1, i2, i3, i4, i5, i6⟩ := stB_fx (pa := pa) (pb := kq) hx.inj sh k' 0 (sI (scBz Z d1 sc kc) 194 st (nI k')) (by omega) (fun j hj => (p1 j hj).2) (fun j hj => (p2 j hj).2) p4 (fun i j hi hj => (p6 j i hj hi).symm)
    unfold resD
    generalize stB Z pa kq k' 0 (sI (scBz Z d1 sc kc) 194 st (nI k')) = e at i1 i2 i3 i4 i5 i6
    have sn : ∀ s w, scv Z s → s ≠ sc → (∀ j, j < 8 → s ≠ psO d1 pa j) → sR Z d1 s w → sR Z e s w := fun s w hs hn hq q => i4 s w hs hq (sR_sI (by decide) (sR_scB_ne hx.inj hx.scV hs hn q))
    have ep : ∀ b i, psO e b i = psO d1 b i := fun b i => by unfold psO; rw [i1]; rfl
    have eA : ∀ b, b ≠ nw → b ≠ ah → gA (sI (tA (tA d2 nw (cpF (gA d2 nw) (gA d2 kr) 0 194)) ah (cpF (gA d2 ah) (gA d2 ka) 0 1552)) 299 m (gI d2 302 m)) b = gA d2 b := fun b h h' => by rw [gA_sI, gA_tA, if_neg h', gA_tA, if_neg h]
    have eK : gA (sI (tA (tA d2 nw (cpF (gA d2 nw) (gA d2 kr) 0 194)) ah (cpF (gA d2 ah) (gA d2 ka) 0 1552)) 299 m (gI d2 302 m)) nw = cpF (gA d2 nw) (gA d2 kr) 0 194 := by rw [gA_sI, gA_tA, if_neg hm.n_nw_ah, gA_tA, if_pos rfl]
    have eQ : gA (sI (tA (tA d2 nw (cpF (gA d2 nw) (gA d2 kr) 0 194)) ah (cpF (gA d2 ah) (gA d2 ka) 0 1552)) 299 m (gI d2 302 m)) ah = cpF (gA d2 ah) (gA d2 ka) 0 1552 := by rw [gA_sI, gA_tA, if_pos rfl]
    have hw : ∀ i, i < k' → ∀ j, j < 194 → rwA (gA d2 ka) i j = rwA (cpF (gA d2 ah) (gA d2 ka) 0 1552) i j := fun i hi j hj => cp_lt (h := gA d2 ka) (show 194 * i + j < 1552 by omega)
    refine CR_mk (agR_tr (agR_scB hx.inj hx.scV) (agR_tr (agR_sI (f := 194) (by decide)) i3)) (agN_tr (agN_nw hm _) (agN_tr (agN_ah hm _) (agN_sI (by decide)))) ?_ ⟨k', ?_, (gI_eq _ _ _ _).trans q2⟩ ?_ hc
    · refine ⟨fun i hi => ?_, fun i hi => ?_, fun i hi => ?_, fun i j hi hj hn => ?_, fun i j hi hj hn => ?_, fun i j hi hj => ?_⟩
      · rw [ep, i1]; exact p1 i hi
      · rw [ep, i1]; exact p2 i hi
      · rw [ep, ep]; exact p3 i hi
      · rw [ep, ep]; exact p4 i j hi hj hn
      · rw [ep, ep]; exact p5 i j hi hj hn
      · rw [ep, ep]; exact p6 i j hi hj
    · rw [eK, eQ]
      refine ⟨by rw [i2 _ _ (by decide) (by decide), gI_eq], b2, sR_cg (fun j hj => cp_lt hj) (i4 sc _ hx.scV (fun j hj => (q3 j hj).symm) (sR_sI (by decide) (sR_scB_at hx.inj hx.scV hx.kcV c3))), vR_cg (fun j hj => cp_lt hj) c4, fun i hi => ?_⟩
      rw [ep]
      exact ⟨sR_cg (hw i hi) (i6 i _ (by omega) (by omega) (sR_sI (by decide) (sR_scB_ne hx.inj hx.scV (p2 i (by omega)).2 (q4 i (by omega)) (c5 i hi).1))), vR_cg (hw i hi) (c5 i hi).2⟩
    · rw [eA kr hm.n_kp_nw hm.n_kp_ah, eA ka hm.n_ka_nw hm.n_ka_ah, gI_ne (show 302 ≠ 299 by decide)]
      refine keR_st (d := d1) ?_ ?_ (i1 kq) (fun w => sn kc w hx.kcV hx.n3.symm (fun j hj => (q5 j hj).symm)) (fun i w hi => sn _ w (p2 i hi).2 (q4 i hi) (fun j hj => (p6 j i hj hi).symm)) r3
      · rw [i2 _ _ (by decide) (by decide), gI_ne (by decide), gI_scBz _ _ _ _ _ _ (by decide) (by decide)]
      · rw [i2 _ _ (by decide) (by decide), gI_sI, if_neg (fun q => hx.n4 q.2.symm), gI_scBz _ _ _ _ _ _ (by decide) (by decide)]
end
