theorem filJ_at (v : Int64) : ∀ n i f j, filJ v f n i j = if i ≤ j ∧ j < i + n then v else f j
  | 0, i, f, j => by rw [if_neg (by omega)]; rfl
  | n + 1, i, f, j => by
    show filJ v (vp_updL f i v) n (i + 1) j = _
    rw [filJ_at v n (i + 1)]
    unfold vp_updL
    by_cases h1 : j = i
    · subst h1
      rw [if_neg (by omega), if_pos rfl, if_pos (by omega)]
    · by_cases h2 : i + 1 ≤ j ∧ j < i + 1 + n
      · rw [if_pos h2, if_pos (by omega)]
      · rw [if_neg h2, if_neg h1, if_neg (by omega)]
section
variable {Z Z2 : mZ} {d1 d2 e1 e2 : mD} {x st kp tp sr ha fi sp sh sc pa kc kq le dt mo ne m nw od fd tr rd ah kr ka ln sz it mv : Nat}
theorem CR_sh (hx : clS Z x st kp tp sr ha fi sp sh sc pa kc kq le dt mo ne) (hm : mdS Z2 m nw od fd tr rd ah kr ka ln sz it mv) (h : agS Z sp d1 e1) (t1 : gA e1 le = gA d1 le) (t2 : gI e1 225 tp = gI d1 225 tp) (g : ∀ b, b ≠ ln → b ≠ sz → gA e2 b = gA d2 b) (g' : ∀ f, gI e2 f m = gI d2 f m) (hs : shR Z e1 e2 sh ln sz it) (hr : CR Z d1 d2 x st kp tp sh sc pa kc kq le m nw od tr ah kr ka ln sz it) : CR Z e1 e2 x st kp tp sh sc pa kc kq le m nw od tr ah kr ka ln sz it := by
  obtain ⟨n, u1, u2, u3, u4, u5⟩ := hr.2.2.2.1
  refine CR_agS hx h (g nw hm.n_nw_ln hm.n_nw_sz) (g od hm.n_od_ln hm.n_od_sz) (g ah hm.n_ah_ln hm.n_ah_sz) (g kr hm.n_kp_ln hm.n_kp_sz) (g ka hm.n_ka_ln hm.n_ka_sz) (g' 299) (g' 302) ⟨n, t2.trans u1, (g' 295).trans u2, u3, ?_, ?_⟩ hs hr
  · rw [t1, g tr hm.n_tp_ln hm.n_tp_sz]; exact u4
  · rw [g tr hm.n_tp_ln hm.n_tp_sz]; exact u5
theorem iA_ne (hI : oI Z) (hs : shR Z d1 d2 sh ln sz it) {i j : Nat} (hi : i < 4) (hj : j < 4) (hn : i ≠ j) : iA Z (psO d1 sh i) ≠ iA Z (psO d1 sh j) := fun e => by
  have a1 := (hs.1 i hi).2.2.1
  have a2 := (hs.1 j hj).2.2.1
  rw [e] at a1
  exact hs.2.1 i j hi hj hn (hI.2 _ _ _ _ _ a1 a2).2
theorem agS_tJ (a : Nat) (f : Nat → Int64) : agS Z sp d1 (tJ d1 a f) := ⟨fun _ _ _ => ⟨rfl, rfl, rfl, rfl⟩, fun _ => ⟨rfl, rfl⟩, fun _ => rfl⟩
/-- items of one sheet change -/
theorem shR_tJ (hI : oI Z) (hs : shR Z d1 d2 sh ln sz it) {v : Nat} (hv : v < 4) {f g : Nat → Int64} (h1 : ∀ j, j < 24 → f j = g (24 * v + j)) (h2 : ∀ j, ¬ (24 * v ≤ j ∧ j < 24 * v + 24) → g j = gJ d2 it j) (h3 : gJ e2 it = g) (h4 : gA e2 ln = gA d2 ln) (h5 : gA e2 sz = gA d2 sz) : shR Z (tJ d1 (iA Z (psO d1 sh v)) f) e2 sh ln sz it := by
  obtain ⟨s1, s2, s3⟩ := id hs
  refine ⟨s1, s2, fun i hi => ?_⟩
  obtain ⟨u1, u2, u3, u4⟩ := s3 i hi
  rw [h4, h5, h3]
  refine ⟨u1, u2, u3, fun j hj => ?_⟩
  show gJ (tJ d1 (iA Z (psO d1 sh v)) f) (iA Z (psO d1 sh i)) j = _
  rw [gJ_tJ]
  by_cases he : i = v
  · subst he
    rw [if_pos rfl]; exact h1 j hj
  · rw [if_neg (iA_ne hI hs hi hv he), h2 _ (by omega)]; exact u4 j hj
theorem k_sheet (hx : clS Z x st kp tp sr ha fi sp sh sc pa kc kq le dt mo ne) (hI : oI Z) (hm : mdS Z2 m nw od fd tr rd ah kr ka ln sz it mv) (v la n : Int32) (hr : CR Z d1 d2 x st kp tp sh sc pa kc kq le m nw od tr ah kr ka ln sz it) : CR Z (sheD Z d1 sh v la n) (rsfD d2 ln sz it v la n) x st kp tp sh sc pa kc kq le m nw od tr ah kr ka ln sz it := by
  unfold sheD rsfD
  by_cases h : sheP v la n ∧ 0 ≤ n
  · rw [if_pos h, if_pos h]
    have hs := hr.2.2.2.2.2
    obtain ⟨s1, s2, s3⟩ := id hs
    have hv := wth_nI 3 (by decide) h.1.1.1
    have hv4 : tN v < 4 := by omega
    have hn := wth_nI 24 (by decide) (v := n) ⟨h.2, h.1.2⟩
    have hla : ¬ la < 0 := Int32.not_lt.mpr h.1.1.2.1
    unfold shB
    refine CR_sh (d1 := d1) (d2 := d2) hx hm ⟨fun s _ _ => ⟨rfl, rfl, ?_, ?_⟩, fun a => ⟨?_, ?_⟩, fun _ => rfl⟩ rfl ?_ (fun b h1 h2 => ?_) (fun f => rfl) ?_ hr
    · rw [gI_tJ, gI_ne (by decide), gI_ne (by decide), gI_ne (by decide)]
    · rw [gI_tJ, gI_ne (by decide), gI_ne (by decide), gI_ne (by decide)]
    · rw [gI_tJ, gI_ne (by decide), gI_ne (by decide), gI_ne (by decide)]
    · rw [gI_tJ, gI_ne (by decide), gI_ne (by decide), gI_ne (by decide)]
    · rw [gI_tJ, gI_ne (by decide), gI_ne (by decide), gI_ne (by decide)]
    · show gA (tA (tA d2 ln _) sz _) b = _
      rw [gA_tA, if_neg h2, gA_tA, if_neg h1]
    · refine ⟨s1, s2, fun i hi => ?_⟩
      obtain ⟨u1, u2, u3, u4⟩ := s3 i hi
      have el : ∀ q, gA (tJ (tA (tA d2 ln (upd (gA d2 ln) (tN v) la)) sz (upd (gA d2 sz) (tN v) n)) it q) ln i = if i = tN v then la else gA d2 ln i := fun q => by
        show gA (tA (tA d2 ln _) sz _) ln i = _
        rw [gA_tA, if_neg hm.n_ln_sz, gA_tA, if_pos rfl]; rfl
      have es : ∀ q, gA (tJ (tA (tA d2 ln (upd (gA d2 ln) (tN v) la)) sz (upd (gA d2 sz) (tN v) n)) it q) sz i = if i = tN v then n else gA d2 sz i := fun q => by
        show gA (tA (tA d2 ln _) sz _) sz i = _
        rw [gA_tA, if_pos rfl]; rfl
      have e0 : psO (tJ (sI (sI (sI d1 161 (psO d1 sh (tN v)) 1) 162 (psO d1 sh (tN v)) la) 163 (psO d1 sh (tN v)) n) (iA Z (psO d1 sh (tN v))) (filJ 0 (gJ d1 (iA Z (psO d1 sh (tN v)))) 24 0)) sh i = psO d1 sh i := rfl
      rw [e0, el, es, gI_tJ, gI_tJ, gI_tJ, gJ_tJ, gJ_tJ, if_pos (show it = it from rfl)]
      by_cases hi9 : i = tN v
      · subst hi9
        rw [gI_ne (by decide), gI_ne (by decide), gI_eq, gI_ne (by decide), gI_eq, gI_eq, if_pos rfl, if_pos rfl, if_pos rfl]
        refine ⟨⟨fun q => absurd q (by decide), fun q => absurd q hla⟩, fun _ => rfl, ⟨tN n, hn.2, hn.1, hn.1⟩, fun j hj => ?_⟩
        rw [filJ_at, if_pos (by omega)]
        unfold cpJ
        rw [if_pos (by omega)]
      · have hne := s2 i (tN v) hi hv4 hi9
        have g9 : ∀ (e : mD) (f g : Nat) (w : Int32), gI (sI e f (psO d1 sh (tN v)) w) g (psO d1 sh i) = gI e g (psO d1 sh i) := fun e f g w => by rw [gI_sI, if_neg (fun q => hne q.2)]
        rw [if_neg hi9, if_neg hi9, if_neg (iA_ne hI hs hi hv4 hi9), g9, g9, g9, g9, g9, g9, g9, g9, g9]
        refine ⟨u1, u2, u3, fun j hj => ?_⟩
        unfold cpJ
        rw [if_neg (by omega)]
        exact u4 j hj
  · rw [if_neg h, if_neg h]; exact hr
/-- what a reach that isn't refused says -/
theorem rfS_0 {v la i n : Int32} (h : rfS d1 sh v la i n = 0) : ¬ gI d1 161 (psO d1 sh (tN v)) = 0 ∧ gI d1 162 (psO d1 sh (tN v)) = la ∧ spn (gI d1 163 (psO d1 sh (tN v))) i n := by
  unfold rfS refI at h
  by_cases h1 : gI d1 161 (psO d1 sh (tN v)) = 0
  · rw [if_pos h1] at h; exact absurd h (by decide)
  · rw [if_neg h1] at h
    by_cases h2 : gI d1 162 (psO d1 sh (tN v)) = la
    · rw [if_pos h2] at h
      by_cases h3 : spn (gI d1 163 (psO d1 sh (tN v))) i n
      · exact ⟨h1, h2, h3⟩
      · rw [if_neg h3] at h; exact absurd h (by decide)
    · rw [if_neg h2] at h; exact absurd h (by decide)
theorem rfS_why (hr : CR Z d1 d2 x st kp tp sh sc pa kc kq le m nw od tr ah kr ka ln sz it) {v la i n : Int32} (hv : wthn v 0 3) (hn : 0 ≤ n) : rfS d1 sh v la i n = 0 ↔ 0 ≤ whS d2 ln sz v la i n := by
  rw [ref_why hr hv hn, whS_neg]
/-- the places reached lie in the sheet -/
theorem rfS_in (hr : CR Z d1 d2 x st kp tp sh sc pa kc kq le m nw od tr ah kr ka ln sz it) {v la i n : Int32} (hv : wthn v 0 3) (h : rfS d1 sh v la i n = 0) : tN i + tN n ≤ 24 := by
  have hv9 := wth_nI 3 (by decide) hv
  obtain ⟨_, _, ⟨z, hz, s3, _⟩, _⟩ := hr.2.2.2.2.2.2.2 (tN v) (by omega)
  have h3 := (rfS_0 h).2.2
  rw [s3] at h3
  have t := spn_nI hz h3
  have := t.2.2
  omega
theorem k_item (hx : clS Z x st kp tp sr ha fi sp sh sc pa kc kq le dt mo ne) (hI : oI Z) (hm : mdS Z2 m nw od fd tr rd ah kr ka ln sz it mv) (v la i : Int32) (y : Int64) (hr : CR Z d1 d2 x st kp tp sh sc pa kc kq le m nw od tr ah kr ka ln sz it) : CR Z (iteD Z d1 sh v la i y) (ritD d2 ln sz it v la i y) x st kp tp sh sc pa kc kq le m nw od tr ah kr ka ln sz it := by
  unfold iteD ritD
  by_cases h : (wthn v 0 3 ∧ wthn la 0 3) ∧ rfS d1 sh v la i 1 = 0
  · rw [if_pos h, if_pos ⟨h.1, (rfS_why hr h.1.1 (by decide)).mp h.2⟩]
    have hs := hr.2.2.2.2.2
    have hv := wth_nI 3 (by decide) h.1.1
    have hv4 : tN v < 4 := by omega
    have h24 := rfS_in hr h.1.1 h.2
    rw [show tN 1 = 1 by decide] at h24
    rw [(rfS_0 h.2).2.1]
    refine CR_sh (d1 := d1) (d2 := d2) hx hm (agS_tJ _ _) rfl rfl (fun b _ _ => rfl) (fun f => rfl) (shR_tJ hI hs hv4 (g := vp_updL (gJ d2 it) (24 * tN v + tN i) (cutL la y)) (fun j hj => ?_) (fun j hj => ?_) (by rw [gJ_tJ, if_pos rfl]) rfl rfl) hr
    · unfold vp_updL
      by_cases h9 : j = tN i
      · rw [if_pos h9, if_pos (by omega)]
      · rw [if_neg h9, if_neg (by omega)]; exact (hs.2.2 (tN v) hv4).2.2.2 j hj
    · unfold vp_updL
      rw [if_neg (by omega)]
  · rw [if_neg h, if_neg (fun q => h ⟨q.1, (rfS_why hr q.1.1 (by decide)).mpr q.2⟩)]; exact hr
theorem k_copy (hx : clS Z x st kp tp sr ha fi sp sh sc pa kc kq le dt mo ne) (hI : oI Z) (hm : mdS Z2 m nw od fd tr rd ah kr ka ln sz it mv) (u i v j n : Int32) (hr : CR Z d1 d2 x st kp tp sh sc pa kc kq le m nw od tr ah kr ka ln sz it) : CR Z (copD Z d1 sh u i v j n) (rcyD d2 ln sz it mv u i v j n) x st kp tp sh sc pa kc kq le m nw od tr ah kr ka ln sz it := by
  have key : ((wthn u 0 3 ∧ wthn v 0 3) ∧ ¬ copB d1 sh u v ∧ gI d1 162 (psO d1 sh (tN u)) = gI d1 162 (psO d1 sh (tN v)) ∧ copS d1 sh u i v j n) ↔ ((wthn u 0 3 ∧ wthn v 0 3) ∧ ¬ rcB d2 ln u v ∧ gA d2 ln (tN u) = gA d2 ln (tN v) ∧ rcP d2 sz u i v j n) := by
    by_cases hw : wthn u 0 3 ∧ wthn v 0 3
    · have hu := wth_nI 3 (by decide) hw.1
      have hv := wth_nI 3 (by decide) hw.2
      obtain ⟨s1, s2, ⟨z, hz, s3, s4⟩, _⟩ := hr.2.2.2.2.2.2.2 (tN u) (by omega)
      obtain ⟨t1, t2, ⟨y, hy, t3, t4⟩, _⟩ := hr.2.2.2.2.2.2.2 (tN v) (by omega)
      have hB : copB d1 sh u v ↔ rcB d2 ln u v := ⟨fun q => q.elim (fun r => Or.inl (s1.mp r)) (fun r => Or.inr (t1.mp r)), fun q => q.elim (fun r => Or.inl (s1.mpr r)) (fun r => Or.inr (t1.mpr r))⟩
      have hS : copS d1 sh u i v j n ↔ rcP d2 sz u i v j n := by
        unfold copS rcP
        rw [s3, s4, t3, t4]
        by_cases hn : 0 ≤ n
        · rw [spn_sum hz hn, spn_sum hy hn]
          exact ⟨fun q => ⟨hn, q.1.1, q.2.1, q.1.2, q.2.2⟩, fun q => ⟨⟨q.2.1, q.2.2.2.1⟩, q.2.2.1, q.2.2.2.2⟩⟩
        · exact ⟨fun q => absurd q.1.2.1 hn, fun q => absurd q.1 hn⟩
      by_cases hb : copB d1 sh u v
      · exact ⟨fun q => absurd hb q.2.1, fun q => absurd (hB.mp hb) q.2.1⟩
      · have h1 : ¬ gI d1 161 (psO d1 sh (tN u)) = 0 := fun q => hb (Or.inl q)
        have h2 : ¬ gI d1 161 (psO d1 sh (tN v)) = 0 := fun q => hb (Or.inr q)
        rw [s2 h1, t2 h2, hS, hB]
    · exact ⟨fun q => absurd q.1 hw, fun q => absurd q.1 hw⟩
  unfold copD rcyD
  by_cases h : (wthn u 0 3 ∧ wthn v 0 3) ∧ ¬ copB d1 sh u v ∧ gI d1 162 (psO d1 sh (tN u)) = gI d1 162 (psO d1 sh (tN v)) ∧ copS d1 sh u i v j n
  · rw [if_pos h, if_pos (key.mp h)]
    have hs := hr.2.2.2.2.2
    have hu := wth_nI 3 (by decide) h.1.1
    have hu4 : tN u < 4 := by omega
    have hv := wth_nI 3 (by decide) h.1.2
    have hv4 : tN v < 4 := by omega
    obtain ⟨_, _, ⟨z, hz, s3, _⟩, sj⟩ := hs.2.2 (tN u) (by omega)
    obtain ⟨_, _, ⟨y, hy, t3, _⟩, tj⟩ := hs.2.2 (tN v) (by omega)
    have p1 := h.2.2.2.1
    have p2 := h.2.2.2.2
    rw [s3] at p1
    rw [t3] at p2
    have q1 := (spn_nI hz p1).2.2
    have q2 := (spn_nI hy p2).2.2
    refine CR_sh (d1 := d1) (d2 := d2) hx hm (agS_tJ _ _) rfl rfl (fun b _ _ => rfl) (fun f => rfl) (shR_tJ hI hs hv4 (g := cpJ (gJ d2 it) (fun k => gJ d2 it (24 * tN u + tN i + k)) (24 * tN v + tN j) (tN n)) (fun t ht => ?_) (fun t ht => ?_) (by rw [gJ_tJ, if_pos rfl]) rfl rfl) hr
    · unfold va_cpy cpJ
      by_cases h9 : tN j ≤ t ∧ t < tN j + tN n
      · rw [if_pos h9, if_pos (by omega), sj _ (by omega)]
        show _ = gJ d2 it (24 * tN u + tN i + (24 * tN v + t - (24 * tN v + tN j)))
        congr 1; omega
      · rw [if_neg h9, if_neg (by omega)]; exact tj t ht
    · unfold cpJ
      rw [if_neg (by omega)]
  · rw [if_neg h, if_neg (fun q => h (key.mpr q))]; exact hr
end
