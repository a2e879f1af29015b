section
variable {Z Z2 : mZ} {d1 d2 : mD} {x st kp tp sr ha fi sp sh sc pa kc kq le dt mo ne m nw od fd tr rd ah kr ka ln sz it mv : Nat}
theorem k_drop (hx : clS Z x st kp tp sr ha fi sp sh sc pa kc kq le dt mo ne) (hm : mdS Z2 m nw od fd tr rd ah kr ka ln sz it mv) (v : Int32) (hr : CR Z d1 d2 x st kp tp sh sc pa kc kq le m nw od tr ah kr ka ln sz it) : CR Z (droD d1 sh v) (rdrD d2 ln v) x st kp tp sh sc pa kc kq le m nw od tr ah kr ka ln sz it := by
  unfold droD rdrD
  obtain ⟨n, t1, t2, t3, t4, t5⟩ := hr.2.2.2.1
  obtain ⟨s1, s2, s3⟩ := hr.2.2.2.2.2
  by_cases hv : wthn v 0 3
  · have h9 := wth_nI 3 (by decide) hv
    have hv4 : tN v < 4 := by omega
    have sv := (s3 (tN v) hv4).1
    by_cases hh : gI d1 161 (psO d1 sh (tN v)) = 0
    · rw [if_neg (fun q => q.2 hh), if_neg (show ¬ (wthn v 0 3 ∧ 0 ≤ gA d2 ln (tN v)) from fun q => absurd q.2 (Int32.not_le.mpr (sv.mp hh)))]
      exact hr
    · rw [if_pos ⟨hv, hh⟩, if_pos (show wthn v 0 3 ∧ 0 ≤ gA d2 ln (tN v) from ⟨hv, Int32.not_lt.mp (fun q => hh (sv.mpr q))⟩)]
      refine CR_agS (d1 := d1) (d2 := d2) hx ⟨fun s hs _ => ⟨rfl, rfl, gI_ne (by decide) _ _ _ _, gI_ne (by decide) _ _ _ _⟩, fun a => ⟨gI_ne (by decide) _ _ _ _, gI_ne (by decide) _ _ _ _⟩, fun _ => rfl⟩ ?_ ?_ ?_ ?_ ?_ rfl rfl ⟨n, ?_⟩ ?_ hr
      · rw [gA_tA, if_neg hm.n_nw_ln]
      · rw [gA_tA, if_neg hm.n_od_ln]
      · rw [gA_tA, if_neg hm.n_ah_ln]
      · rw [gA_tA, if_neg hm.n_kp_ln]
      · rw [gA_tA, if_neg hm.n_ka_ln]
      · refine ⟨by rw [gI_ne (by decide)]; exact t1, t2, t3, ?_, ?_⟩
        · rw [gA_tA, if_neg hm.n_tp_ln]; exact t4
        · rw [gA_tA, if_neg hm.n_tp_ln]; exact t5
      · refine ⟨s1, s2, fun i hi => ?_⟩
        obtain ⟨u1, u2, u3, u4⟩ := s3 i hi
        have e0 : psO (sI d1 161 (psO d1 sh (tN v)) 0) sh i = psO d1 sh i := rfl
        have e2 : ∀ a, gI (sI d1 161 (psO d1 sh (tN v)) 0) 162 a = gI d1 162 a := fun a => gI_ne (by decide) _ _ _ _
        have e3 : ∀ a, gI (sI d1 161 (psO d1 sh (tN v)) 0) 163 a = gI d1 163 a := fun a => gI_ne (by decide) _ _ _ _
        have e4 : gA (tA d2 ln (upd (gA d2 ln) (tN v) (-1))) ln i = if i = tN v then -1 else gA d2 ln i := by rw [gA_tA, if_pos rfl]; rfl
        have e5 : gA (tA d2 ln (upd (gA d2 ln) (tN v) (-1))) sz i = gA d2 sz i := by rw [gA_tA, if_neg hm.n_sz_ln]
        rw [e0, e2, e3, e4, e5]
        by_cases hi9 : i = tN v
        · subst hi9
          rw [gI_eq, if_pos rfl]
          exact ⟨⟨fun _ => by decide, fun _ => rfl⟩, fun q => absurd rfl q, u3, u4⟩
        · rw [gI_sI, if_neg (fun q => s2 i (tN v) hi hv4 hi9 q.2), if_neg hi9]
          exact ⟨u1, u2, u3, u4⟩
  · rw [if_neg (fun q => hv q.1), if_neg (show ¬ (wthn v 0 3 ∧ 0 ≤ gA d2 ln (tN v)) from fun q => hv q.1)]
    exact hr
end
