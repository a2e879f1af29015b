section
variable {Z Z2 : mZ} {d1 d2 : mD} {x st kp tp sr ha fi sp sh sc pa kc kq le dt mo ne m nw od fd tr rd ah kr ka ln sz it mv : Nat}
theorem k_type (hx : clS Z x st kp tp sr ha fi sp sh sc pa kc kq le dt mo ne) (hm : mdS Z2 m nw od fd tr rd ah kr ka ln sz it mv) {n : Nat} (ht : tpR d1 d2 tp le m tr n) (c : Int32) (hr : CR Z d1 d2 x st kp tp sh sc pa kc kq le m nw od tr ah kr ka ln sz it) : CR Z (tyD d1 tp le n c) (rtyD d2 m tr n c) x st kp tp sh sc pa kc kq le m nw od tr ah kr ka ln sz it := by
  obtain ⟨t1, t2, t3, t4, t5⟩ := ht
  unfold tyD rtyD adD
  by_cases hw : wthn c 32 126
  · rw [if_neg (fun q => q.elim (Int32.not_lt.mpr hw.1) (fun r => r hw.2))]
    by_cases hn : n < 120
    · rw [if_pos hn, if_pos ⟨hw, by omega⟩]
      have hr6 := hr.2.2.2.2.2
      have hc : 32 ≤ c.toInt ∧ c.toInt ≤ 126 := by
        have a1 := hw.1
        have a2 := hw.2
        rw [ma_le, show (32 : Int32).toInt = 32 by decide] at a1
        rw [ma_le, show (126 : Int32).toInt = 126 by decide] at a2
        exact ⟨a1, a2⟩
      refine CR_agS (d1 := d1) (d2 := d2) hx ⟨fun s hs _ => ?_, fun a => ⟨gI_ne (by decide) _ _ _ _, gI_ne (by decide) _ _ _ _⟩, fun _ => rfl⟩ ?_ ?_ ?_ ?_ ?_ (gI_ne (by decide) _ _ _ _) (gI_ne (by decide) _ _ _ _) ⟨n + 1, ?_⟩ ?_ hr
      · have := hx.inj.2.2.2.1 s hs
        exact ⟨by rw [gA_sI, gA_tA, if_neg this.1], by rw [gA_sI, gA_tA, if_neg this.2.2.2.2.1], gI_ne (by decide) _ _ _ _, gI_ne (by decide) _ _ _ _⟩
      · rw [gA_sI, gA_tA, if_neg hm.n_nw_tp]
      · rw [gA_sI, gA_tA, if_neg hm.n_od_tp]
      · rw [gA_sI, gA_tA, if_neg hm.n_ah_tp]
      · rw [gA_sI, gA_tA, if_neg hm.n_kp_tp]
      · rw [gA_sI, gA_tA, if_neg hm.n_ka_tp]
      · refine ⟨gI_eq _ _ _ _, gI_eq _ _ _ _, by omega, fun i hi => ?_, fun i hi => ?_⟩
        · rw [gA_sI, gA_tA, if_pos rfl, gA_sI, gA_tA, if_pos rfl]
          unfold upd
          by_cases h9 : i = n
          · rw [if_pos h9, if_pos h9]
          · rw [if_neg h9, if_neg h9]; exact t4 i (by omega)
        · rw [gA_sI, gA_tA, if_pos rfl]
          unfold upd
          by_cases h9 : i = n
          · rw [if_pos h9]; exact hc
          · rw [if_neg h9]; exact t5 i (by omega)
      · obtain ⟨s1, s2, s3⟩ := hr6
        refine ⟨s1, s2, fun i hi => ?_⟩
        have := s3 i hi
        show (gI (sI (tA d1 le _) 225 tp _) 161 (psO d1 sh i) = 0 ↔ gA (sI (tA d2 tr _) 295 m _) ln i < 0) ∧ (¬ gI (sI (tA d1 le _) 225 tp _) 161 (psO d1 sh i) = 0 → gI (sI (tA d1 le _) 225 tp _) 162 (psO d1 sh i) = gA (sI (tA d2 tr _) 295 m _) ln i) ∧ (∃ z, z ≤ 24 ∧ gI (sI (tA d1 le _) 225 tp _) 163 (psO d1 sh i) = nI z ∧ gA (sI (tA d2 tr _) 295 m _) sz i = nI z) ∧ _
        rw [gI_ne (by decide), gI_ne (by decide), gI_ne (by decide), gA_sI, gA_tA, if_neg hm.n_ln_tp, gA_sI, gA_tA, if_neg hm.n_sz_tp]
        exact this
    · rw [if_neg hn, if_neg (fun q => by have := q.2; omega)]
      exact hr
  · have hb : c < 32 ∨ ¬ c ≤ 126 := by
      by_cases h1 : c < 32
      · exact Or.inl h1
      · exact Or.inr (fun q => hw ⟨Int32.not_lt.mp h1, q⟩)
    rw [if_pos hb, if_neg (show ¬ (wthn c 32 126 ∧ ¬ n = 120) from fun q => hw q.1)]
    exact hr
end
