section
variable {Z Z2 : mZ} {d1 d2 : mD} {x st kp tp sr ha fi sp sh sc pa kc kq le dt mo ne m nw od fd tr rd ah kr ka ln sz it mv : Nat}
theorem spn_sum {z : Nat} {i n : Int32} (hz : z ≤ 24) (h2 : 0 ≤ n) : spn (nI z) i n ↔ (0 ≤ i ∧ i.toInt64 + n.toInt64 ≤ (nI z).toInt64) := by
  constructor
  · intro h
    refine ⟨h.1, ?_⟩
    have t := spn_nI hz h
    rw [t.1, t.2.1, Int64.le_iff_toInt_le, Int64.toInt_add, Int32.toInt_toInt64, Int32.toInt_toInt64, Int32.toInt_toInt64, nI_toInt (by omega), nI_toInt (by omega), nI_toInt (by omega), Int.bmod_eq_of_le (by omega) (by omega)]
    omega
  · intro h
    have t := lsum_nI hz h.1 h2 h.2
    refine ⟨h.1, h2, ?_, ?_⟩
    · rw [t.1]; exact (nI_leI (by omega) (by omega)).mpr (by omega)
    · rw [t.1, t.2.1, pk_sub (by omega)]; exact (nI_leI (by omega) (by omega)).mpr (by omega)
theorem e_copy (hr : CR Z d1 d2 x st kp tp sh sc pa kc kq le m nw od tr ah kr ka ln sz it) (u i v j n : Int32) : copR d1 sh u i v j n = rcyR d2 ln sz u i v j n := by
  obtain ⟨_, _, _, _, _, r6⟩ := hr
  unfold copR rcyR
  by_cases hw : wthn u 0 3 ∧ wthn v 0 3
  · rw [if_pos hw, if_pos hw]
    have hu := wth_nI 3 (by decide) hw.1
    have hv := wth_nI 3 (by decide) hw.2
    obtain ⟨s1, s2, ⟨z, hz, s3, s4⟩, _⟩ := r6.2.2 (tN u) (by omega)
    obtain ⟨t1, t2, ⟨y, hy, t3, t4⟩, _⟩ := r6.2.2 (tN v) (by omega)
    by_cases hb : copB d1 sh u v
    · rw [if_pos hb, if_pos (hb.elim (fun q => Or.inl (s1.mp q)) (fun q => Or.inr (t1.mp q)))]
    · have h1 : ¬ gI d1 161 (psO d1 sh (tN u)) = 0 := fun q => hb (Or.inl q)
      have h2 : ¬ gI d1 161 (psO d1 sh (tN v)) = 0 := fun q => hb (Or.inr q)
      rw [if_neg hb, if_neg (show ¬ rcB d2 ln u v from fun q => q.elim (fun r => h1 (s1.mpr r)) (fun r => h2 (t1.mpr r))), s2 h1, t2 h2]
      by_cases hl : gA d2 ln (tN u) = gA d2 ln (tN v)
      · rw [if_pos hl, if_pos hl]
        have key : copS d1 sh u i v j n ↔ rcP d2 sz u i v j n := by
          unfold copS rcP
          rw [s3, s4, t3, t4]
          by_cases hn : 0 ≤ n
          · rw [spn_sum hz hn, spn_sum hy hn]
            exact ⟨fun q => ⟨hn, q.1.1, q.2.1, q.1.2, q.2.2⟩, fun q => ⟨⟨q.2.1, q.2.2.2.1⟩, q.2.2.1, q.2.2.2.2⟩⟩
          · exact ⟨fun q => absurd q.1.2.1 hn, fun q => absurd q.1 hn⟩
        by_cases hk : copS d1 sh u i v j n
        · rw [if_pos hk, if_pos (key.mp hk)]
        · rw [if_neg hk, if_neg (fun q => hk (key.mpr q))]
      · rw [if_neg hl, if_neg hl]
  · rw [if_neg hw, if_neg hw]
end
