section
variable {Z Z2 : mZ} {d1 d2 : mD} {x st kp tp sr ha fi sp sh sc pa kc kq le dt mo ne m nw od fd tr rd ah kr ka ln sz it mv : Nat}
/-- what refuses a row of items, as both tell it -/
theorem ref_why (hr : CR Z d1 d2 x st kp tp sh sc pa kc kq le m nw od tr ah kr ka ln sz it) {v la i n : Int32} (hv : wthn v 0 3) (hn : 0 ≤ n) : rfS d1 sh v la i n = whS d2 ln sz v la i n := by
  obtain ⟨_, _, _, _, _, r6⟩ := hr
  have h9 := wth_nI 3 (by decide) hv
  obtain ⟨s1, s2, ⟨z, hz, s3, s4⟩, _⟩ := r6.2.2 (tN v) (by omega)
  unfold rfS refI whS whyI
  by_cases h : gI d1 161 (psO d1 sh (tN v)) = 0
  · rw [if_pos h, if_neg (Int32.not_le.mpr (s1.mp h))]
  · rw [if_neg h, if_pos (Int32.not_lt.mp (fun q => h (s1.mpr q))), s2 h, s3, s4]
    by_cases hl : gA d2 ln (tN v) = la
    · rw [if_pos hl, if_pos hl]
      by_cases hs : spn (nI z) i n
      · rw [if_pos hs, if_neg (fun q => q.elim (fun r => absurd hs.1 (Int32.not_le.mpr r)) (fun r => r hs.2.2.2))]
      · rw [if_neg hs, if_pos]
        by_cases hi : i < 0
        · exact Or.inl hi
        · refine Or.inr (fun q => hs ⟨Int32.not_lt.mp hi, hn, ?_, q⟩)
          have h3 := why_nI hz (Int32.not_lt.mp hi) hn q
          rw [h3.1]
          exact (nI_leI (by omega) (by omega)).mpr (by omega)
    · rw [if_neg hl, if_neg hl]
theorem why_neg (la s lane i n : Int32) : (0 ≤ whyI la s lane i n ↔ whyI la s lane i n = 0) := by
  unfold whyI
  split
  · split
    · split
      · exact ⟨fun h => absurd h (by decide), fun h => absurd h (by decide)⟩
      · exact ⟨fun _ => rfl, fun _ => by decide⟩
    · exact ⟨fun h => absurd h (by decide), fun h => absurd h (by decide)⟩
  · exact ⟨fun h => absurd h (by decide), fun h => absurd h (by decide)⟩
theorem whS_neg (d : mD) (l9 s9 : Nat) (v la i n : Int32) : (0 ≤ whS d l9 s9 v la i n ↔ whS d l9 s9 v la i n = 0) := why_neg _ _ _ _ _
theorem e_item (hr : CR Z d1 d2 x st kp tp sh sc pa kc kq le m nw od tr ah kr ka ln sz it) (v la i : Int32) : iteR d1 sh v la i = ritR d2 ln sz v la i := by
  unfold iteR ritR
  by_cases hw : wthn v 0 3 ∧ wthn la 0 3
  · rw [if_pos hw, if_pos hw, ref_why hr hw.1 (by decide)]
    by_cases h0 : whS d2 ln sz v la i 1 = 0
    · rw [if_pos h0, if_pos ((whS_neg _ _ _ _ _ _ _).mpr h0)]
    · rw [if_neg h0, if_neg (fun q => h0 ((whS_neg _ _ _ _ _ _ _).mp q))]
  · rw [if_neg hw, if_neg hw]
theorem e_film (hr : CR Z d1 d2 x st kp tp sh sc pa kc kq le m nw od tr ah kr ka ln sz it) (n v la i : Int32) : filR d1 sh n v la i = rfmR d2 ln sz n v la i := by
  unfold filR rfmR
  by_cases hw : filP n v la
  · rw [if_pos hw, if_pos hw, ref_why hr hw.1.2 (w16 hw.1.1).2.2.2]
    by_cases h0 : whS d2 ln sz v la i n = 0
    · rw [if_pos h0, if_pos ((whS_neg _ _ _ _ _ _ _).mpr h0)]
    · rw [if_neg h0, if_neg (fun q => h0 ((whS_neg _ _ _ _ _ _ _).mp q))]
  · rw [if_neg hw, if_neg hw]
end
