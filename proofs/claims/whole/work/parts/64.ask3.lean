section
variable {Z Z2 : mZ} {d1 d2 : mD} {x st kp tp sr ha fi sp sh sc pa kc kq le dt mo ne m nw od fd tr rd ah kr ka ln sz it mv : Nat}
theorem e_type {n : Nat} (hn : n ≤ 120) (c : Int32) : tyR n c = rtyR n c := by
  unfold tyR rtyR
  by_cases h : wthn c 32 126
  · rw [if_neg (fun q => q.elim (Int32.not_lt.mpr h.1) (fun r => r h.2)), if_pos h]
    by_cases h1 : n = 120
    · rw [if_neg (by omega), if_pos h1]
    · rw [if_pos (by omega), if_neg h1]
  · rw [if_neg h, if_pos]
    by_cases h1 : c < 32
    · exact Or.inl h1
    · exact Or.inr (fun q => h ⟨Int32.not_lt.mp h1, q⟩)
theorem e_seed (hr : CR Z d1 d2 x st kp tp sh sc pa kc kq le m nw od tr ah kr ka ln sz it) (v : Int32) : seeR (gI d1 99 sc) v = rseR (gA d2 nw 193) v := by
  obtain ⟨_, _, _, _, _, ⟨e, _⟩, _⟩ := CR_now hr
  unfold seeR rseR
  rw [e]
  by_cases h : v < 0
  · rw [if_pos h, if_neg (Int32.not_le.mpr h)]
  · rw [if_neg h, if_pos (Int32.not_lt.mp h)]
theorem e_like (hr : CR Z d1 d2 x st kp tp sh sc pa kc kq le m nw od tr ah kr ka ln sz it) (v : Int32) : likR (gI d1 98 sc) v = likR (gA d2 nw 192) v := by
  obtain ⟨_, _, _, _, ⟨k, _, e1, e2⟩, _⟩ := CR_now hr
  rw [e1, e2]
theorem e_paint (hr : CR Z d1 d2 x st kp tp sh sc pa kc kq le m nw od tr ah kr ka ln sz it) (c r v : Int32) : paiR (gA d1 (nA Z sc)) c r v = paiR (fun k => gA d2 nw (96 + k)) c r v := by
  obtain ⟨_, p2, _⟩ := CR_now hr
  unfold paiR
  rw [pix_cg p2]
theorem e_undo (k : Nat) : undR k = runR k := rfl
theorem e_drop (hr : CR Z d1 d2 x st kp tp sh sc pa kc kq le m nw od tr ah kr ka ln sz it) (v : Int32) : droR d1 sh v = rdrR d2 ln sz v := by
  obtain ⟨_, _, _, _, _, r6⟩ := hr
  unfold droR rdrR
  by_cases hv : wthn v 0 3
  · rw [if_pos hv, if_pos hv]
    have h9 := wth_nI 3 (by decide) hv
    obtain ⟨s1, s2, ⟨z, _, s3, s4⟩, _⟩ := r6.2.2 (tN v) (by omega)
    by_cases h : gI d1 161 (psO d1 sh (tN v)) = 0
    · rw [if_pos h, if_neg (Int32.not_le.mpr (s1.mp h))]
    · rw [if_neg h, if_pos (Int32.not_lt.mp (fun q => h (s1.mpr q))), s3, s4]
  · rw [if_neg hv, if_neg hv]
end
