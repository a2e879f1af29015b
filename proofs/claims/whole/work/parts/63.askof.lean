section
variable {Z Z2 : mZ} {d1 d2 : mD} {x st kp tp sr ha fi sp sh sc pa kc kq le dt mo ne m nw od fd tr rd ah kr ka ln sz it mv : Nat}
theorem e_of (hr : CR Z d1 d2 x st kp tp sh sc pa kc kq le m nw od tr ah kr ka ln sz it) (b w : Int32) : ofR Z d1 sc mo sr ha b w = rofR (gA d2 od) (gA d2 nw) (layL (gA d2 od) (gA d2 nw 192) (gA d2 nw) (fun k => gA d2 nw (96 + k)) 6 0 (gA d2 fd)) (gA d2 nw 192) b w := by
  obtain ⟨p1, p2, h1, h2, ⟨k, hk, e1, e2⟩, _, ho⟩ := CR_now hr
  unfold ofR rofR
  by_cases hb : wthn b 0 5
  · rw [if_pos hb]
    have hb9 := wth_nI 5 (by decide) hb
    have eb : b = nI (tN b) := hb9.1
    have hb6 : tN b < 6 := by omega
    have be := be_rb h1 h2 ho b hk
    have bl := be_lk h1 h2 ho b hk
    have sk := sk_lk h1 h2 ho b hk
    have qu : (quT (nI k) (gA d2 nw) (fun j => gA d2 nw (96 + j)) b).1 = rqE (gA d2 od) (nI k) (gA d2 nw) (fun j => gA d2 nw (96 + j)) b := by
      rw [eb]; exact qu_eq h1 h2 ho hk hb6
    have ly := lay_eq p1 p2 h1 h2 ho hk (gA d1 mo) (gA d2 fd) (gI d1 128 sr, gI d1 129 sr, gI d1 130 sr, gI d1 131 sr)
    have fo9 : ∀ y, foI (fiT Z d1 sc mo sr).1 y (tN b) = rfI (layL (gA d2 od) (nI k) (gA d2 nw) (fun k => gA d2 nw (96 + k)) 6 0 (gA d2 fd)) y (tN b) := fun y => by
      unfold fiT
      rw [e1, fo_cg ly.1 y hb6, (fo_eq ly.2 y hb6).1]
    have ha9 : ofH Z d1 sc ha b = rhL (gA d2 nw) (fun j => gA d2 nw (96 + j)) b (rbE (gA d2 od) (nI k) (gA d2 nw) (fun j => gA d2 nw (96 + j)) b) 9 0 0 99999 := by
      unfold ofH
      rw [e1, beT_cg p1 p2, be.1, haL_cg p1 p2]
      exact half_eq h1 h2 _ _ _
    rw [e2]
    unfold seaT
    rw [e1, quT_cg p1 p2, beT_cg p1 p2, skT_cg p1 p2, ha9, fo9, qu]
    by_cases hw : wthn w 0 9
    · rw [if_pos ⟨hb, hw⟩]
      have hw9 := wth_nI 9 (by decide) hw
      have hj : tN w = 0 ∨ tN w = 1 ∨ tN w = 2 ∨ tN w = 3 ∨ tN w = 4 ∨ tN w = 5 ∨ tN w = 6 ∨ tN w = 7 ∨ tN w = 8 ∨ tN w = 9 := by omega
      rw [hw9.1]
      rcases hj with e | e | e | e | e | e | e | e | e | e <;> rw [e]
      · (try rw [if_pos (show nI 0 < (8 : Int32) by decide)])
        (try rw [if_pos (show nI 0 < (6 : Int32) by decide)])
        (try rw [if_neg (show ¬ nI 0 = (5 : Int32) by decide)])
        (try rw [seaR])
        (try rw [if_pos (show nI 0 < (3 : Int32) by decide)])
        (try rw [if_pos (show nI 0 < (3 : Int32) by decide)])
        (try rw [if_neg (show ¬ nI 0 = (2 : Int32) by decide)])
        (try rw [if_pos (show nI 0 = (0 : Int32) by decide)])
        (try rw [if_pos (show nI 0 = (0 : Int32) by decide)])
        exact be.1
      · (try rw [if_pos (show nI 1 < (8 : Int32) by decide)])
        (try rw [if_pos (show nI 1 < (6 : Int32) by decide)])
        (try rw [if_neg (show ¬ nI 1 = (5 : Int32) by decide)])
        (try rw [seaR])
        (try rw [if_pos (show nI 1 < (3 : Int32) by decide)])
        (try rw [if_pos (show nI 1 < (3 : Int32) by decide)])
        (try rw [if_neg (show ¬ nI 1 = (2 : Int32) by decide)])
        (try rw [if_neg (show ¬ nI 1 = (0 : Int32) by decide)])
        (try rw [if_neg (show ¬ nI 1 = (0 : Int32) by decide)])
        (try rw [if_pos (show nI 1 = (1 : Int32) by decide)])
        exact be.2
      · (try rw [if_pos (show nI 2 < (8 : Int32) by decide)])
        (try rw [if_pos (show nI 2 < (6 : Int32) by decide)])
        (try rw [if_neg (show ¬ nI 2 = (5 : Int32) by decide)])
        (try rw [seaR])
        (try rw [if_pos (show nI 2 < (3 : Int32) by decide)])
        (try rw [if_pos (show nI 2 < (3 : Int32) by decide)])
        (try rw [if_pos (show nI 2 = (2 : Int32) by decide)])
        (try rw [if_neg (show ¬ nI 2 = (0 : Int32) by decide)])
        (try rw [if_neg (show ¬ nI 2 = (1 : Int32) by decide)])
        (try rw [if_pos (show nI 2 = (2 : Int32) by decide)])
        exact bl
      · (try rw [if_pos (show nI 3 < (8 : Int32) by decide)])
        (try rw [if_pos (show nI 3 < (6 : Int32) by decide)])
        (try rw [if_neg (show ¬ nI 3 = (5 : Int32) by decide)])
        (try rw [seaR])
        (try rw [if_neg (show ¬ nI 3 < (3 : Int32) by decide)])
        (try rw [if_neg (show ¬ nI 3 < (3 : Int32) by decide)])
        (try rw [if_pos (show nI 3 = (3 : Int32) by decide)])
        (try rw [if_neg (show ¬ nI 3 = (0 : Int32) by decide)])
        (try rw [if_neg (show ¬ nI 3 = (1 : Int32) by decide)])
        (try rw [if_neg (show ¬ nI 3 = (2 : Int32) by decide)])
        (try rw [if_pos (show nI 3 = (3 : Int32) by decide)])
        exact sk.2
      · (try rw [if_pos (show nI 4 < (8 : Int32) by decide)])
        (try rw [if_pos (show nI 4 < (6 : Int32) by decide)])
        (try rw [if_neg (show ¬ nI 4 = (5 : Int32) by decide)])
        (try rw [seaR])
        (try rw [if_neg (show ¬ nI 4 < (3 : Int32) by decide)])
        (try rw [if_neg (show ¬ nI 4 < (3 : Int32) by decide)])
        (try rw [if_neg (show ¬ nI 4 = (3 : Int32) by decide)])
        (try rw [if_neg (show ¬ nI 4 = (0 : Int32) by decide)])
        (try rw [if_neg (show ¬ nI 4 = (1 : Int32) by decide)])
        (try rw [if_neg (show ¬ nI 4 = (2 : Int32) by decide)])
        (try rw [if_neg (show ¬ nI 4 = (3 : Int32) by decide)])
        (try rw [if_pos (show nI 4 = (4 : Int32) by decide)])
        exact sk.1
      · (try rw [if_pos (show nI 5 < (8 : Int32) by decide)])
        (try rw [if_pos (show nI 5 < (6 : Int32) by decide)])
        (try rw [if_pos (show nI 5 = (5 : Int32) by decide)])
        (try rw [if_neg (show ¬ nI 5 = (0 : Int32) by decide)])
        (try rw [if_neg (show ¬ nI 5 = (1 : Int32) by decide)])
        (try rw [if_neg (show ¬ nI 5 = (2 : Int32) by decide)])
        (try rw [if_neg (show ¬ nI 5 = (3 : Int32) by decide)])
        (try rw [if_neg (show ¬ nI 5 = (4 : Int32) by decide)])
        (try rw [if_pos (show nI 5 = (5 : Int32) by decide)])
        try rfl
      · (try rw [if_pos (show nI 6 < (8 : Int32) by decide)])
        (try rw [if_neg (show ¬ nI 6 < (6 : Int32) by decide)])
        (try rw [if_pos (show nI 6 = (6 : Int32) by decide)])
        (try rw [if_neg (show ¬ nI 6 = (0 : Int32) by decide)])
        (try rw [if_neg (show ¬ nI 6 = (1 : Int32) by decide)])
        (try rw [if_neg (show ¬ nI 6 = (2 : Int32) by decide)])
        (try rw [if_neg (show ¬ nI 6 = (3 : Int32) by decide)])
        (try rw [if_neg (show ¬ nI 6 = (4 : Int32) by decide)])
        (try rw [if_neg (show ¬ nI 6 = (5 : Int32) by decide)])
        (try rw [if_pos (show nI 6 = (6 : Int32) by decide)])
        try rfl
      · (try rw [if_pos (show nI 7 < (8 : Int32) by decide)])
        (try rw [if_neg (show ¬ nI 7 < (6 : Int32) by decide)])
        (try rw [if_neg (show ¬ nI 7 = (6 : Int32) by decide)])
        (try rw [if_neg (show ¬ nI 7 = (0 : Int32) by decide)])
        (try rw [if_neg (show ¬ nI 7 = (1 : Int32) by decide)])
        (try rw [if_neg (show ¬ nI 7 = (2 : Int32) by decide)])
        (try rw [if_neg (show ¬ nI 7 = (3 : Int32) by decide)])
        (try rw [if_neg (show ¬ nI 7 = (4 : Int32) by decide)])
        (try rw [if_neg (show ¬ nI 7 = (5 : Int32) by decide)])
        (try rw [if_neg (show ¬ nI 7 = (6 : Int32) by decide)])
        (try rw [if_pos (show nI 7 = (7 : Int32) by decide)])
        try rfl
      · (try rw [if_neg (show ¬ nI 8 < (8 : Int32) by decide)])
        (try rw [ofX])
        (try rw [if_pos (show nI 8 = (8 : Int32) by decide)])
        (try rw [if_neg (show ¬ nI 8 = (0 : Int32) by decide)])
        (try rw [if_neg (show ¬ nI 8 = (1 : Int32) by decide)])
        (try rw [if_neg (show ¬ nI 8 = (2 : Int32) by decide)])
        (try rw [if_neg (show ¬ nI 8 = (3 : Int32) by decide)])
        (try rw [if_neg (show ¬ nI 8 = (4 : Int32) by decide)])
        (try rw [if_neg (show ¬ nI 8 = (5 : Int32) by decide)])
        (try rw [if_neg (show ¬ nI 8 = (6 : Int32) by decide)])
        (try rw [if_neg (show ¬ nI 8 = (7 : Int32) by decide)])
        (try rw [if_pos (show nI 8 = (8 : Int32) by decide)])
        try rfl
      · (try rw [if_neg (show ¬ nI 9 < (8 : Int32) by decide)])
        (try rw [ofX])
        (try rw [if_neg (show ¬ nI 9 = (8 : Int32) by decide)])
        (try rw [if_neg (show ¬ nI 9 = (0 : Int32) by decide)])
        (try rw [if_neg (show ¬ nI 9 = (1 : Int32) by decide)])
        (try rw [if_neg (show ¬ nI 9 = (2 : Int32) by decide)])
        (try rw [if_neg (show ¬ nI 9 = (3 : Int32) by decide)])
        (try rw [if_neg (show ¬ nI 9 = (4 : Int32) by decide)])
        (try rw [if_neg (show ¬ nI 9 = (5 : Int32) by decide)])
        (try rw [if_neg (show ¬ nI 9 = (6 : Int32) by decide)])
        (try rw [if_neg (show ¬ nI 9 = (7 : Int32) by decide)])
        (try rw [if_neg (show ¬ nI 9 = (8 : Int32) by decide)])
        (try rw [if_pos (show nI 9 = (9 : Int32) by decide)])
        try rfl
    · rw [if_neg (fun q => hw q.2)]
      have ne9 : ∀ j : Nat, j ≤ 9 → ¬ w = nI j := fun j hj q => hw (by rw [q]; exact ⟨Int32.not_lt.mp (nI_pos (by omega)), (nI_leI (b := 9) (by omega) (by decide)).mpr hj⟩)
      rw [if_neg (show ¬ w = 0 from ne9 0 (by decide)), if_neg (show ¬ w = 1 from ne9 1 (by decide)), if_neg (show ¬ w = 2 from ne9 2 (by decide)), if_neg (show ¬ w = 3 from ne9 3 (by decide)), if_neg (show ¬ w = 4 from ne9 4 (by decide)), if_neg (show ¬ w = 5 from ne9 5 (by decide)), if_neg (show ¬ w = 6 from ne9 6 (by decide)), if_neg (show ¬ w = 7 from ne9 7 (by decide)), if_neg (show ¬ w = 8 from ne9 8 (by decide)), if_neg (show ¬ w = 9 from ne9 9 (by decide))]
  · rw [if_neg (fun q => hb q.1), if_neg hb]
end
