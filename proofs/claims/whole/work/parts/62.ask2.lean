section
variable {Z Z2 : mZ} {d1 d2 : mD} {x st kp tp sr ha fi sp sh sc pa kc kq le dt mo ne m nw od fd tr rd ah kr ka ln sz it mv : Nat}
theorem agM_fd (hm : mdS Z2 m nw od fd tr rd ah kr ka ln sz it mv) (f : Nat → Int32) : agM m nw od tr ah kr ka ln sz it d2 (tA d2 fd f) :=
  ⟨by rw [gA_tA, if_neg hm.n_nw_fd], by rw [gA_tA, if_neg hm.n_od_fd], by rw [gA_tA, if_neg hm.n_tp_fd], by rw [gA_tA, if_neg hm.n_ah_fd], by rw [gA_tA, if_neg hm.n_kp_fd], by rw [gA_tA, if_neg hm.n_ka_fd], by rw [gA_tA, if_neg hm.n_ln_fd], by rw [gA_tA, if_neg hm.n_sz_fd], rfl, rfl, rfl, rfl⟩
theorem agM_self : agM m nw od tr ah kr ka ln sz it d2 d2 := ⟨rfl, rfl, rfl, rfl, rfl, rfl, rfl, rfl, rfl, rfl, rfl, rfl⟩
theorem agM_tr (q : Int32 × Int32 × Int32) : agM m nw od tr ah kr ka ln sz it d2 (trT d2 m q) :=
  ⟨rfl, rfl, rfl, rfl, rfl, rfl, rfl, rfl, rfl, gtr_ne _ _ _ _ _ _ (by decide), gtr_ne _ _ _ _ _ _ (by decide), gtr_ne _ _ _ _ _ _ (by decide)⟩
theorem agC_ha (d : mD) (h : Nat) (f c : Int32) : agC Z sp le d (haD d h f c) := agC_tr (agC_sI (f := 32) (by decide)) (agC_sI (f := 33) (by decide))
/-- count, cost, rebuilt, of: what lasts stays -/
theorem k_count (hx : clS Z x st kp tp sr ha fi sp sh sc pa kc kq le dt mo ne) (hm : mdS Z2 m nw od fd tr rd ah kr ka ln sz it mv) (w : Int32) (g : Nat → Int32) (hr : CR Z d1 d2 x st kp tp sh sc pa kc kq le m nw od tr ah kr ka ln sz it) : CR Z (couD Z d1 st sc mo ne sr w) (rcuD d2 fd g w) x st kp tp sh sc pa kc kq le m nw od tr ah kr ka ln sz it := by
  refine CR_agC hx ?_ (CR_agM ?_ hr)
  · unfold couD
    split
    · exact agC_self _ _ _ _
    · split
      · exact agC_seT _ _ _ _ _ _
      · split
        · exact agC_tr (agC_fiD hx _) (agC_ne hx _)
        · split
          · exact agC_fiD hx _
          · split
            · exact agC_seT _ _ _ _ _ (_, _, _, _)
            · split
              · exact agC_seT _ _ _ _ _ (_, _, _, _)
              · split
                · exact agC_seT _ _ _ _ _ _
                · exact agC_self _ _ _ _
  · unfold rcuD
    split
    · exact agM_fd hm _
    · exact agM_self
theorem k_cost (hx : clS Z x st kp tp sr ha fi sp sh sc pa kc kq le dt mo ne) (k : Int32) (fo fn : Nat → Int32) (b w : Int32) (hr : CR Z d1 d2 x st kp tp sh sc pa kc kq le m nw od tr ah kr ka ln sz it) : CR Z (cosD d1 sr k fo fn b w) d2 x st kp tp sh sc pa kc kq le m nw od tr ah kr ka ln sz it := by
  refine CR_agC hx ?_ hr
  unfold cosD
  split
  · exact agC_sI (by decide)
  · exact agC_self _ _ _ _
theorem k_rebuilt (hx : clS Z x st kp tp sr ha fi sp sh sc pa kc kq le dt mo ne) (hm : mdS Z2 m nw od fd tr rd ah kr ka ln sz it mv) (k : Int32) (fo fn g : Nat → Int32) (c r : Int32) (hr : CR Z d1 d2 x st kp tp sh sc pa kc kq le m nw od tr ah kr ka ln sz it) : CR Z (rebD d1 sr k fo fn c r) (rrbD d2 fd g c r) x st kp tp sh sc pa kc kq le m nw od tr ah kr ka ln sz it := by
  refine CR_agC hx ?_ (CR_agM ?_ hr)
  · unfold rebD
    split
    · exact agC_seT _ _ _ _ _ _
    · exact agC_self _ _ _ _
  · unfold rrbD
    split
    · exact agM_fd hm _
    · exact agM_self
theorem k_of (hx : clS Z x st kp tp sr ha fi sp sh sc pa kc kq le dt mo ne) (hm : mdS Z2 m nw od fd tr rd ah kr ka ln sz it mv) (q : Int32 × Int32 × Int32) (g : Nat → Int32) (b w : Int32) (hr : CR Z d1 d2 x st kp tp sh sc pa kc kq le m nw od tr ah kr ka ln sz it) : CR Z (ofD Z d1 sc mo ne sr ha b w) (rofD d2 m fd q g b w) x st kp tp sh sc pa kc kq le m nw od tr ah kr ka ln sz it := by
  refine CR_agC hx ?_ (CR_agM ?_ hr)
  · unfold ofD
    split
    · split
      · split
        · split
          · exact agC_seT _ _ _ _ _ _
          · exact agC_seT _ _ _ _ _ _
        · exact agC_tr (agC_seT _ _ _ _ _ _) (agC_ha _ _ _ _)
      · exact agC_tr (agC_fiD hx _) (agC_ne hx _)
    · exact agC_self _ _ _ _
  · unfold rofD
    split
    · split
      · exact agM_tr q
      · split
        · exact agM_fd hm _
        · exact agM_self
    · exact agM_self
end
