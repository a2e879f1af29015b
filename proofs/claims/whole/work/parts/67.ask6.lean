section
variable {Z : mZ} {d1 d2 : mD} {tp le dt m tr rd n : Nat}
theorem e_picture (ht : tpR d1 d2 tp le m tr n) : (rdL (gA d1 le) n n 0 (gA d1 dt) 0 0 0).1 = rpiR (gA d2 tr) n (rpiT (gA d2 tr) n (gA d2 rd)) := by
  rw [rdL_cg (le := gA d1 le) (lf := gA d2 tr) n n 0 _ _ _ _ (fun j _ hj => ht.2.2.2.1 j (by omega))]
  exact (pic_eq ht.2.2.2.2 _ _).1
end
