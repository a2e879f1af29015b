section
variable {Z Z2 : mZ} {d1 d2 : mD} {x st kp tp sr ha fi sp sh sc pa kc kq le dt mo ne m nw od fd tr rd ah kr ka ln sz it mv : Nat}
theorem k_seed (hx : clS Z x st kp tp sr ha fi sp sh sc pa kc kq le dt mo ne) (hm : mdS Z2 m nw od fd tr rd ah kr ka ln sz it mv) (v : Int32) (hr : CR Z d1 d2 x st kp tp sh sc pa kc kq le m nw od tr ah kr ka ln sz it) : CR Z (seeD d1 sc v) (rseD d2 nw v) x st kp tp sh sc pa kc kq le m nw od tr ah kr ka ln sz it := by
  unfold seeD rseD
  by_cases hv : v < 0
  · rw [if_pos hv, if_neg (Int32.not_le.mpr hv)]; exact hr
  · rw [if_neg hv, if_pos (Int32.not_lt.mp hv)]
    obtain ⟨r1, ⟨k, ⟨a1, a2, a3, a4, a5⟩, r2'⟩, ⟨k2, r3, r3', r3q⟩, ⟨n, t1, t2, t3, t4, t5⟩, r5, ⟨s1, s2, s3⟩⟩ := hr
    have gne : ∀ f a, f ≠ 99 → gI (sI d1 99 sc v) f a = gI d1 f a := fun f a h => gI_ne h _ _ _ _
    have g99 : ∀ a, a ≠ sc → gI (sI d1 99 sc v) 99 a = gI d1 99 a := fun a h => by rw [gI_sI, if_neg (fun q => h q.2)]
    have sRk : ∀ s w, s ≠ sc → sR Z d1 s w → sR Z (sI d1 99 sc v) s w := fun s w h q => ⟨q.1, q.2.1, by rw [gne 98 s (by decide)]; exact q.2.2.1, by rw [g99 s h]; exact q.2.2.2⟩
    have eA : ∀ b, b ≠ nw → gA (tA d2 nw (upd (gA d2 nw) 193 v)) b = gA d2 b := fun b h => by rw [gA_tA, if_neg h]
    have eN : gA (tA d2 nw (upd (gA d2 nw) 193 v)) nw = upd (gA d2 nw) 193 v := by rw [gA_tA, if_pos rfl]
    have uN : ∀ j, j ≠ 193 → upd (gA d2 nw) 193 v j = gA d2 nw j := fun j h => by unfold upd; rw [if_neg h]
    have q1 : ∀ i, i < 8 → psO d1 pa i ≠ sc := fun i hi => nO_ne (r1.2.2.1 i hi).1 hx.st.2.1
    have q2 : ∀ i, i < 8 → psO d1 kq i ≠ sc := fun i hi => nO_ne (r1.2.2.1 i hi).2 hx.st.2.1
    refine ⟨r1, ⟨k, ⟨by rw [gne 194 st (by decide)]; exact a1, a2, ?_, ?_, fun i hi => ?_⟩, r2'⟩, ⟨k2, by rw [gne 194 kp (by decide)]; exact r3, r3', ?_⟩, ⟨n, by rw [gne 225 tp (by decide)]; exact t1, t2, t3, by rw [eA tr hm.n_tp_nw]; exact t4, by rw [eA tr hm.n_tp_nw]; exact t5⟩, by rw [eA od hm.n_od_nw]; exact r5, ⟨s1, s2, fun i hi => ?_⟩⟩
    · rw [eN]
      refine ⟨fun j hj => ?_, fun j hj => ?_, ?_, ?_⟩
      · rw [uN j (by omega)]; exact a3.1 j hj
      · show _ = upd (gA d2 nw) 193 v (96 + j)
        rw [uN (96 + j) (by omega)]; exact a3.2.1 j hj
      · rw [gne 98 sc (by decide), uN 192 (by decide)]; exact a3.2.2.1
      · rw [gI_eq]; unfold upd; rw [if_pos rfl]
    · rw [eN]
      refine ⟨fun j hj => by rw [uN j (by omega)]; exact a4.1 j hj, fun j hj => ?_, by rw [uN 192 (by decide)]; exact a4.2.2.1, ?_⟩
      · show 0 ≤ (upd (gA d2 nw) 193 v (96 + j)).toInt ∧ (upd (gA d2 nw) 193 v (96 + j)).toInt ≤ 9
        rw [uN (96 + j) (by omega)]; exact a4.2.1 j hj
      · unfold upd; rw [if_pos rfl]; exact Int32.not_lt.mp hv
    · rw [eA ah hm.n_ah_nw]
      exact ⟨sRk _ _ (q1 i (by omega)) (a5 i hi).1, (a5 i hi).2⟩
    · rw [gne 258 x (by decide), eA kr hm.n_kp_nw, eA ka hm.n_ka_nw]
      rcases r3q with q | q
      · exact Or.inl q
      · obtain ⟨b1, b2, b3, b4, b5⟩ := q.2.2
        exact Or.inr ⟨q.1, q.2.1, by rw [gne 194 kp (by decide)]; exact b1, b2, sRk _ _ (fun e => hx.n3 e.symm) b3, b4, fun i hi => ⟨sRk _ _ (q2 i (by omega)) (b5 i hi).1, (b5 i hi).2⟩⟩
    · have e0 : psO (sI d1 99 sc v) sh i = psO d1 sh i := rfl
      rw [e0, gne 161 _ (by decide), gne 162 _ (by decide), gne 163 _ (by decide), eA ln hm.n_ln_nw, eA sz hm.n_sz_nw]
      exact s3 i hi
end
