theorem agC_self (Z : mZ) (sp le : Nat) (d : mD) : agC Z sp le d d := ⟨fun _ _ _ => ⟨rfl, rfl, rfl, rfl⟩, fun _ => ⟨rfl, rfl, rfl, rfl, rfl, rfl⟩, rfl, fun _ => rfl, fun _ => rfl⟩
theorem agC_tr {Z : mZ} {sp le : Nat} {d e f : mD} (h : agC Z sp le d e) (g : agC Z sp le e f) : agC Z sp le d f := by
  obtain ⟨h1, h2, h3, h4, h5⟩ := h
  obtain ⟨g1, g2, g3, g4, g5⟩ := g
  refine ⟨fun s hs hn => ?_, fun a => ?_, g3.trans h3, fun a => (g4 a).trans (h4 a), fun a => (g5 a).trans (h5 a)⟩
  · obtain ⟨a1, a2, a3, a4⟩ := h1 s hs hn
    obtain ⟨b1, b2, b3, b4⟩ := g1 s hs hn
    exact ⟨b1.trans a1, b2.trans a2, b3.trans a3, b4.trans a4⟩
  · obtain ⟨a1, a2, a3, a4, a5, a6⟩ := h2 a
    obtain ⟨b1, b2, b3, b4, b5, b6⟩ := g2 a
    exact ⟨b1.trans a1, b2.trans a2, b3.trans a3, b4.trans a4, b5.trans a5, b6.trans a6⟩
theorem agC_sI {Z : mZ} {sp le f a : Nat} {d : mD} {v : Int32} (h : f ≠ 98 ∧ f ≠ 99 ∧ f ≠ 194 ∧ f ≠ 258 ∧ f ≠ 225 ∧ f ≠ 161 ∧ f ≠ 162 ∧ f ≠ 163) : agC Z sp le d (sI d f a v) := by
  obtain ⟨h1, h2, h3, h4, h5, h6, h7, h8⟩ := h
  exact ⟨fun s _ _ => ⟨rfl, rfl, gI_ne h1.symm _ _ _ _, gI_ne h2.symm _ _ _ _⟩, fun b => ⟨gI_ne h3.symm _ _ _ _, gI_ne h4.symm _ _ _ _, gI_ne h5.symm _ _ _ _, gI_ne h6.symm _ _ _ _, gI_ne h7.symm _ _ _ _, gI_ne h8.symm _ _ _ _⟩, rfl, fun _ => rfl, fun _ => rfl⟩
theorem agC_seT (Z : mZ) (sp le : Nat) (d : mD) (sr : Nat) (q : Int32 × Int32 × Int32 × Int32) : agC Z sp le d (seT d sr q) :=
  agC_tr (agC_sI (f := 128) (by decide)) (agC_tr (agC_sI (f := 129) (by decide)) (agC_tr (agC_sI (f := 130) (by decide)) (agC_sI (f := 131) (by decide))))
theorem agC_tA {Z : mZ} {sp le a : Nat} {d : mD} {f : Nat → Int32} (hl : le ≠ a) (h : ∀ s, scv Z s → s ≠ sp → oA Z s ≠ a ∧ nA Z s ≠ a) : agC Z sp le d (tA d a f) := by
  refine ⟨fun s hs hn => ?_, fun _ => ⟨rfl, rfl, rfl, rfl, rfl, rfl⟩, by rw [gA_tA, if_neg hl], fun _ => rfl, fun _ => rfl⟩
  obtain ⟨h1, h2⟩ := h s hs hn
  exact ⟨by rw [gA_tA, if_neg h1], by rw [gA_tA, if_neg h2], rfl, rfl⟩
section
variable {Z : mZ} {d1 d2 : mD} {x st kp tp sr ha fi sp sh sc pa kc kq le dt mo ne m nw od tr ah kr ka ln sz it : Nat}
theorem agC_mo (hx : clS Z x st kp tp sr ha fi sp sh sc pa kc kq le dt mo ne) (f : Nat → Int32) : agC Z sp le d1 (tA d1 mo f) :=
  agC_tA hx.inj.2.2.2.2.2.1 (fun s hs _ => ⟨(hx.inj.2.2.2.1 s hs).2.2.1, (hx.inj.2.2.2.1 s hs).2.2.2.2.2.2.1⟩)
theorem agC_ne (hx : clS Z x st kp tp sr ha fi sp sh sc pa kc kq le dt mo ne) (f : Nat → Int32) : agC Z sp le d1 (tA d1 ne f) :=
  agC_tA hx.inj.2.2.2.2.2.2.1 (fun s hs _ => ⟨(hx.inj.2.2.2.1 s hs).2.2.2.1, (hx.inj.2.2.2.1 s hs).2.2.2.2.2.2.2⟩)
theorem agC_fiD (hx : clS Z x st kp tp sr ha fi sp sh sc pa kc kq le dt mo ne) (q : (Nat → Int32) × (Int32 × Int32 × Int32 × Int32)) : agC Z sp le d1 (fiD d1 sr mo q) := agC_tr (agC_seT Z sp le d1 sr q.2) (agC_mo hx q.1)
/-- what the relation says of the two pictures and the kind -/
theorem CR_now (hr : CR Z d1 d2 x st kp tp sh sc pa kc kq le m nw od tr ah kr ka ln sz it) : pE (gA d1 (oA Z sc)) (gA d2 nw) ∧ pE (gA d1 (nA Z sc)) (fun k => gA d2 nw (96 + k)) ∧ dB (gA d2 nw) ∧ dB (fun k => gA d2 nw (96 + k)) ∧ (∃ k, k < 5 ∧ gI d1 98 sc = nI k ∧ gA d2 nw 192 = nI k) ∧ (gI d1 99 sc = gA d2 nw 193 ∧ 0 ≤ gA d2 nw 193) ∧ ∀ j, j < 49 → gA d2 od j = ordF j := by
  obtain ⟨r1, ⟨k, r2, r2'⟩, r3, r4, r5, r6⟩ := hr
  obtain ⟨s1, s2, s3, s4⟩ := r2.2.2.1
  obtain ⟨v1, v2, ⟨k9, hk9, v3⟩, v4⟩ := r2.2.2.2.1
  exact ⟨s1, s2, v1, v2, ⟨k9, hk9, s3.trans v3, v3⟩, ⟨s4, v4⟩, r5⟩
theorem e_dot (hr : CR Z d1 d2 x st kp tp sh sc pa kc kq le m nw od tr ah kr ka ln sz it) (c r w : Int32) : dotR (gA d1 (oA Z sc)) (gA d1 (nA Z sc)) c r w = dotR (gA d2 nw) (fun k => gA d2 nw (96 + k)) c r w := by
  obtain ⟨p1, p2, _⟩ := CR_now hr
  unfold dotR
  rw [pix_cg p1, pix_cg p2]
theorem ord_all : ∀ m, m < 49 → ∃ i, i < 49 ∧ ordF i = nI m := by decide +kernel
theorem e_cost (hr : CR Z d1 d2 x st kp tp sh sc pa kc kq le m nw od tr ah kr ka ln sz it) (b mo9 lk : Int32) : cosR (gI d1 98 sc) (gA d1 (oA Z sc)) (gA d1 (nA Z sc)) b mo9 lk = rcsR (gA d2 nw 192) (gA d2 nw) (fun k => gA d2 nw (96 + k)) b mo9 := by
  obtain ⟨p1, p2, h1, h2, ⟨k, hk, e1, e2⟩, _, ho⟩ := CR_now hr
  unfold cosR rcsR cbW
  rw [e1, e2, dcI_cg p1 p2]
  by_cases hw : wthn b 0 5 ∧ wthn mo9 0 48
  · rw [if_pos hw, if_pos hw]
    have hm := wth_nI 48 (by decide) hw.2
    obtain ⟨i, hi, e⟩ := ord_all (tN mo9) (by omega)
    rw [hm.1, ← e]
    exact (cb_try h1 h2 b 1000000 lk hk hi).2 (rc_lt h1 h2 b hk hi)
  · rw [if_neg hw, if_neg hw]
theorem e_count (hr : CR Z d1 d2 x st kp tp sh sc pa kc kq le m nw od tr ah kr ka ln sz it) (fd : Nat) (w : Int32) : couR Z d1 st sc mo sr w = rcuR (gA d2 od) (gA d2 nw) (layL (gA d2 od) (gA d2 nw 192) (gA d2 nw) (fun k => gA d2 nw (96 + k)) 6 0 (gA d2 fd)) (gI d2 299 m) w := by
  have hn := CR_now hr
  obtain ⟨_, ⟨k9, r2, r2'⟩, _⟩ := hr
  obtain ⟨p1, p2, h1, h2, ⟨k, hk, e1, e2⟩, _, ho⟩ := hn
  unfold couR rcuR
  have ly := lay_eq p1 p2 h1 h2 ho hk (gA d1 mo) (gA d2 fd) (gI d1 128 sr, gI d1 129 sr, gI d1 130 sr, gI d1 131 sr)
  have a1 : (alL (gI d1 98 sc) (gA d1 (oA Z sc)) (gA d1 (nA Z sc)) 6 0 0 (gI d1 128 sr, gI d1 129 sr, gI d1 130 sr, gI d1 131 sr)).1 = rcoI (gA d2 od) (gA d2 nw 192) (gA d2 nw) (fun k => gA d2 nw (96 + k)) := by
    rw [e1, e2, alL_cg p1 p2, alL_1 h1 h2 ho hk]; rfl
  have a2 : lenL (fiT Z d1 sc mo sr).1 6 0 0 = rlL (layL (gA d2 od) (gA d2 nw 192) (gA d2 nw) (fun k => gA d2 nw (96 + k)) 6 0 (gA d2 fd)) 6 0 0 := by
    unfold fiT; rw [e1, e2]; exact len_eq ly.1 ly.2 6 0 0 (by omega)
  have a3 : lacI Z d1 sc mo sr = rlaI (layL (gA d2 od) (gA d2 nw 192) (gA d2 nw) (fun k => gA d2 nw (96 + k)) 6 0 (gA d2 fd)) (gA d2 nw) := by
    unfold lacI fiT; rw [e1, e2]; exact lac_eq ly.1 p1 p2
  have a4 := pan_eq h1 h2 ho hk (gI d1 128 sr) (gI d1 130 sr)
  have a6 : (bqL (gI d1 98 sc) (gA d1 (oA Z sc)) (gA d1 (nA Z sc)) 6 0 0 (gI d1 128 sr, gI d1 129 sr, gI d1 130 sr, gI d1 131 sr)).1 = rwL (gA d2 od) (gA d2 nw 192) (gA d2 nw) (fun k => gA d2 nw (96 + k)) 6 0 0 := by
    rw [e1, e2]; exact bqL_1 p1 p2 h1 h2 ho hk 6 0 0 _ (by omega)
  rw [a1, a2, a3, a6, e1, paQ_cg p1 p2, a4.1, a4.2, ← e2, r2.1, r2']
theorem e_rebuilt (hr : CR Z d1 d2 x st kp tp sh sc pa kc kq le m nw od tr ah kr ka ln sz it) (fd : Nat) (c r : Int32) : rebR (gI d1 98 sc) (gA d1 (oA Z sc)) (gA d1 (nA Z sc)) c r = rrbR (layL (gA d2 od) (gA d2 nw 192) (gA d2 nw) (fun k => gA d2 nw (96 + k)) 6 0 (gA d2 fd)) (gA d2 nw) c r := by
  obtain ⟨p1, p2, h1, h2, ⟨k, hk, e1, e2⟩, _, ho⟩ := CR_now hr
  unfold rebR rrbR
  by_cases hw : inPic c r
  · rw [if_pos hw, if_pos hw]
    have hc := wth_nI 11 (by decide) hw.1
    have hq := wth_nI 7 (by decide) hw.2
    have hlt := rN_lt (a := tN c) (b := tN r) (by omega) (by omega)
    have eb : blkI c r = nI (rN (tN c) (tN r)) := by
      have := rN_ix (a := tN c) (b := tN r) (by omega) (by omega)
      rw [← hc.1, ← hq.1] at this
      rw [← this]
      unfold blkI
      rw [Int32.add_comm, Int32.mul_comm]
    unfold rebI
    rw [layL_at _ _ _ _ 6 0 _ _ (by omega), if_pos (by omega), e1, e2, eb, beT_cg p1 p2, (be_rb h1 h2 ho _ hk).1, pix_cg p1, ← hc.1, ← hq.1]
  · rw [if_neg hw, if_neg hw]
end
