theorem cut_ord : ∀ j, j < 49 → ∀ l, l < 4 → cutL (nI l) (ordF j).toInt64 = (ordF j).toInt64 := by decide +kernel
section
variable {Z Z2 : mZ} {d1 d2 e1 e2 : mD} {x st kp tp sr ha fi sp sh sc pa kc kq le dt mo ne m nw od fd tr rd ah kr ka ln sz it mv : Nat}
/-- film: what is written -/
theorem flL_fx (Z : mZ) (sc sr ia h j : Nat) : ∀ n b e, (∀ a, gA (flL Z sc sr ia h j n b e) a = gA e a) ∧ (∀ f a, (f < 128 ∨ 131 < f) → gI (flL Z sc sr ia h j n b e) f a = gI e f a) ∧ (∀ a, gO (flL Z sc sr ia h j n b e) a = gO e a) ∧ (∀ a, a ≠ ia → gJ (flL Z sc sr ia h j n b e) a = gJ e a) ∧ ∀ k, gJ (flL Z sc sr ia h j n b e) ia k = if j + b ≤ k ∧ k < j + b + n then cutL (gI e 162 h) (beT (gI e 98 sc) (gA e (oA Z sc)) (gA e (nA Z sc)) (nI (k - j))).1.toInt64 else gJ e ia k
  | 0, b, e => ⟨fun _ => rfl, fun _ _ _ => rfl, fun _ => rfl, fun _ _ => rfl, fun k => by rw [if_neg (by omega)]; rfl⟩
  | n + 1, b, e => by
    obtain ⟨i1, i2, i3, i4, i5⟩ := flL_fx Z sc sr ia h j n (b + 1) (tJ (seT e sr (beT (gI e 98 sc) (gA e (oA Z sc)) (gA e (nA Z sc)) (nI b))) ia (vp_updL (gJ e ia) (j + b) (cutL (gI e 162 h) (beT (gI e 98 sc) (gA e (oA Z sc)) (gA e (nA Z sc)) (nI b)).1.toInt64)))
    rw [gI_tJ, gI_seT _ _ _ _ (Or.inr (by decide)), gI_tJ, gI_seT _ _ _ _ (Or.inl (by decide))] at i5
    refine ⟨i1, fun f a hf => (i2 f a hf).trans (gI_seT _ _ _ _ hf), i3, fun a ha => (i4 a ha).trans ?_, fun k => (i5 k).trans ?_⟩
    · rw [gJ_tJ, if_neg ha]; rfl
    · by_cases h1 : j + (b + 1) ≤ k ∧ k < j + (b + 1) + n
      · rw [if_pos h1, if_pos (by omega)]; rfl
      · rw [if_neg h1, gJ_tJ, if_pos rfl]
        unfold vp_updL
        by_cases h2 : k = j + b
        · rw [if_pos h2, if_pos (by omega), h2, Nat.add_sub_cancel_left]
        · rw [if_neg h2, if_neg (by omega)]
theorem k_film (hx : clS Z x st kp tp sr ha fi sp sh sc pa kc kq le dt mo ne) (hI : oI Z) (hm : mdS Z2 m nw od fd tr rd ah kr ka ln sz it mv) (n v la i : Int32) (hr : CR Z d1 d2 x st kp tp sh sc pa kc kq le m nw od tr ah kr ka ln sz it) : CR Z (filD Z d1 sh sc sr n v la i) (rfmD d2 nw od ln sz it n v la i) x st kp tp sh sc pa kc kq le m nw od tr ah kr ka ln sz it := by
  unfold filD rfmD
  by_cases h : filP n v la ∧ rfS d1 sh v la i n = 0
  · have hn := w16 h.1.1.1
    rw [if_pos h, if_pos ⟨h.1, (rfS_why hr h.1.1.2 hn.2.2.2).mp h.2⟩]
    have hs := hr.2.2.2.2.2
    obtain ⟨s1, s2, s3⟩ := id hs
    have hv := wth_nI 3 (by decide) h.1.1.2
    have hv4 : tN v < 4 := by omega
    have hl := wth_nI 3 (by decide) h.1.2
    have h24 := rfS_in hr h.1.1.2 h.2
    obtain ⟨p1, p2, b1, b2, ⟨k, hk, c1, c2⟩, _, ho⟩ := CR_now hr
    unfold filE
    obtain ⟨i1, i2, i3, i4, i5⟩ := flL_fx Z sc sr (iA Z (psO d1 sh (tN v))) (psO d1 sh (tN v)) (tN i) (tN n) 0 d1
    generalize flL Z sc sr (iA Z (psO d1 sh (tN v))) (psO d1 sh (tN v)) (tN i) (tN n) 0 d1 = E at i1 i2 i3 i4 i5
    have eo : ∀ b t, psO E b t = psO d1 b t := fun b t => by unfold psO; rw [i3]
    refine CR_sh (d1 := d1) (d2 := d2) hx hm ⟨fun s _ _ => ⟨i1 _, i1 _, i2 _ _ (by decide), i2 _ _ (by decide)⟩, fun a => ⟨i2 _ _ (by decide), i2 _ _ (by decide)⟩, i3⟩ (i1 _) (i2 _ _ (by decide)) (fun b _ _ => rfl) (fun f => rfl) ⟨fun t ht => ?_, fun t u ht hu hn => ?_, fun t ht => ?_⟩ hr
    · rw [eo, i3]; exact s1 t ht
    · rw [eo, eo]; exact s2 t u ht hu hn
    · obtain ⟨u1, u2, u3, u4⟩ := s3 t ht
      rw [eo, i2 _ _ (by decide), i2 _ _ (by decide), i2 _ _ (by decide)]
      refine ⟨u1, u2, u3, fun q hq => ?_⟩
      rw [gJ_tJ, if_pos rfl]
      unfold cpJ
      by_cases he : t = tN v
      · subst he
        rw [i5 q]
        by_cases h9 : tN i ≤ q ∧ q < tN i + tN n
        · rw [if_pos (by omega), if_pos (by omega), (rfS_0 h.2).2.1]
          unfold rfmH
          rw [show 24 * tN v + q - (24 * tN v + tN i) = q - tN i by omega, c1, c2, beT_cg p1 p2, (be_rb b1 b2 ho _ hk).1]
          obtain ⟨j, hj, ej⟩ := rbE_in ho (nI k) (nI (q - tN i)) (fo := gA d2 nw) (fn := fun k => gA d2 nw (96 + k))
          rw [ej, hl.1, cut_ord j hj (tN la) (by omega)]
        · rw [if_neg (by omega), if_neg (by omega)]; exact u4 q hq
      · rw [i4 _ (iA_ne hI hs ht hv4 he), if_neg (by omega)]; exact u4 q hq
  · rw [if_neg h, if_neg (fun q => h ⟨q.1, (rfS_why hr q.1.1.2 (w16 q.1.1.1).2.2.2).mpr q.2⟩)]; exact hr
/-- found -/
theorem kdI_fx (Z : mZ) (sp sr ia j : Nat) : ∀ n b e a, (∀ q, gA (kdI Z sp sr ia j n b e a).1 q = gA e q) ∧ (∀ f q, (f < 128 ∨ 131 < f) → gI (kdI Z sp sr ia j n b e a).1 f q = gI e f q) ∧ (∀ q, gO (kdI Z sp sr ia j n b e a).1 q = gO e q) ∧ (∀ q, gJ (kdI Z sp sr ia j n b e a).1 q = gJ e q)
  | 0, b, e, a => ⟨fun _ => rfl, fun _ _ _ => rfl, fun _ => rfl, fun _ => rfl⟩
  | n + 1, b, e, a => by
    rw [kdI]
    by_cases h : a = 0
    · rw [if_pos h]; exact ⟨fun _ => rfl, fun _ _ _ => rfl, fun _ => rfl, fun _ => rfl⟩
    · rw [if_neg h]
      obtain ⟨i1, i2, i3, i4⟩ := kdI_fx Z sp sr ia j n (b + 1) (seT e sr (beT (gI e 98 sp) (gA e (oA Z sp)) (gA e (nA Z sp)) (nI b))) (if lg_cmp (gJ e ia (j + b)) (beT (gI e 98 sp) (gA e (oA Z sp)) (gA e (nA Z sp)) (nI b)).1.toInt64 = 0 then 1 else 0)
      exact ⟨i1, fun f q hf => (i2 f q hf).trans (gI_seT _ _ _ _ hf), i3, i4⟩
theorem kdI_eq {o f : Nat → Int32} {q : Nat → Int64} (h1 : dB f) (h2 : dB (fun k => f (96 + k))) (ho : ∀ j, j < 49 → o j = ordF j) {k : Nat} (hk : k < 5) (Z : mZ) (sp sr ia j : Nat) : ∀ n b e a, pE (gA e (oA Z sp)) f → pE (gA e (nA Z sp)) (fun k => f (96 + k)) → gI e 98 sp = nI k → (∀ t, b ≤ t → t < b + n → gJ e ia (j + t) = q t) → (kdI Z sp sr ia j n b e a).2 = rfuI o f q (nI k) n b a
  | 0, b, e, a, _, _, _, _ => rfl
  | n + 1, b, e, a, p1, p2, e1, hq => by
    rw [kdI, rfuI]
    by_cases h : a = 0
    · rw [if_pos h, if_pos h]
    · rw [if_neg h, if_neg h, kdI_eq (q := q) h1 h2 ho hk Z sp sr ia j n (b + 1) (seT e sr _) _ p1 p2 (by rw [gI_seT _ _ _ _ (Or.inl (by decide))]; exact e1) (fun t ht1 ht2 => hq t (by omega) (by omega)), e1, beT_cg p1 p2, (be_rb h1 h2 ho _ hk).1, hq b (by omega) (by omega)]
      congr 1
      by_cases h9 : (rbE o (nI k) f (fun k => f (96 + k)) (nI b)).toInt64 = q b
      · rw [if_pos ((lgc_eq _ _).mpr h9.symm), if_pos h9]
      · rw [if_neg (fun r => h9 ((lgc_eq _ _).mp r).symm), if_neg h9]
theorem kdL_eq {o f : Nat → Int32} {q : Nat → Int64} (h1 : dB f) (h2 : dB (fun k => f (96 + k))) (ho : ∀ j, j < 49 → o j = ordF j) (Z : mZ) (sp sr ia j m : Nat) : ∀ n k e s, k + n ≤ 5 → pE (gA e (oA Z sp)) f → pE (gA e (nA Z sp)) (fun k => f (96 + k)) → (∀ t, t < m → gJ e ia (j + t) = q t) → (kdL Z sp sr ia j m n k e s).2 = rfuL o f q m n k s
  | 0, k, e, s, _, _, _, _ => rfl
  | n + 1, k, e, s, hkn, p1, p2, hq => by
    obtain ⟨i1, i2, i3, i4⟩ := kdI_fx Z sp sr ia j m 0 (sI e 98 sp (nI k)) 1
    rw [kdL, rfuL, kdL_eq (q := q) h1 h2 ho Z sp sr ia j m n (k + 1) _ _ (by omega) (by rw [i1]; exact p1) (by rw [i1]; exact p2) (fun t ht => by rw [i4]; exact hq t ht), kdI_eq (q := q) h1 h2 ho (show k < 5 by omega) Z sp sr ia j m 0 (sI e 98 sp (nI k)) 1 p1 p2 (gI_eq _ _ _ _) (fun t _ ht2 => hq t (by omega))]
    congr 1
    by_cases h9 : rfuI o f q (nI k) m 0 1 = 0
    · rw [if_pos h9, if_pos h9, Int32.or_zero]
    · rw [if_neg h9, if_neg h9]
theorem agC_sp {f : Nat} {v : Int32} (h : f = 98 ∨ f = 99) : agC Z sp le d1 (sI d1 f sp v) := by
  rcases h with h | h <;> subst h
  · exact ⟨fun s _ hn => ⟨rfl, rfl, by rw [gI_sI, if_neg (fun q => hn q.2)], gI_ne (by decide) _ _ _ _⟩, fun a => ⟨gI_ne (by decide) _ _ _ _, gI_ne (by decide) _ _ _ _, gI_ne (by decide) _ _ _ _, gI_ne (by decide) _ _ _ _, gI_ne (by decide) _ _ _ _, gI_ne (by decide) _ _ _ _⟩, rfl, fun _ => rfl, fun _ => rfl⟩
  · exact ⟨fun s _ hn => ⟨rfl, rfl, gI_ne (by decide) _ _ _ _, by rw [gI_sI, if_neg (fun q => hn q.2)]⟩, fun a => ⟨gI_ne (by decide) _ _ _ _, gI_ne (by decide) _ _ _ _, gI_ne (by decide) _ _ _ _, gI_ne (by decide) _ _ _ _, gI_ne (by decide) _ _ _ _, gI_ne (by decide) _ _ _ _⟩, rfl, fun _ => rfl, fun _ => rfl⟩
theorem agC_nsp (hx : clS Z x st kp tp sr ha fi sp sh sc pa kc kq le dt mo ne) (f : Nat → Int32) : agC Z sp le d1 (tA d1 (nA Z sp) f) :=
  agC_tA (hx.inj.2.2.2.1 sp hx.spv).2.2.2.2.1.symm (fun s hs hn => ⟨hx.inj.2.2.1 s sp hs hx.spv, fun e => hn (hx.inj.2.1 _ _ hs hx.spv e)⟩)
theorem agC_osp (hx : clS Z x st kp tp sr ha fi sp sh sc pa kc kq le dt mo ne) (f : Nat → Int32) : agC Z sp le d1 (tA d1 (oA Z sp) f) :=
  agC_tA (hx.inj.2.2.2.1 sp hx.spv).1.symm (fun s hs hn => ⟨fun e => hn (hx.inj.1 _ _ hs hx.spv e), (hx.inj.2.2.1 sp s hx.spv hs).symm⟩)
theorem agC_scB (hx : clS Z x st kp tp sr ha fi sp sh sc pa kc kq le dt mo ne) (s : Nat) : agC Z sp le d1 (scBz Z d1 sp s) :=
  agC_tr (agC_osp hx _) (agC_tr (agC_nsp hx _) (agC_tr (agC_sp (Or.inl rfl)) (agC_sp (Or.inr rfl))))
theorem agC_fx {E e : mD} (i1 : ∀ q, gA E q = gA e q) (i2 : ∀ f q, (f < 128 ∨ 131 < f) → gI E f q = gI e f q) (i3 : ∀ q, gO E q = gO e q) (i4 : ∀ q, gJ E q = gJ e q) : agC Z sp le e E :=
  ⟨fun s _ _ => ⟨i1 _, i1 _, i2 _ _ (by decide), i2 _ _ (by decide)⟩, fun a => ⟨i2 _ _ (by decide), i2 _ _ (by decide), i2 _ _ (by decide), i2 _ _ (by decide), i2 _ _ (by decide), i2 _ _ (by decide)⟩, i1 _, i3, i4⟩
theorem agC_kdL (hx : clS Z x st kp tp sr ha fi sp sh sc pa kc kq le dt mo ne) (sr9 ia j m9 : Nat) : ∀ n k e s, agC Z sp le e (kdL Z sp sr9 ia j m9 n k e s).1
  | 0, k, e, s => agC_self _ _ _ _
  | n + 1, k, e, s => by
    obtain ⟨i1, i2, i3, i4⟩ := kdI_fx Z sp sr9 ia j m9 0 (sI e 98 sp (nI k)) 1
    rw [kdL]
    exact agC_tr (agC_sp (Or.inl rfl)) (agC_tr (agC_fx i1 i2 i3 i4) (agC_kdL hx sr9 ia j m9 n (k + 1) _ _))
theorem k_found (hx : clS Z x st kp tp sr ha fi sp sh sc pa kc kq le dt mo ne) (v la i n : Int32) (hr : CR Z d1 d2 x st kp tp sh sc pa kc kq le m nw od tr ah kr ka ln sz it) : CR Z (fouD Z d1 sh sc sp sr v la i n) d2 x st kp tp sh sc pa kc kq le m nw od tr ah kr ka ln sz it := by
  unfold fouD
  split
  · unfold fouQ kdQ
    exact CR_agC hx (agC_tr (agC_scB hx sc) (agC_kdL hx _ _ _ _ _ _ _ _)) hr
  · exact hr
theorem e_found (hx : clS Z x st kp tp sr ha fi sp sh sc pa kc kq le dt mo ne) (v la i n : Int32) (hr : CR Z d1 d2 x st kp tp sh sc pa kc kq le m nw od tr ah kr ka ln sz it) : fouR Z d1 sh sc sp sr v la i n = rfuR d2 nw od ln sz it v la i n := by
  unfold fouR rfuR
  by_cases h : fouP v la n
  · have hn := w16 h.2
    have hy := rfS_why hr h.1.1 hn.2.2.2 (la := la) (i := i)
    rw [if_pos h, if_pos h]
    by_cases h0 : rfS d1 sh v la i n = 0
    · rw [if_pos h0, if_pos (hy.mp h0)]
      have hv := wth_nI 3 (by decide) h.1.1
      have hv4 : tN v < 4 := by omega
      have h24 := rfS_in hr h.1.1 h0
      obtain ⟨p1, p2, b1, b2, _, _, ho⟩ := CR_now hr
      obtain ⟨_, _, _, u4⟩ := hr.2.2.2.2.2.2.2 (tN v) hv4
      have s1 : sR Z d1 sc (gA d2 nw) := by obtain ⟨k, r2, _⟩ := hr.2.1; exact r2.2.2.1
      have s2 := sR_scB_at hx.inj hx.spv hx.scV s1
      unfold fouQ kdQ
      exact kdL_eq b1 b2 ho Z sp sr _ _ _ 5 0 _ 0 (by omega) s2.1 s2.2.1 (fun t ht => by
        show gJ d1 _ _ = _
        rw [u4 _ (by omega)]
        congr 1; omega)
    · rw [if_neg h0, if_neg (fun q => h0 (hy.mpr q)), ref_why hr h.1.1 hn.2.2.2]
  · rw [if_neg h, if_neg h]
end
