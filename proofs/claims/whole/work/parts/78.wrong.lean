/-! wrong -/
section
variable {Z Z2 : mZ} {d1 d2 e1 e2 : mD} {x st kp tp sr ha fi sp sh sc pa kc kq le dt mo ne m nw od fd tr rd ah kr ka ln sz it mv : Nat}
theorem odI_fx (Z : mZ) (sp : Nat) {c : Int32} {c9 : Nat} (hc : c = nI c9) (hc9 : c9 ≤ 10) {st9 : Nat} (hs : st9 < 64) : ∀ n i e w, i + n ≤ 6 → (odI Z sp c (nI st9) n i e (nI w)).2 = nI (wtN c9 st9 n i w) ∧ ∃ g, (odI Z sp c (nI st9) n i e (nI w)).1 = tA e (nA Z sp) g ∧ ∀ t, g t = if i ≤ t ∧ t < i + n ∧ Nat.testBit st9 t = true then 9 - gA e (nA Z sp) t else gA e (nA Z sp) t
  | 0, i, e, w, _ => ⟨rfl, gA e (nA Z sp), (tA_self _ _).symm, fun t => by rw [if_neg (by omega)]⟩
  | n + 1, i, e, w, hin => by
    rw [odI, wtN]
    have hb := bit6D st9 hs i (by omega)
    by_cases h : Nat.testBit st9 i = true
    · rw [if_pos (hb.mpr h), if_pos h, hc, pk_mul]
      have ih := odI_fx Z sp (c := nI c9) rfl hc9 hs n (i + 1) (tA e (nA Z sp) (upd (gA e (nA Z sp)) i (9 - gA e (nA Z sp) i))) (w * c9) (by omega)
      obtain ⟨j1, g, j2, j3⟩ := ih
      refine ⟨j1, g, by rw [j2, tA_tA], fun t => ?_⟩
      rw [j3 t, gA_tA, if_pos rfl]
      unfold upd
      by_cases ht : t = i
      · rw [if_neg (by omega), if_pos ht, if_pos ⟨by omega, by omega, by rw [ht]; exact h⟩, ht]
      · rw [if_neg ht]
        by_cases h9 : i + 1 ≤ t ∧ t < i + 1 + n ∧ Nat.testBit st9 t = true
        · rw [if_pos h9, if_pos ⟨by omega, by omega, h9.2.2⟩]
        · rw [if_neg h9, if_neg (fun q => h9 ⟨by omega, by omega, q.2.2⟩)]
    · rw [if_neg (fun q => h (hb.mp q)), if_neg h, hc, sub_c (c := nI c9) rfl hc9, pk_mul]
      have ih := odI_fx Z sp (c := nI c9) rfl hc9 hs n (i + 1) e (w * (10 - c9)) (by omega)
      obtain ⟨j1, g, j2, j3⟩ := ih
      refine ⟨j1, g, j2, fun t => ?_⟩
      rw [j3 t]
      by_cases ht : t = i
      · rw [if_neg (by omega), if_neg (fun q => h (by rw [← ht]; exact q.2.2))]
      · by_cases h9 : i + 1 ≤ t ∧ t < i + 1 + n ∧ Nat.testBit st9 t = true
        · rw [if_pos h9, if_pos ⟨by omega, by omega, h9.2.2⟩]
        · rw [if_neg h9, if_neg (fun q => h9 ⟨by omega, by omega, q.2.2⟩)]
theorem nine_b {v : Int32} (h : 0 ≤ v.toInt ∧ v.toInt ≤ 9) : 0 ≤ (9 - v).toInt ∧ (9 - v).toInt ≤ 9 := by
  have e9 : (9 : Int32).toInt = 9 := by decide
  rw [i_sub (by rw [e9]; omega) (by rw [e9]; omega), e9]
  omega
theorem wgF_b {f : Nat → Int32} (h1 : dB f) (h2 : dB (fun k => f (96 + k))) {n : Nat} (hn : n ≤ 6) (st9 : Nat) : dB (wgF f n st9) ∧ dB (fun k => wgF f n st9 (96 + k)) ∧ wgF f n st9 192 = f 192 := by
  refine ⟨fun k hk => ?_, fun k hk => ?_, ?_⟩
  · unfold wgF cpF; rw [if_neg (by omega)]; exact h1 k hk
  · show 0 ≤ (wgF f n st9 (96 + k)).toInt ∧ (wgF f n st9 (96 + k)).toInt ≤ 9
    unfold wgF cpF
    by_cases h9 : 96 ≤ 96 + k ∧ 96 + k < 96 + n
    · rw [if_pos h9, Nat.add_sub_cancel_left]
      unfold tog
      split
      · exact nine_b (h2 k hk)
      · exact h2 k hk
    · rw [if_neg h9]; exact h2 k hk
  · unfold wgF cpF; rw [if_neg (by omega)]
/-- the sum of the weights, as both make it -/
theorem odL_eq {o f : Nat → Int32} (hx : clS Z x st kp tp sr ha fi sp sh sc pa kc kq le dt mo ne) (h1 : dB f) (h2 : dB (fun k => f (96 + k))) (ho : ∀ j, j < 49 → o j = ordF j) {k9 : Nat} (hk : k9 < 5) (h3 : f 192 = nI k9) {c us : Int32} {c9 : Nat} (hc : c = nI c9) (hc9 : c9 ≤ 10) {m9 : Nat} (hm9 : m9 ≤ 4) : ∀ n j e a, j + n ≤ 2 ^ m9 → sR Z e sc f → (odL Z sc sp sr m9 c us n j e (nI a)).2 = nI (rwaL o f c9 m9 us n j a)
  | 0, j, e, a, _, _ => rfl
  | n + 1, j, e, a, hj, hs => by
    have h16 := pow_le hm9
    obtain ⟨o1, g, o2, o3⟩ := odI_fx Z sp hc hc9 (st9 := j) (by omega) m9 0 (scBz Z e sp sc) 1 (by omega)
    rw [odL, rwaL]
    have e1 : (odI Z sp c (nI j) m9 0 (scBz Z e sp sc) 1).1 = tA (scBz Z e sp sc) (nA Z sp) g := o2
    have e2 : (odI Z sp c (nI j) m9 0 (scBz Z e sp sc) 1).2 = nI (wtN c9 j m9 0 1) := o1
    rw [e1, e2]
    have sp1 := sR_scB_at hx.inj hx.spv hx.scV hs
    have hs' : sR Z (seT (tA (scBz Z e sp sc) (nA Z sp) g) sr (odT Z sp (tA (scBz Z e sp sc) (nA Z sp) g))) sc f := by
      have a1 := sR_n_ne (f := g) hx.inj hx.spv hx.scV hx.n1 (sR_scB_ne (s2 := sc) hx.inj hx.spv hx.scV hx.n1 hs)
      exact ⟨a1.1, a1.2.1, by rw [gI_seT _ _ _ _ (Or.inl (by decide))]; exact a1.2.2.1, by rw [gI_seT _ _ _ _ (Or.inl (by decide))]; exact a1.2.2.2⟩
    have hb : (odT Z sp (tA (scBz Z e sp sc) (nA Z sp) g)).1 = wgB o f m9 j := by
      have ⟨w1, w2, w3⟩ := wgF_b h1 h2 (n := m9) (by omega) j
      unfold odT wgB
      rw [w3, h3]
      have q1 : pE (gA (tA (scBz Z e sp sc) (nA Z sp) g) (oA Z sp)) (wgF f m9 j) := fun t ht => by
        rw [gA_tA, if_neg (hx.inj.2.2.1 sp sp hx.spv hx.spv)]
        unfold wgF cpF; rw [if_neg (by omega)]; exact sp1.1 t ht
      have q2 : pE (gA (tA (scBz Z e sp sc) (nA Z sp) g) (nA Z sp)) (fun k => wgF f m9 j (96 + k)) := fun t ht => by
        rw [gA_tA, if_pos rfl, o3 t]
        show _ = wgF f m9 j (96 + t)
        have e3 : gA (scBz Z e sp sc) (nA Z sp) t = f (96 + t) := sp1.2.1 t ht
        rw [e3]
        unfold wgF cpF
        by_cases h9 : 96 ≤ 96 + t ∧ 96 + t < 96 + m9
        · rw [if_pos h9, Nat.add_sub_cancel_left]
          unfold tog
          by_cases hb9 : Nat.testBit j t = true
          · rw [if_pos ⟨by omega, by omega, hb9⟩, if_pos hb9]
          · rw [if_neg (fun q => hb9 q.2.2), if_neg hb9]
        · rw [if_neg h9, if_neg (by omega)]
      have q3 : gI (tA (scBz Z e sp sc) (nA Z sp) g) 98 sp = nI k9 := sp1.2.2.1.trans h3
      rw [q3, beT_cg q1 q2]
      exact (be_rb w1 w2 ho 0 hk).1
    rw [hb]
    have ha : (if wgB o f m9 j = us then nI a else nI a + nI (wtN c9 j m9 0 1)) = nI (a + wgX o f m9 c9 us j) := by
      unfold wgX
      by_cases h9 : wgB o f m9 j = us
      · rw [if_pos h9, if_neg (fun q => q.2 h9), Nat.add_zero]
      · rw [if_neg h9, nI_add]
        by_cases h0 : 0 < wtN c9 j m9 0 1
        · rw [if_pos ⟨h0, h9⟩]
        · rw [if_neg (fun q => h0 q.1), show wtN c9 j m9 0 1 = 0 by omega]
    rw [ha]
    exact odL_eq hx h1 h2 ho hk h3 hc hc9 hm9 n (j + 1) _ _ (by omega) hs'
end
theorem rwa_split (o f : Nat → Int32) (c m : Nat) (us : Int32) : ∀ n1 n2 s a, rwaL o f c m us (n1 + n2) s a = rwaL o f c m us n2 (s + n1) (rwaL o f c m us n1 s a)
  | 0, n2, s, a => by rw [Nat.zero_add, Nat.add_zero]; rfl
  | n1 + 1, n2, s, a => by
    rw [show n1 + 1 + n2 = (n1 + n2) + 1 by omega, rwaL, rwaL, rwa_split o f c m us n1 n2 (s + 1), show s + 1 + n1 = s + (n1 + 1) by omega]
theorem rwa_scale (o f : Nat → Int32) (c m m' : Nat) (us : Int32) (q : Nat) : ∀ n s s' a b, (∀ i, i < n → wgX o f m' c us (s' + i) = q * wgX o f m c us (s + i)) → rwaL o f c m' us n s' (b + q * a) = b + q * rwaL o f c m us n s a
  | 0, s, s', a, b, _ => rfl
  | n + 1, s, s', a, b, h => by
    have h0 := h 0 (by omega)
    rw [Nat.add_zero, Nat.add_zero] at h0
    rw [rwaL, rwaL, h0, Nat.add_assoc, ← Nat.mul_add]
    exact rwa_scale o f c m m' us q n (s + 1) (s' + 1) _ b (fun i hi => by
      have := h (i + 1) (by omega)
      rw [show s' + (i + 1) = s' + 1 + i by omega, show s + (i + 1) = s + 1 + i by omega] at this
      exact this)
theorem wt_last (c st : Nat) : ∀ n k w, wtN c st (n + 1) k w = wtN c st n k w * (if Nat.testBit st (k + n) then c else 10 - c)
  | 0, k, w => rfl
  | n + 1, k, w => by
    rw [wtN, wt_last c st n (k + 1), wtN, show k + 1 + n = k + (n + 1) by omega]
theorem wt_cg (c : Nat) {st st' : Nat} : ∀ n k w, (∀ i, k ≤ i → i < k + n → Nat.testBit st i = Nat.testBit st' i) → wtN c st n k w = wtN c st' n k w
  | 0, k, w, _ => rfl
  | n + 1, k, w, h => by
    rw [wtN, wtN, h k (by omega) (by omega)]
    exact wt_cg c n (k + 1) _ (fun i h1 h2 => h i (by omega) (by omega))
theorem bits6 : ∀ n, n < 6 → ∀ s, s < 2 ^ n → Nat.testBit s n = false ∧ Nat.testBit (2 ^ n + s) n = true ∧ ∀ i, i < n → Nat.testBit (2 ^ n + s) i = Nat.testBit s i := by decide +kernel
/-- the first block reads no dot from the fourth on in the first row -/
theorem df_0 {fo fn gn : Nat → Int32} (h : ∀ k, k % 12 < 4 → fn k = gn k) (m : Int32) {t : Nat} (ht : t < 16) : dfI fo fn 0 m (nI t) = dfI fo gn 0 m (nI t) := by
  have e : ∀ t : Nat, t < 16 → clN (colI 0 + mRem (nI t) 4) 11 < 4 := by decide +kernel
  unfold dfI pix
  rw [h _ (by have := e t ht; omega)]
theorem rcC_0 {fo fn gn : Nat → Int32} (h : ∀ k, k % 12 < 4 → fn k = gn k) (k m : Int32) : rcC k fo fn 0 m = rcC k fo gn 0 m := by
  unfold rcC
  refine accL_cg 16 0 _ (fun t _ ht => ?_)
  unfold rcI
  rw [df_0 h m (by omega)]
theorem rbE_0 {fo fn gn o : Nat → Int32} (h : ∀ k, k % 12 < 4 → fn k = gn k) (k : Int32) : rbE o k fo fn 0 = rbE o k fo gn 0 := by
  have e : rcC k fo fn 0 = rcC k fo gn 0 := funext (rcC_0 h k)
  unfold rbE
  rw [e]
theorem rbE_fo {fo go fn o : Nat → Int32} (h : pE fo go) (k : Int32) : rbE o k fo fn 0 = rbE o k go fn 0 := by
  have e : rcC k fo fn 0 = rcC k go fn 0 := by
    funext m; unfold rcC; rw [rcI_cg h (fun _ _ => rfl)]
  unfold rbE
  rw [e]
theorem wgB_hi (o f : Nat → Int32) {n : Nat} (hn : 4 ≤ n) (hn6 : n < 6) {s t : Nat} (h : ∀ i, i < n → Nat.testBit s i = Nat.testBit t i) : wgB o f (n + 1) s = wgB o f n t := by
  unfold wgB
  have e192 : wgF f (n + 1) s 192 = wgF f n t 192 := by unfold wgF cpF; rw [if_neg (by omega), if_neg (by omega)]
  rw [e192, rbE_fo (go := wgF f n t) (fun k hk => by unfold wgF cpF; rw [if_neg (by omega), if_neg (by omega)])]
  refine rbE_0 (fun k hk => ?_) _
  show wgF f (n + 1) s (96 + k) = wgF f n t (96 + k)
  unfold wgF cpF
  by_cases h1 : k < n
  · rw [if_pos (by omega), if_pos (by omega), Nat.add_sub_cancel_left]
    unfold tog
    rw [h k h1]
  · rw [if_neg (by omega), if_neg (by omega)]
theorem wgX_hi (o f : Nat → Int32) {n c : Nat} (us : Int32) (hn : 4 ≤ n) (hn6 : n < 6) {s t q : Nat} (h : ∀ i, i < n → Nat.testBit s i = Nat.testBit t i) (hq : (if Nat.testBit s n then c else 10 - c) = q) : wgX o f (n + 1) c us s = q * wgX o f n c us t := by
  have ew : wtN c s (n + 1) 0 1 = wtN c t n 0 1 * q := by
    rw [wt_last, Nat.zero_add, hq, wt_cg c n 0 1 (fun i _ hi => h i (by omega))]
  unfold wgX
  rw [ew, wgB_hi o f hn hn6 h]
  by_cases h9 : wgB o f n t = us
  · rw [if_neg (fun r => r.2 h9), if_neg (fun r => r.2 h9), Nat.mul_zero]
  · by_cases h0 : 0 < wtN c t n 0 1
    · rw [if_pos (show 0 < wtN c t n 0 1 ∧ ¬ wgB o f n t = us from ⟨h0, h9⟩)]
      by_cases hq0 : 0 < q
      · rw [if_pos ⟨Nat.mul_pos h0 hq0, h9⟩, Nat.mul_comm]
      · have : q = 0 := by omega
        subst this
        rw [if_neg (fun r => by have := r.1; omega), Nat.zero_mul]
    · have e0 : wtN c t n 0 1 = 0 := by omega
      rw [e0, Nat.zero_mul, if_neg (show ¬ (0 < 0 ∧ ¬ wgB o f n t = us) from fun r => absurd r.1 (by decide)), Nat.mul_zero]
theorem rwa_hi (o f : Nat → Int32) {n c : Nat} (us : Int32) (hn : 4 ≤ n) (hn6 : n < 6) (hc : c ≤ 10) : rwaL o f c (n + 1) us (2 ^ (n + 1)) 0 0 = 10 * rwaL o f c n us (2 ^ n) 0 0 := by
  rw [show 2 ^ (n + 1) = 2 ^ n + 2 ^ n by rw [Nat.pow_succ]; omega, rwa_split]
  have b := bits6 n hn6
  have a1 := rwa_scale o f c n (n + 1) us (10 - c) (2 ^ n) 0 0 0 0 (fun i hi => by
    rw [Nat.zero_add]
    exact wgX_hi o f us hn hn6 (fun _ _ => rfl) (by rw [(b i hi).1]; rfl))
  rw [Nat.mul_zero, Nat.add_zero] at a1
  rw [a1, Nat.zero_add ((10 - c) * _)]
  have a2 := rwa_scale o f c n (n + 1) us c (2 ^ n) 0 (0 + 2 ^ n) 0 ((10 - c) * rwaL o f c n us (2 ^ n) 0 0) (fun i hi => by
    rw [Nat.zero_add, Nat.zero_add]
    exact wgX_hi o f us hn hn6 (b i hi).2.2 (by rw [(b i hi).2.1]; rfl))
  rw [Nat.mul_zero, Nat.add_zero ((10 - c) * _)] at a2
  rw [a2, ← Nat.add_mul, Nat.sub_add_cancel hc]
section
variable {Z Z2 : mZ} {d1 d2 e1 e2 : mD} {x st kp tp sr ha fi sp sh sc pa kc kq le dt mo ne m nw od fd tr rd ah kr ka ln sz it mv : Nat}
theorem agC_odL (hx : clS Z x st kp tp sr ha fi sp sh sc pa kc kq le dt mo ne) {c us : Int32} {c9 : Nat} (hc : c = nI c9) (hc9 : c9 ≤ 10) {m9 : Nat} (hm9 : m9 ≤ 4) : ∀ n j e a, j + n ≤ 2 ^ m9 → agC Z sp le e (odL Z sc sp sr m9 c us n j e a).1
  | 0, j, e, a, _ => agC_self _ _ _ _
  | n + 1, j, e, a, hj => by
    have h16 := pow_le hm9
    obtain ⟨_, g, o2, _⟩ := odI_fx Z sp hc hc9 (st9 := j) (by omega) m9 0 (scBz Z e sp sc) 1 (by omega)
    have e1 : (odI Z sp c (nI j) m9 0 (scBz Z e sp sc) 1).1 = tA (scBz Z e sp sc) (nA Z sp) g := o2
    rw [odL, e1]
    exact agC_tr (agC_scB hx sc) (agC_tr (agC_nsp hx g) (agC_tr (agC_seT _ _ _ _ _ _) (agC_odL hx hc hc9 hm9 n (j + 1) _ _ (by omega))))
theorem k_wrong (hx : clS Z x st kp tp sr ha fi sp sh sc pa kc kq le dt mo ne) (hm : mdS Z2 m nw od fd tr rd ah kr ka ln sz it mv) (n c w : Int32) (hr : CR Z d1 d2 x st kp tp sh sc pa kc kq le m nw od tr ah kr ka ln sz it) : CR Z (wroD Z d1 sc sp sr n c w) (rwrD d2 nw rd n c w) x st kp tp sh sc pa kc kq le m nw od tr ah kr ka ln sz it := by
  unfold wroD rwrD
  by_cases h : wroP n c w
  · rw [if_pos h, if_pos h]
    have hc := wth_nI 10 (by decide) h.1.2
    have hN := wN_eq h.1.1
    refine CR_agC hx ?_ (CR_agM (agM_rd hm _) hr)
    unfold odQ
    exact agC_tr (agC_seT _ _ _ _ _ _) (agC_odL hx hc.1 hc.2 hN.2 _ _ _ _ (by omega))
  · rw [if_neg h, if_neg h]; exact hr
theorem wN_min {n : Int32} (h : wthn n 0 6) : wN n = if 4 < tN n then 4 else tN n := by
  have h1 := wth_nI 6 (by decide) h
  unfold wN
  have k : n ≤ 4 ↔ tN n ≤ 4 := by
    have := nI_leI (a := tN n) (b := 4) (by omega) (by decide)
    rw [← h1.1] at this
    exact this
  by_cases h2 : 4 < n
  · rw [if_pos h2, if_pos (by
      have : ¬ tN n ≤ 4 := fun q => absurd (k.mpr q) (Int32.not_le.mpr h2)
      omega)]
  · rw [if_neg h2, if_neg (by have := k.mp (Int32.not_lt.mp h2); omega)]
theorem rwr_hi (o f : Nat → Int32) (k : Int32) {n c : Nat} (hn : n ≤ 6) (hc : c ≤ 10) : ∃ j, n = (if 4 < n then 4 else n) + j ∧ rwrA o f k n c = 10 ^ j * rwrA o f k (if 4 < n then 4 else n) c := by
  by_cases h : 4 < n
  · rw [if_pos h]
    by_cases h5 : n = 5
    · subst h5
      refine ⟨1, rfl, ?_⟩
      unfold rwrA
      rw [rwa_hi o f _ (n := 4) (by omega) (by omega) hc]
    · have h6 : n = 6 := by omega
      subst h6
      refine ⟨2, rfl, ?_⟩
      unfold rwrA
      rw [rwa_hi o f _ (n := 5) (by omega) (by omega) hc, rwa_hi o f _ (n := 4) (by omega) (by omega) hc, ← Nat.mul_assoc]
  · rw [if_neg h]
    exact ⟨0, rfl, by rw [Nat.pow_zero, Nat.one_mul]⟩
theorem e_wrong (hx : clS Z x st kp tp sr ha fi sp sh sc pa kc kq le dt mo ne) (n c w : Int32) (hr : CR Z d1 d2 x st kp tp sh sc pa kc kq le m nw od tr ah kr ka ln sz it) : wroR Z d1 sc sp sr n c w = rwrR (gA d2 od) (gA d2 nw) (gA d2 nw 192) n c w := by
  unfold wroR rwrR
  by_cases h : wroP n c w
  · rw [if_pos h, if_pos h]
    have hn := wth_nI 6 (by decide) h.1.1
    have hc := wth_nI 10 (by decide) h.1.2
    have hN := wN_eq h.1.1
    have eN := wN_min h.1.1
    obtain ⟨j, j1, j2⟩ := rwr_hi (gA d2 od) (gA d2 nw) (gA d2 nw 192) hn.2 hc.2
    rw [← eN] at j1 j2
    obtain ⟨p1, p2, b1, b2, ⟨k, hk, c1, c2⟩, _, ho⟩ := CR_now hr
    have s1 : sR Z d1 sc (gA d2 nw) := by obtain ⟨k, r2, _⟩ := hr.2.1; exact r2.2.2.1
    have s2 : sR Z (seT d1 sr (beT (gI d1 98 sc) (gA d1 (oA Z sc)) (gA d1 (nA Z sc)) 0)) sc (gA d2 nw) := ⟨s1.1, s1.2.1, by rw [gI_seT _ _ _ _ (Or.inl (by decide))]; exact s1.2.2.1, by rw [gI_seT _ _ _ _ (Or.inl (by decide))]; exact s1.2.2.2⟩
    have hus : (beT (gI d1 98 sc) (gA d1 (oA Z sc)) (gA d1 (nA Z sc)) 0).1 = rbE (gA d2 od) (gA d2 nw 192) (gA d2 nw) (fun j => gA d2 nw (96 + j)) 0 := by
      rw [c1, c2, beT_cg p1 p2]; exact (be_rb b1 b2 ho 0 hk).1
    have hA : wroA Z d1 sc sp sr n c = nI (rwrA (gA d2 od) (gA d2 nw) (gA d2 nw 192) (wN n) (tN c)) := by
      unfold wroA odQ rwrA
      rw [← hus]
      exact odL_eq hx b1 b2 ho hk c2 hc.1 hc.2 hN.2 _ 0 _ 0 (by omega) s2
    have hB : rwrA (gA d2 od) (gA d2 nw) (gA d2 nw 192) (wN n) (tN c) ≤ 10 ^ wN n := by
      have := rwa_le (gA d2 od) (gA d2 nw) (tN c) (wN n) (rbE (gA d2 od) (gA d2 nw 192) (gA d2 nw) (fun j => gA d2 nw (96 + j)) 0) (2 ^ wN n) 0 0 0 (by omega)
      rw [rwb_eq (tN c) (by omega) (wN n) (by omega)] at this
      exact this
    have h6 := pow6 (m := wN n) (by omega)
    have hP : powI 10 (wN n) 1 = nI (10 ^ wN n) := by
      have := pow_n (wN n) 1
      rw [Nat.one_mul] at this
      exact this
    have hp0 : 0 < 10 ^ wN n := Nat.pow_pos (by decide)
    rw [j2, show 10 ^ tN n = 10 ^ j * 10 ^ wN n by rw [← Nat.pow_add, Nat.add_comm]; exact congrArg (10 ^ ·) j1]
    unfold wroG
    rw [hA, hP]
    generalize rwrA (gA d2 od) (gA d2 nw) (gA d2 nw 192) (wN n) (tN c) = B at hB
    generalize 10 ^ wN n = P at hB h6 hp0
    have hj0 : 0 < 10 ^ j := Nat.pow_pos (by decide)
    have hg0 : 0 < Nat.gcd B P := Nat.gcd_pos_of_pos_right B hp0
    have hg1 : Nat.gcd B P ≤ P := Nat.le_of_dvd hp0 (Nat.gcd_dvd_right B P)
    rw [gcd_64 (by omega) (by omega), if_pos (show (1 : Int32) ≤ nI (Nat.gcd B P) from (nI_leI (a := 1) (by decide) (by omega)).mpr hg0), Nat.gcd_mul_left]
    by_cases hw : w = 0
    · rw [if_pos hw, if_pos hw, pk_div (by omega) hg0 (by omega), Nat.mul_div_mul_left _ _ hj0]
    · rw [if_neg hw, if_neg hw, pk_div (by omega) hg0 (by omega), Nat.mul_div_mul_left _ _ hj0]
  · rw [if_neg h, if_neg h]
end
