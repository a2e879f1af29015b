theorem rcI_cg {fo fn go gn : Nat → Int32} (h1 : pE fo go) (h2 : pE fn gn) (k b m : Int32) : rcI k fo fn b m = rcI k go gn b m := by funext i; unfold rcI; rw [dfI_cg h1 h2]
theorem dcI_cg {fo fn go gn : Nat → Int32} (h1 : pE fo go) (h2 : pE fn gn) (k b m : Int32) : dcI k fo fn b m = dcI k go gn b m := by funext i; unfold dcI; rw [dfI_cg h1 h2]
theorem dfF_cg {fo fn go gn : Nat → Int32} (h1 : pE fo go) (h2 : pE fn gn) (b m : Int32) : dfI fo fn b m = dfI go gn b m := by funext i; exact dfI_cg h1 h2 b m i
theorem smaI_cg {fo fn go gn : Nat → Int32} (h1 : pE fo go) (h2 : pE fn gn) (k b m : Int32) : smaI k fo fn b m = smaI k go gn b m := by unfold smaI; rw [dfF_cg h1 h2]
theorem tmL_cg {fo fn go gn : Nat → Int32} (h1 : pE fo go) (h2 : pE fn gn) (k b mid rc bs : Int32) : ∀ n i mv co lk lo, tmL k fo fn b mid rc bs n i mv co lk lo = tmL k go gn b mid rc bs n i mv co lk lo
  | 0, _, _, _, _, _ => rfl
  | n + 1, i, mv, co, lk, lo => by
    rw [tmL, tmL, dcI_cg h1 h2, smaI_cg h1 h2]
    simp only [tmL_cg h1 h2 k b mid rc bs n]
theorem beT_cg {fo fn go gn : Nat → Int32} (h1 : pE fo go) (h2 : pE fn gn) (k b : Int32) : beT k fo fn b = beT k go gn b := tmL_cg h1 h2 _ _ _ _ _ _ _ _ _ _ _
theorem skT_cg {fo fn go gn : Nat → Int32} (h1 : pE fo go) (h2 : pE fn gn) (k b : Int32) : skT k fo fn b = skT k go gn b := tmL_cg h1 h2 _ _ _ _ _ _ _ _ _ _ _
theorem rb_first {fo fn : Nat → Int32} (h1 : dB fo) (h2 : dB fn) (b : Int32) {k : Nat} (hk : k < 5) (mv : Int32) : rbP (rcC (nI k) fo fn b) 49 0 mv 1000000 = rbP (rcC (nI k) fo fn b) 48 1 (ordF 0) (rcC (nI k) fo fn b (ordF 0)) := by
  rw [rbP, if_pos]
  rw [ma_lt, show (1000000 : Int32).toInt = 1000000 by decide]
  have := rc_b h1 h2 b hk (show 0 < 49 by decide)
  omega
/-- best, as both find it -/
theorem be_rb {fo fn o : Nat → Int32} (h1 : dB fo) (h2 : dB fn) (ho : ∀ j, j < 49 → o j = ordF j) (b : Int32) {k : Nat} (hk : k < 5) : (beT (nI k) fo fn b).1 = rbE o (nI k) fo fn b ∧ (beT (nI k) fo fn b).2.1 = rcC (nI k) fo fn b (rbE o (nI k) fo fn b) := by
  have t := tm_rb h1 h2 b hk 49 0 24 1000000 0 0 (by omega)
  rw [rb_first h1 h2 b hk 24] at t
  have e : rbE o (nI k) fo fn b = (rbP (rcC (nI k) fo fn b) 48 1 (ordF 0) (rcC (nI k) fo fn b (ordF 0))).1 := by
    unfold rbE
    rw [ho 0 (by decide)]
    exact rbP_rb ho _ 48 1 _ _ (by omega)
  refine ⟨t.1.trans e.symm, ?_⟩
  rw [e]
  exact t.2.trans (rbP_c _ 48 1 _ _ rfl)
theorem cbL_full {g : Int32 → Int32} (hg : gB g) (lim : Int32) : ∀ (n i : Nat) (s : Int32) (j : Nat), i + n ≤ 16 → 0 ≤ s.toInt → s.toInt + 81 * n ≤ 5000 → accL g n i s < lim → (cbL g lim n i s (nI j)).2 = nI (j + n)
  | 0, _, s, j, _, _, _, _ => rfl
  | n + 1, i, s, j, h, h0, h1, h2 => by
    have hb := hg i (by omega)
    have e : (s + g (nI i)).toInt = s.toInt + (g (nI i)).toInt := i_add (by omega) (by omega)
    have ab := accL_b hg (n + 1) i s h h0 h1
    have hn : ¬ lim ≤ s := by rw [ma_le]; rw [ma_lt] at h2; omega
    rw [cbL, if_neg hn, nI_1]
    rw [accL] at h2
    rw [cbL_full hg lim n (i + 1) _ (j + 1) (by omega) (by rw [e]; omega) (by rw [e]; omega) h2, show j + 1 + n = j + (n + 1) by omega]
/-- dots looked at -/
theorem tm_tr {fo fn o : Nat → Int32} (h1 : dB fo) (h2 : dB fn) (ho : ∀ j, j < 49 → o j = ordF j) (b : Int32) {k : Nat} (hk : k < 5) : ∀ n i mv co lk lo ou sk, i + n ≤ 49 → (tmL (nI k) fo fn b 24 3 0 n i mv co lk lo).2.2.1 = (trL o (nI k) fo fn b n i co lk ou sk).1
  | 0, _, _, _, _, _, _, _, _ => rfl
  | n + 1, i, mv, co, lk, lo, ou, sk, h => by
    rw [tmL, trL, ho i (by omega), if_pos (ord_in i (by omega)).1, if_neg (fun q => q.1 rfl), cb_ref h1 h2 b _ _ _ _ hk]
    have e := cbL_lk (rcI (nI k) fo fn b (ordF i)) co 16 0 (atoI (nI k) (ordF i)) lk
    rw [e.1, e.2]
    split
    · exact tm_tr h1 h2 ho b hk n (i + 1) _ _ _ _ _ _ (by omega)
    · exact tm_tr h1 h2 ho b hk n (i + 1) _ _ _ _ _ _ (by omega)
theorem be_lk {fo fn o : Nat → Int32} (h1 : dB fo) (h2 : dB fn) (ho : ∀ j, j < 49 → o j = ordF j) (b : Int32) {k : Nat} (hk : k < 5) : (beT (nI k) fo fn b).2.2.1 = (trQ o (nI k) fo fn b).1 := by
  unfold beT trQ
  have hr := rc_b h1 h2 b hk (show 0 < 49 by decide)
  have hlt : rcC (nI k) fo fn b (ordF 0) < 1000000 := by rw [ma_lt, show (1000000 : Int32).toInt = 1000000 by decide]; omega
  obtain ⟨t1, t2⟩ := cb_try h1 h2 b 1000000 0 hk (show 0 < 49 by decide)
  rw [tmL, if_pos (ord_in 0 (by decide)).1, if_neg (fun q => q.1 rfl), if_pos (t1.mpr hlt), t2 hlt, ho 0 (by decide)]
  have ha := ato_b (k := nI k) (show 0 < 49 by decide)
  have e := cbL_full (gB_dc h1 h2 b (ordF 0) hk) 1000000 16 0 (atoI (nI k) (ordF 0)) 0 (by omega) ha.1 (by omega) (by rw [← rcC_eq h1 h2 b _ hk]; exact hlt)
  have e2 : (cbL (dcI (nI k) fo fn b (ordF 0)) 1000000 16 0 (atoI (nI k) (ordF 0)) 0).2 = 16 := e
  rw [e2]
  exact tm_tr h1 h2 ho b hk 48 1 _ _ _ _ _ _ (by omega)
theorem dotc_ge : ∀ j : Nat, j < 10 → ∀ t : Nat, t < 16 → ∀ k : Nat, k < 5 → (k = 0 ∨ k = 2 ∨ k = 3) → (j : Int) ≤ (dotcI (nI k) (nI j) (nI t)).toInt := by decide +kernel
theorem dc_ge {fo fn : Nat → Int32} (h1 : dB fo) (h2 : dB fn) (b m : Int32) {k t : Nat} (hk : k < 5) (hs : k = 0 ∨ k = 2 ∨ k = 3) (ht : t < 16) : ((dfI fo fn b m (nI t)).toInt.natAbs : Int) ≤ (dcI (nI k) fo fn b m (nI t)).toInt := by
  have hb := dfI_b h1 h2 b m (nI t)
  have e := mAbs_i (v := dfI fo fn b m (nI t)) (by omega)
  have e2 : mAbs (dfI fo fn b m (nI t)) = nI (dfI fo fn b m (nI t)).toInt.natAbs := by rw [ma_eq, e, nI_toInt (by omega)]
  unfold dcI
  rw [e2]
  exact dotc_ge _ (by omega) t ht k hk hs
theorem tri {fo fn : Nat → Int32} (h1 : dB fo) (h2 : dB fn) (b m : Int32) {k : Nat} (hk : k < 5) (hs : k = 0 ∨ k = 2 ∨ k = 3) : ∀ (n i : Nat) (s u : Int32), i + n ≤ 16 → (s.toInt.natAbs : Int) ≤ u.toInt → u.toInt + 81 * n ≤ 5000 → ((accL (dfI fo fn b m) n i s).toInt.natAbs : Int) ≤ (accL (dcI (nI k) fo fn b m) n i u).toInt ∧ ((accL (dfI fo fn b m) n i s).toInt.natAbs : Int) ≤ 5000
  | 0, _, s, u, _, h, h9 => by rw [accL, accL]; omega
  | n + 1, i, s, u, h, h3, h9 => by
    rw [accL, accL]
    have a1 := dfI_b h1 h2 b m (nI i)
    have a2 := dc_ge h1 h2 b m hk hs (show i < 16 by omega)
    have a3 := (dc_eq h1 h2 b m hk (show i < 16 by omega)).2
    have e1 : (s + dfI fo fn b m (nI i)).toInt = s.toInt + (dfI fo fn b m (nI i)).toInt := i_add (by omega) (by omega)
    have e2 : (u + dcI (nI k) fo fn b m (nI i)).toInt = u.toInt + (dcI (nI k) fo fn b m (nI i)).toInt := i_add (by omega) (by omega)
    exact tri h1 h2 b m hk hs n (i + 1) _ _ (by omega) (by rw [e1, e2]; omega) (by rw [e2]; omega)
theorem smo_le {fo fn : Nat → Int32} (h1 : dB fo) (h2 : dB fn) (b : Int32) {k i : Nat} (hk : k < 5) (hs : k = 0 ∨ k = 2 ∨ k = 3) (hi : i < 49) : (smoI fo fn b (ordF i)).toInt ≤ (rcC (nI k) fo fn b (ordF i)).toInt ∧ (smoI fo fn b (ordF i)).toInt ≤ 5000 := by
  have ha := ato_b (k := nI k) hi
  have h0 : (0 : Int32).toInt = 0 := by decide
  have t := tri h1 h2 b (ordF i) hk hs 16 0 0 (atoI (nI k) (ordF i)) (by omega) (by rw [h0]; omega) (by omega)
  rw [rcC_eq h1 h2 b _ hk]
  unfold smoI
  rw [mAbs_i (by omega)]
  exact t
theorem sumP_k {k : Nat} (hk : k < 5) : sumP (nI k) ↔ (k = 0 ∨ k = 2 ∨ k = 3) := by
  match k, hk with
  | 0, _ | 1, _ | 2, _ | 3, _ | 4, _ => decide
theorem sma_k {k : Nat} (hk : k < 5) (fo fn : Nat → Int32) (b m : Int32) : smaI (nI k) fo fn b m = if k = 0 ∨ k = 2 ∨ k = 3 then smoI fo fn b m else -1 := by
  unfold smaI smoI
  match k, hk with
  | 0, _ | 2, _ | 3, _ => rw [if_neg (by decide), if_pos (by decide)]
  | 1, _ | 4, _ => rw [if_pos (by decide), if_neg (by decide)]
theorem left_iff {k : Nat} (hk : k < 5) (fo fn : Nat → Int32) (b m co : Int32) (hc : 0 ≤ co.toInt) : (¬ (1 : Int32) = 0 ∧ co ≤ smaI (nI k) fo fn b m) ↔ (sumP (nI k) ∧ co ≤ smoI fo fn b m) := by
  rw [sumP_k hk, sma_k hk]
  by_cases hs : k = 0 ∨ k = 2 ∨ k = 3
  · rw [if_pos hs]
    exact ⟨fun q => ⟨hs, q.2⟩, fun q => ⟨by decide, q.2⟩⟩
  · rw [if_neg hs]
    refine ⟨fun q => ?_, fun q => absurd q.1 hs⟩
    have := q.2
    rw [ma_le, show (-1 : Int32).toInt = -1 by decide] at this
    omega
/-- moves left out, and dots looked at when they are -/
theorem tm_sk {fo fn o : Nat → Int32} (h1 : dB fo) (h2 : dB fn) (ho : ∀ j, j < 49 → o j = ordF j) (b : Int32) {k : Nat} (hk : k < 5) : ∀ n i mv co lk lo l0, i + n ≤ 49 → 0 ≤ co.toInt → (tmL (nI k) fo fn b 24 3 1 n i mv co lk lo).2.2.1 = (trL o (nI k) fo fn b n i co l0 lo lk).2.2 ∧ (tmL (nI k) fo fn b 24 3 1 n i mv co lk lo).2.2.2 = (trL o (nI k) fo fn b n i co l0 lo lk).2.1
  | 0, _, _, _, _, _, _, _, _ => ⟨rfl, rfl⟩
  | n + 1, i, mv, co, lk, lo, l0, h, hc => by
    rw [tmL, trL, ho i (by omega), if_pos (ord_in i (by omega)).1, cb_ref h1 h2 b _ _ _ _ hk]
    have e := cbL_lk (rcI (nI k) fo fn b (ordF i)) co 16 0 (atoI (nI k) (ordF i)) lk
    obtain ⟨t1, t2⟩ := cb_try h1 h2 b co 0 hk (show i < 49 by omega)
    rw [cb_ref h1 h2 b _ _ _ _ hk] at t1 t2
    have hr := rc_b h1 h2 b hk (show i < 49 by omega)
    by_cases hl : sumP (nI k) ∧ co ≤ smoI fo fn b (ordF i)
    · have hs := (sumP_k hk).mp hl.1
      have hsm := smo_le h1 h2 b hk hs (show i < 49 by omega)
      have hn : ¬ (cbL (rcI (nI k) fo fn b (ordF i)) co 16 0 (atoI (nI k) (ordF i)) 0).1 < co := fun q => by
        have q1 := t1.mp q
        have q2 := hl.2
        rw [ma_lt] at q1
        rw [ma_le] at q2
        omega
      rw [if_pos ((left_iff hk fo fn b (ordF i) co hc).mpr hl), if_neg hn, mB_1 hl, if_pos hl, Int32.add_zero]
      exact tm_sk h1 h2 ho b hk n (i + 1) _ _ _ _ _ (by omega) hc
    · rw [if_neg (fun q => hl ((left_iff hk fo fn b (ordF i) co hc).mp q)), mB_0 hl, if_neg hl, Int32.add_zero, e.1, e.2]
      by_cases hq : (cbL (rcI (nI k) fo fn b (ordF i)) co 16 0 (atoI (nI k) (ordF i)) 0).1 < co
      · rw [if_pos hq, if_pos hq]
        refine tm_sk h1 h2 ho b hk n (i + 1) _ _ _ _ _ (by omega) ?_
        rw [t2 (t1.mp hq)]
        omega
      · rw [if_neg hq, if_neg hq]
        exact tm_sk h1 h2 ho b hk n (i + 1) _ _ _ _ _ (by omega) hc
theorem sk_lk {fo fn o : Nat → Int32} (h1 : dB fo) (h2 : dB fn) (ho : ∀ j, j < 49 → o j = ordF j) (b : Int32) {k : Nat} (hk : k < 5) : (skT (nI k) fo fn b).2.2.1 = (trQ o (nI k) fo fn b).2.2 ∧ (skT (nI k) fo fn b).2.2.2 = (trQ o (nI k) fo fn b).2.1 := by
  unfold skT trQ
  have hr := rc_b h1 h2 b hk (show 0 < 49 by decide)
  have hmx : (1000000 : Int32).toInt = 1000000 := by decide
  have hlt : rcC (nI k) fo fn b (ordF 0) < 1000000 := by rw [ma_lt, hmx]; omega
  obtain ⟨t1, t2⟩ := cb_try h1 h2 b 1000000 0 hk (show 0 < 49 by decide)
  have hnl : ¬ (¬ (1 : Int32) = 0 ∧ 1000000 ≤ smaI (nI k) fo fn b (ordF 0)) := fun q => by
    have q1 := (left_iff hk fo fn b (ordF 0) 1000000 (by rw [hmx]; omega)).mp q
    have q2 := smo_le h1 h2 b hk ((sumP_k hk).mp q1.1) (show 0 < 49 by decide)
    have q3 := q1.2
    rw [ma_le, hmx] at q3
    omega
  rw [tmL, if_pos (ord_in 0 (by decide)).1, if_neg hnl, if_pos (t1.mpr hlt), t2 hlt, ho 0 (by decide)]
  have ha := ato_b (k := nI k) (show 0 < 49 by decide)
  have e := cbL_full (gB_dc h1 h2 b (ordF 0) hk) 1000000 16 0 (atoI (nI k) (ordF 0)) 0 (by omega) ha.1 (by omega) (by rw [← rcC_eq h1 h2 b _ hk]; exact hlt)
  have e2 : (cbL (dcI (nI k) fo fn b (ordF 0)) 1000000 16 0 (atoI (nI k) (ordF 0)) 0).2 = 16 := e
  rw [e2]
  exact tm_sk h1 h2 ho b hk 48 1 _ _ _ _ _ (by omega) hr.1
