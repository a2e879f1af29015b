theorem hpix_n {f : Nat → Int32} (h : dB f) (c r : Int32) : ∃ a, a ≤ 9 ∧ hpix f c r = nI a := by
  have hl := hpix_lt c r
  have n := fun (j : Nat) (hj : j < 96) => show ∃ a, a ≤ 9 ∧ f j = nI a from ⟨(f j).toInt.toNat, by have := h j hj; omega, by have := h j hj; rw [ma_eq, nI_toInt (by omega)]; omega⟩
  unfold hpix
  obtain ⟨a1, b1, e1⟩ := n (24 * clN r 3 + 2 * clN c 5) (by omega)
  obtain ⟨a2, b2, e2⟩ := n (24 * clN r 3 + 2 * clN c 5 + 1) (by omega)
  obtain ⟨a3, b3, e3⟩ := n (24 * clN r 3 + 2 * clN c 5 + 12) (by omega)
  obtain ⟨a4, b4, e4⟩ := n (24 * clN r 3 + 2 * clN c 5 + 12 + 1) (by omega)
  rw [e1, e2, e3, e4]
  refine ⟨(a1 + a2 + a3 + a4) / 4, by omega, ?_⟩
  rw [nI_add, nI_add, nI_add]; exact pk_div (by omega) (by decide) (by decide)
theorem hpix_cg {f g : Nat → Int32} (h : pE f g) (c r : Int32) : hpix f c r = hpix g c r := by
  have hl := hpix_lt c r
  unfold hpix
  rw [h _ (by omega), h _ (by omega), h _ (by omega), h _ (by omega)]
theorem half_b : ∀ b, b < 6 → colI (nI b) / 2 = 2 * mRem (nI b) 3 ∧ rowI (nI b) / 2 = 2 * (nI b / 3) := by decide +kernel
theorem sd_eq (fo fn : Nat → Int32) (m : Int32) {b : Nat} (hb : b < 6) : sdI fo fn (nI b) m = rsdI fo fn (nI b) m := by
  funext i
  unfold sdI rsdI
  rw [(half_b b hb).1, (half_b b hb).2]
theorem sdI_cg {fo fn go gn : Nat → Int32} (p1 : pE fo go) (p2 : pE fn gn) (b m : Int32) : sdI fo fn b m = sdI go gn b m := by funext i; unfold sdI; rw [hpix_cg p1, hpix_cg p2]
theorem gB_sd {fo fn : Nat → Int32} (h1 : dB fo) (h2 : dB fn) (b m : Int32) : gB (rsdI fo fn b m) := fun t ht => by
  unfold rsdI
  obtain ⟨a, ha, e⟩ := hpix_n h2 (2 * mRem b 3 + mRem (nI t) 2) (2 * (b / 3) + nI t / 2)
  obtain ⟨c, hc, e2⟩ := hpix_n h1 (2 * mRem b 3 + mRem (nI t) 2 + xOfI m) (2 * (b / 3) + nI t / 2 + yOfI m)
  rw [e, e2]
  have e1 : (nI a - nI c).toInt = (a : Int) - c := by
    rw [i_sub (by rw [nI_toInt (by omega), nI_toInt (by omega)]; omega) (by rw [nI_toInt (by omega), nI_toInt (by omega)]; omega), nI_toInt (by omega), nI_toInt (by omega)]
  rw [mAbs_i (by rw [e1]; omega), e1]
  omega
theorem sm_b {fo fn : Nat → Int32} (h1 : dB fo) (h2 : dB fn) (b m : Int32) : 0 ≤ (accL (rsdI fo fn b m) 4 0 0).toInt ∧ (accL (rsdI fo fn b m) 4 0 0).toInt ≤ 324 := by
  have hb := accL_b (gB_sd h1 h2 b m) 4 0 0 (by omega) (by decide) (by decide)
  have h0 : (0 : Int32).toInt = 0 := by decide
  rw [h0] at hb
  omega
theorem near1 : ∀ i, i < 49 → (nearP (ordF i) 24 1 ↔ (mAbs (xOfI (ordF i)) < 2 ∧ mAbs (yOfI (ordF i)) < 2)) := by decide +kernel
theorem near0 : nearP (ordF 0) 24 1 := by decide +kernel
theorem n9 : (99999 : Int32).toInt = 99999 := by decide
theorem arg_rg {fo fn o : Nat → Int32} (h1 : dB fo) (h2 : dB fn) (ho : ∀ j, j < 49 → o j = ordF j) {b : Nat} (hb : b < 6) : ∀ n i le fd, i + n ≤ 49 → le.toInt ≤ 99999 → (argL (fun m => accL (sdI fo fn (nI b) m) 4 0 0) (fun m => decide (nearP m 24 1)) n i le fd).2 = (rgL o (ow1 fo fn (nI b)) n i fd le).1
  | 0, _, _, _, _, _ => rfl
  | n + 1, i, le, fd, h, hl => by
    rw [argL, rgL, ho i (by omega), sd_eq fo fn _ hb]
    by_cases hn : nearP (ordF i) 24 1
    · rw [if_pos (decide_eq_true hn), ow1, if_pos ((near1 i (by omega)).mp hn)]
      have sb := sm_b h1 h2 (nI b) (ordF i)
      split
      · exact arg_rg h1 h2 ho hb n (i + 1) _ _ (by omega) (by omega)
      · exact arg_rg h1 h2 ho hb n (i + 1) _ _ (by omega) hl
    · rw [if_neg (by simpa using hn), ow1, if_neg (fun q => hn ((near1 i (by omega)).mpr q)), if_neg (by rw [ma_lt, n9]; omega)]
      exact arg_rg h1 h2 ho hb n (i + 1) _ _ (by omega) hl
theorem sm_eq {fo fn o : Nat → Int32} (h1 : dB fo) (h2 : dB fn) (ho : ∀ j, j < 49 → o j = ordF j) {b : Nat} (hb : b < 6) : smvI fo fn (nI b) = rqR o fo fn (nI b) := by
  unfold smvI rqR
  have sb := sm_b h1 h2 (nI b) (ordF 0)
  rw [argL, rgL, ho 0 (by decide), sd_eq fo fn _ hb, if_pos (decide_eq_true near0), ow1, if_pos ((near1 0 (by decide)).mp near0), if_pos (by rw [ma_lt, mx_i]; omega), if_pos (by rw [ma_lt, n9]; omega)]
  exact arg_rg h1 h2 ho hb 48 1 _ _ (by omega) (by omega)
theorem arg_in (c : Int32 → Int32) : ∀ n i le fd, i + n ≤ 49 → (∃ j, j < 49 ∧ fd = ordF j ∧ nearP (ordF j) 24 1) → ∃ j, j < 49 ∧ (argL c (fun m => decide (nearP m 24 1)) n i le fd).2 = ordF j ∧ nearP (ordF j) 24 1
  | 0, _, _, _, _, h => h
  | n + 1, i, le, fd, h, hf => by
    rw [argL]
    by_cases hn : nearP (ordF i) 24 1
    · rw [if_pos (decide_eq_true hn)]
      split
      · exact arg_in c n (i + 1) _ _ (by omega) ⟨i, by omega, rfl, hn⟩
      · exact arg_in c n (i + 1) _ _ (by omega) hf
    · rw [if_neg (by simpa using hn)]
      exact arg_in c n (i + 1) _ _ (by omega) hf
theorem sm_in (fo fn : Nat → Int32) (b : Int32) : ∃ j, j < 49 ∧ smvI fo fn b = ordF j ∧ nearP (ordF j) 24 1 := arg_in _ 49 0 _ _ (by omega) ⟨0, by decide, by decide, near0⟩
theorem near2 : ∀ j, j < 49 → nearP (ordF j) 24 1 → (∀ i, i < 49 → (nearP (ordF i) (movI (2 * xOfI (ordF j)) (2 * yOfI (ordF j))) 1 ↔ (mAbs (xOfI (ordF i) - 2 * xOfI (ordF j)) < 2 ∧ mAbs (yOfI (ordF i) - 2 * yOfI (ordF j)) < 2))) ∧ ∃ i, i < 49 ∧ nearP (ordF i) (movI (2 * xOfI (ordF j)) (2 * yOfI (ordF j))) 1 := by decide +kernel
theorem qu_rg {fo fn o : Nat → Int32} (h1 : dB fo) (h2 : dB fn) (ho : ∀ j, j < 49 → o j = ordF j) (b : Int32) {k j : Nat} (hk : k < 5) (hj : j < 49) (hn : nearP (ordF j) 24 1) : ∀ n i mv co lk lo, i + n ≤ 49 → co.toInt ≤ 99999 → (tmL (nI k) fo fn b (movI (2 * xOfI (ordF j)) (2 * yOfI (ordF j))) 1 0 n i mv co lk lo).1 = (rgL o (ow2 (nI k) fo fn b (ordF j)) n i mv co).1
  | 0, _, _, _, _, _, _, _ => rfl
  | n + 1, i, mv, co, lk, lo, h, hc => by
    rw [tmL, rgL, ho i (by omega)]
    have ne := (near2 j hj hn).1 i (by omega)
    have rb := rc_b h1 h2 b hk (show i < 49 by omega)
    by_cases hq : nearP (ordF i) (movI (2 * xOfI (ordF j)) (2 * yOfI (ordF j))) 1
    · obtain ⟨t1, t2⟩ := cb_try h1 h2 b co lk hk (show i < 49 by omega)
      rw [if_pos hq, if_neg (fun q => q.1 rfl), ow2, if_pos (ne.mp hq)]
      by_cases hl : rcC (nI k) fo fn b (ordF i) < co
      · rw [if_pos (t1.mpr hl), if_pos hl, t2 hl]
        exact qu_rg h1 h2 ho b hk hj hn n (i + 1) _ _ _ _ (by omega) (by omega)
      · rw [if_neg (fun q => hl (t1.mp q)), if_neg hl]
        exact qu_rg h1 h2 ho b hk hj hn n (i + 1) _ _ _ _ (by omega) hc
    · rw [if_neg hq, ow2, if_neg (fun q => hq (ne.mpr q)), if_neg (by rw [ma_lt, n9]; omega)]
      exact qu_rg h1 h2 ho b hk hj hn n (i + 1) _ _ _ _ (by omega) hc
theorem qu_0 {fo fn o : Nat → Int32} (h1 : dB fo) (h2 : dB fn) (ho : ∀ j, j < 49 → o j = ordF j) (b : Int32) {k j : Nat} (hk : k < 5) (hj : j < 49) (hn : nearP (ordF j) 24 1) : ∀ n i mv mw lk lo, i + n ≤ 49 → (∃ t, i ≤ t ∧ t < i + n ∧ nearP (ordF t) (movI (2 * xOfI (ordF j)) (2 * yOfI (ordF j))) 1) → (tmL (nI k) fo fn b (movI (2 * xOfI (ordF j)) (2 * yOfI (ordF j))) 1 0 n i mv 1000000 lk lo).1 = (rgL o (ow2 (nI k) fo fn b (ordF j)) n i mw 99999).1
  | 0, _, _, _, _, _, _, ⟨t, h1, h2, _⟩ => by omega
  | n + 1, i, mv, mw, lk, lo, h, ⟨t, ht1, ht2, ht3⟩ => by
    rw [tmL, rgL, ho i (by omega)]
    have ne := (near2 j hj hn).1 i (by omega)
    have rb := rc_b h1 h2 b hk (show i < 49 by omega)
    by_cases hq : nearP (ordF i) (movI (2 * xOfI (ordF j)) (2 * yOfI (ordF j))) 1
    · obtain ⟨t1, t2⟩ := cb_try h1 h2 b 1000000 lk hk (show i < 49 by omega)
      have hl := rc_lt h1 h2 b hk (show i < 49 by omega)
      rw [if_pos hq, if_neg (fun q => q.1 rfl), ow2, if_pos (ne.mp hq), if_pos (t1.mpr hl), t2 hl, if_pos (by rw [ma_lt, n9]; omega)]
      exact qu_rg h1 h2 ho b hk hj hn n (i + 1) _ _ _ _ (by omega) (by omega)
    · rw [if_neg hq, ow2, if_neg (fun q => hq (ne.mpr q)), if_neg (by rw [ma_lt, n9]; omega)]
      refine qu_0 h1 h2 ho b hk hj hn n (i + 1) _ _ _ _ (by omega) ⟨t, ?_, by omega, ht3⟩
      rcases Nat.lt_or_ge i t with q | q
      · omega
      · exact absurd ((show t = i by omega) ▸ ht3) hq
/-- quick, as both find it -/
theorem qu_eq {fo fn o : Nat → Int32} (h1 : dB fo) (h2 : dB fn) (ho : ∀ j, j < 49 → o j = ordF j) {k b : Nat} (hk : k < 5) (hb : b < 6) : (quT (nI k) fo fn (nI b)).1 = rqE o (nI k) fo fn (nI b) := by
  unfold quT quM rqE
  rw [← sm_eq h1 h2 ho hb]
  obtain ⟨j, hj, e, hn⟩ := sm_in fo fn (nI b)
  rw [e]
  obtain ⟨i, hi, hi2⟩ := (near2 j hj hn).2
  exact qu_0 h1 h2 ho (nI b) hk hj hn 49 0 _ _ _ _ (by omega) ⟨i, by omega, by omega, hi2⟩
theorem argL_cg {c c' : Int32 → Int32} (p : Int32 → Bool) (h : ∀ m, c m = c' m) : ∀ n i le fd, argL c p n i le fd = argL c' p n i le fd := by
  have : c = c' := funext h
  subst this
  exact fun _ _ _ _ => rfl
theorem quT_cg {fo fn go gn : Nat → Int32} (p1 : pE fo go) (p2 : pE fn gn) (k b : Int32) : quT k fo fn b = quT k go gn b := by
  have e : smvI fo fn b = smvI go gn b := by
    unfold smvI
    rw [argL_cg _ (fun m => by rw [sdI_cg p1 p2])]
  unfold quT quM
  rw [e]
  exact tmL_cg p1 p2 _ _ _ _ _ _ _ _ _ _ _
theorem bqL_1 {fo fn go gn o : Nat → Int32} (p1 : pE fo go) (p2 : pE fn gn) (h1 : dB go) (h2 : dB gn) (ho : ∀ j, j < 49 → o j = ordF j) {k : Nat} (hk : k < 5) : ∀ n b a q, b + n ≤ 6 → (bqL (nI k) fo fn n b a q).1 = rwL o (nI k) go gn n b a
  | 0, _, _, _, _ => rfl
  | n + 1, b, a, q, h => by
    rw [bqL, rwL, quT_cg p1 p2, beT_cg p1 p2, qu_eq h1 h2 ho hk (by omega), (be_rb h1 h2 ho (nI b) hk).1]
    split
    · rw [Int32.or_zero]; exact bqL_1 p1 p2 h1 h2 ho hk n (b + 1) _ _ (by omega)
    · exact bqL_1 p1 p2 h1 h2 ho hk n (b + 1) _ _ (by omega)
