theorem accL_B {g : Int32 → Int32} {M : Nat} (hM : M ≤ 5000) (hg : ∀ t, t < 16 → 0 ≤ (g (nI t)).toInt ∧ (g (nI t)).toInt ≤ M) : ∀ (n i : Nat) (s : Int32), i + n ≤ 16 → 0 ≤ s.toInt → s.toInt + 5000 * n ≤ 100000 → 0 ≤ (accL g n i s).toInt ∧ (accL g n i s).toInt ≤ s.toInt + M * n
  | 0, _, s, _, h0, _ => by rw [accL]; omega
  | n + 1, i, s, h, h0, h1 => by
    rw [accL]
    have hb := hg i (by omega)
    have e : (s + g (nI i)).toInt = s.toInt + (g (nI i)).toInt := i_add (by omega) (by omega)
    have ih := accL_B hM hg n (i + 1) (s + g (nI i)) (by omega) (by rw [e]; omega) (by rw [e]; omega)
    rw [e] at ih
    have hx : ((M : Int) * ((n + 1 : Nat) : Int)) = M * n + M := by rw [Int.natCast_add, Int.mul_add]; simp
    omega
theorem mx_i : (1000000 : Int32).toInt = 1000000 := by decide
theorem rc_lt {fo fn : Nat → Int32} (h1 : dB fo) (h2 : dB fn) (b : Int32) {k i : Nat} (hk : k < 5) (hi : i < 49) : rcC (nI k) fo fn b (ordF i) < 1000000 := by
  rw [ma_lt, mx_i]; have := rc_b h1 h2 b hk hi; omega
theorem paI_1 {fo fn : Nat → Int32} (h1 : dB fo) (h2 : dB fn) {k i : Nat} (hk : k < 5) (hi : i < 49) : ∀ n b s lk, (paI (nI k) fo fn (ordF i) n b s lk).1 = accL (fun b => rcC (nI k) fo fn b (ordF i)) n b s
  | 0, _, _, _ => rfl
  | n + 1, b, s, lk => by
    rw [paI, accL, (cb_try h1 h2 (nI b) 1000000 lk hk hi).2 (rc_lt h1 h2 (nI b) hk hi)]
    exact paI_1 h1 h2 hk hi n (b + 1) _ _
theorem paL_rg {fo fn o : Nat → Int32} (h1 : dB fo) (h2 : dB fn) (ho : ∀ j, j < 49 → o j = ordF j) {k : Nat} (hk : k < 5) : ∀ n i mv co lk, i + n ≤ 49 → (paL (nI k) fo fn n i mv co lk).1 = (rgL o (rpS (nI k) fo fn) n i mv co).1 ∧ (paL (nI k) fo fn n i mv co lk).2.1 = (rgL o (rpS (nI k) fo fn) n i mv co).2
  | 0, _, _, _, _, _ => ⟨rfl, rfl⟩
  | n + 1, i, mv, co, lk, h => by
    rw [paL, rgL, ho i (by omega), paI_1 h1 h2 hk (by omega), ← rpS]
    split
    · exact paL_rg h1 h2 ho hk n (i + 1) _ _ _ (by omega)
    · exact paL_rg h1 h2 ho hk n (i + 1) _ _ _ (by omega)
theorem rpS_b {fo fn : Nat → Int32} (h1 : dB fo) (h2 : dB fn) {k i : Nat} (hk : k < 5) (hi : i < 49) : 0 ≤ (rpS (nI k) fo fn (ordF i)).toInt ∧ (rpS (nI k) fo fn (ordF i)).toInt ≤ 7848 := by
  have := accL_B (M := 1308) (by decide) (g := fun b => rcC (nI k) fo fn b (ordF i)) (fun t _ => rc_b h1 h2 (nI t) hk hi) 6 0 0 (by omega) (by decide) (by decide)
  unfold rpS
  have h0 : (0 : Int32).toInt = 0 := by decide
  rw [h0] at this
  omega
/-- the pan -/
theorem pan_eq {fo fn o : Nat → Int32} (h1 : dB fo) (h2 : dB fn) (ho : ∀ j, j < 49 → o j = ordF j) {k : Nat} (hk : k < 5) (mv lk : Int32) : (paL (nI k) fo fn 49 0 mv 1000000 lk).1 = (rpQ o (nI k) fo fn).1 ∧ (paL (nI k) fo fn 49 0 mv 1000000 lk).2.1 = (rpQ o (nI k) fo fn).2 := by
  have t := paL_rg h1 h2 ho hk 49 0 mv 1000000 lk (by omega)
  unfold rpQ
  have hb := rpS_b h1 h2 hk (show 0 < 49 by decide)
  rw [rgL, ho 0 (by decide), if_pos (by rw [ma_lt, mx_i]; omega)] at t
  rw [rgL, ho 0 (by decide), if_pos (by rw [ma_lt, show (999999 : Int32).toInt = 999999 by decide]; omega)]
  exact t
theorem alL_1 {fo fn o : Nat → Int32} (h1 : dB fo) (h2 : dB fn) (ho : ∀ j, j < 49 → o j = ordF j) {k : Nat} (hk : k < 5) : ∀ n b a q, (alL (nI k) fo fn n b a q).1 = accL (fun b => rcC (nI k) fo fn b (rbE o (nI k) fo fn b)) n b a
  | 0, _, _, _ => rfl
  | n + 1, b, a, q => by
    rw [alL, accL, (be_rb h1 h2 ho (nI b) hk).2]
    exact alL_1 h1 h2 ho hk n (b + 1) _ _
theorem alL_cg {fo fn go gn : Nat → Int32} (p1 : pE fo go) (p2 : pE fn gn) (k : Int32) : ∀ n b a q, alL k fo fn n b a q = alL k go gn n b a q
  | 0, _, _, _ => rfl
  | n + 1, b, a, q => by rw [alL, alL, beT_cg p1 p2]; exact alL_cg p1 p2 k n (b + 1) _ _
theorem paL_cg {fo fn go gn : Nat → Int32} (p1 : pE fo go) (p2 : pE fn gn) (k m : Int32) : ∀ n b s lk, paI k fo fn m n b s lk = paI k go gn m n b s lk
  | 0, _, _, _ => rfl
  | n + 1, b, s, lk => by rw [paI, paI, dcI_cg p1 p2]; exact paL_cg p1 p2 k m n (b + 1) _ _
theorem paQ_cg {fo fn go gn : Nat → Int32} (p1 : pE fo go) (p2 : pE fn gn) (k : Int32) : ∀ n i mv co lk, paL k fo fn n i mv co lk = paL k go gn n i mv co lk
  | 0, _, _, _, _ => rfl
  | n + 1, i, mv, co, lk => by rw [paL, paL, paL_cg p1 p2]; simp only [paQ_cg p1 p2 k n]
/-- half dots -/
theorem pix_n {f : Nat → Int32} (h : dB f) (c r : Int32) : ∃ a, a ≤ 9 ∧ pix f c r = nI a := by
  have := pix_b h c r
  exact ⟨(pix f c r).toInt.toNat, by omega, by rw [ma_eq, nI_toInt (by omega)]; omega⟩
theorem btw_n {f : Nat → Int32} (h : dB f) (c r u v : Int32) : ∃ a, a ≤ 9 ∧ btwI f c r u v = nI a := by
  unfold btwI
  obtain ⟨a1, b1, e1⟩ := pix_n h c r
  obtain ⟨a2, b2, e2⟩ := pix_n h (c + u) (r + v)
  obtain ⟨a3, b3, e3⟩ := pix_n h (c + u) r
  obtain ⟨a4, b4, e4⟩ := pix_n h c (r + v)
  rw [e1, e2, e3, e4]
  split
  · exact ⟨a1, b1, rfl⟩
  · split
    · refine ⟨(a1 + a2) / 2, by omega, ?_⟩
      rw [nI_add]; exact pk_div (by omega) (by decide) (by decide)
    · refine ⟨(a1 + a3 + a4 + a2) / 4, by omega, ?_⟩
      rw [nI_add, nI_add, nI_add]; exact pk_div (by omega) (by decide) (by decide)
theorem btw_cg {f g : Nat → Int32} (h : pE f g) (c r u v : Int32) : btwI f c r u v = btwI g c r u v := by unfold btwI; simp only [pix_cg h]
theorem hcI_cg {fo fn go gn : Nat → Int32} (p1 : pE fo go) (p2 : pE fn gn) (b m u v : Int32) : hcI fo fn b m u v = hcI go gn b m u v := by funext i; unfold hcI; rw [pix_cg p2, btw_cg p1]
theorem gB_hc {fo fn : Nat → Int32} (h1 : dB fo) (h2 : dB fn) (b m u v : Int32) : gB (hcI fo fn b m u v) := fun t ht => by
  unfold hcI
  have a1 := pix_b h2 (colI b + mRem (nI t) 4) (rowI b + nI t / 4)
  obtain ⟨a, ha, e⟩ := btw_n h1 (colI b + mRem (nI t) 4 + xOfI m) (rowI b + nI t / 4 + yOfI m) u v
  rw [e]
  have e1 : (pix fn (colI b + mRem (nI t) 4) (rowI b + nI t / 4) - nI a).toInt = (pix fn (colI b + mRem (nI t) 4) (rowI b + nI t / 4)).toInt - a := by
    rw [i_sub (by rw [nI_toInt (by omega)]; omega) (by rw [nI_toInt (by omega)]; omega), nI_toInt (by omega)]
  rw [mAbs_i (by rw [e1]; omega), e1]
  omega
theorem haL_rh (fo fn : Nat → Int32) (b m : Int32) : ∀ n i fd co, haL fo fn b m n i fd co = rhL fo fn b m n i fd co
  | 0, _, _, _ => rfl
  | n + 1, i, fd, co => by
    rw [haL, rhL]
    split
    · exact haL_rh fo fn b m n (i + 1) _ _
    · exact haL_rh fo fn b m n (i + 1) _ _
theorem haL_cg {fo fn go gn : Nat → Int32} (p1 : pE fo go) (p2 : pE fn gn) (b m : Int32) : ∀ n i fd co, haL fo fn b m n i fd co = haL go gn b m n i fd co
  | 0, _, _, _ => rfl
  | n + 1, i, fd, co => by rw [haL, haL, hcI_cg p1 p2]; simp only [haL_cg p1 p2 b m n]
theorem half_eq {fo fn : Nat → Int32} (h1 : dB fo) (h2 : dB fn) (b m fd : Int32) : haL fo fn b m 9 0 fd 1000000 = rhL fo fn b m 9 0 0 99999 := by
  have hb := accL_b (gB_hc h1 h2 b m (mRem (nI 0) 3 - 1) (nI 0 / 3 - 1)) 16 0 0 (by omega) (by decide) (by decide)
  have h0 : (0 : Int32).toInt = 0 := by decide
  rw [h0] at hb
  rw [haL, if_pos (by rw [ma_lt, mx_i]; omega), rhL, if_pos (by rw [ma_lt, show (99999 : Int32).toInt = 99999 by decide]; omega)]
  exact haL_rh fo fn b m 8 1 _ _
