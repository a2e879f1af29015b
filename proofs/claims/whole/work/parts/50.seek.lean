theorem i_add {a b : Int32} (h1 : -2147483648 ≤ a.toInt + b.toInt) (h2 : a.toInt + b.toInt < 2147483648) : (a + b).toInt = a.toInt + b.toInt := by
  rw [Int32.toInt_add, Int.bmod_eq_of_le (by omega) (by omega)]
theorem i_sub {a b : Int32} (h1 : -2147483648 ≤ a.toInt - b.toInt) (h2 : a.toInt - b.toInt < 2147483648) : (a - b).toInt = a.toInt - b.toInt := by
  rw [Int32.toInt_sub, Int.bmod_eq_of_le (by omega) (by omega)]
theorem i_mul {a b : Int32} (h1 : -2147483648 ≤ a.toInt * b.toInt) (h2 : a.toInt * b.toInt < 2147483648) : (a * b).toInt = a.toInt * b.toInt := by
  rw [Int32.toInt_mul, Int.bmod_eq_of_le (by omega) (by omega)]
/-- dots of a picture: figures -/
def dB (f : Nat → Int32) : Prop := ∀ k, k < 96 → 0 ≤ (f k).toInt ∧ (f k).toInt ≤ 9
/-- the same picture -/
def pE (f g : Nat → Int32) : Prop := ∀ k, k < 96 → f k = g k
theorem pix_cg {f g : Nat → Int32} (h : pE f g) (c r : Int32) : pix f c r = pix g c r := h _ (pix_lt c r)
theorem pix_b {f : Nat → Int32} (h : dB f) (c r : Int32) : 0 ≤ (pix f c r).toInt ∧ (pix f c r).toInt ≤ 9 := h _ (pix_lt c r)
theorem dfI_cg {fo fn go gn : Nat → Int32} (h1 : pE fo go) (h2 : pE fn gn) (b m i : Int32) : dfI fo fn b m i = dfI go gn b m i := by unfold dfI; rw [pix_cg h1, pix_cg h2]
theorem dfI_b {fo fn : Nat → Int32} (h1 : dB fo) (h2 : dB fn) (b m i : Int32) : -9 ≤ (dfI fo fn b m i).toInt ∧ (dfI fo fn b m i).toInt ≤ 9 := by
  unfold dfI
  have a1 := pix_b h2 (colI b + mRem i 4) (rowI b + i / 4)
  have a2 := pix_b h1 (colI b + mRem i 4 + xOfI m) (rowI b + i / 4 + yOfI m)
  rw [i_sub (by omega) (by omega)]
  omega
theorem mAbs_i {v : Int32} (h : -2147483648 < v.toInt) : (mAbs v).toInt = v.toInt.natAbs := by
  unfold mAbs
  have h0 : (0 : Int32).toInt = 0 := by decide
  split
  · next h1 =>
    rw [ma_le, h0] at h1
    omega
  · next h1 =>
    rw [ma_le, h0] at h1
    have := ma_rng v
    rw [i_sub (by rw [h0]; omega) (by rw [h0]; omega), h0]
    omega
theorem far_b {fo fn : Nat → Int32} (h1 : dB fo) (h2 : dB fn) (b m i : Int32) : ∃ j, j < 10 ∧ mAbs (dfI fo fn b m i) = nI j := by
  have := dfI_b h1 h2 b m i
  have e := mAbs_i (v := dfI fo fn b m i) (by omega)
  refine ⟨(dfI fo fn b m i).toInt.natAbs, by omega, ?_⟩
  rw [ma_eq, e, nI_toInt (by omega)]
theorem dotc_eq : ∀ j, j < 10 → ∀ t, t < 16 → ∀ k, k < 5 → dotcI (nI k) (nI j) (nI t) = rdcI (nI k) (nI j) (nI t) ∧ 0 ≤ (dotcI (nI k) (nI j) (nI t)).toInt ∧ (dotcI (nI k) (nI j) (nI t)).toInt ≤ 81 := by decide +kernel
theorem dc_eq {fo fn : Nat → Int32} (h1 : dB fo) (h2 : dB fn) (b m : Int32) {k t : Nat} (hk : k < 5) (ht : t < 16) : dcI (nI k) fo fn b m (nI t) = rcI (nI k) fo fn b m (nI t) ∧ 0 ≤ (dcI (nI k) fo fn b m (nI t)).toInt ∧ (dcI (nI k) fo fn b m (nI t)).toInt ≤ 81 := by
  obtain ⟨j, hj, e⟩ := far_b h1 h2 b m (nI t)
  unfold dcI rcI
  rw [e]
  exact dotc_eq j hj t ht k hk
/-- costs of dots: between 0 and 81 -/
def gB (g : Int32 → Int32) : Prop := ∀ t, t < 16 → 0 ≤ (g (nI t)).toInt ∧ (g (nI t)).toInt ≤ 81
theorem accL_cg {g h : Int32 → Int32} : ∀ (n i : Nat) (s : Int32), (∀ t, i ≤ t → t < i + n → g (nI t) = h (nI t)) → accL g n i s = accL h n i s
  | 0, _, _, _ => rfl
  | n + 1, i, s, e => by rw [accL, accL, e i (by omega) (by omega)]; exact accL_cg n (i + 1) _ (fun t h1 h2 => e t (by omega) (by omega))
theorem cbL_cg {g h : Int32 → Int32} (lim : Int32) : ∀ (n i : Nat) (s lk : Int32), (∀ t, i ≤ t → t < i + n → g (nI t) = h (nI t)) → cbL g lim n i s lk = cbL h lim n i s lk
  | 0, _, _, _, _ => rfl
  | n + 1, i, s, lk, e => by rw [cbL, cbL, e i (by omega) (by omega), cbL_cg lim n (i + 1) _ _ (fun t h1 h2 => e t (by omega) (by omega))]
theorem accL_b {g : Int32 → Int32} (hg : gB g) : ∀ (n i : Nat) (s : Int32), i + n ≤ 16 → 0 ≤ s.toInt → s.toInt + 81 * n ≤ 5000 → s.toInt ≤ (accL g n i s).toInt ∧ (accL g n i s).toInt ≤ s.toInt + 81 * n
  | 0, _, s, _, _, _ => by rw [accL]; omega
  | n + 1, i, s, h, h0, h1 => by
    rw [accL]
    have hb := hg i (by omega)
    have e : (s + g (nI i)).toInt = s.toInt + (g (nI i)).toInt := i_add (by omega) (by omega)
    have ih := accL_b hg n (i + 1) (s + g (nI i)) (by omega) (by rw [e]; omega) (by rw [e]; omega)
    rw [e] at ih
    omega
/-- ended early, it is no less than the limit; else it is the whole -/
theorem cbL_s {g : Int32 → Int32} (hg : gB g) (lim : Int32) : ∀ (n i : Nat) (s lk : Int32), i + n ≤ 16 → 0 ≤ s.toInt → s.toInt + 81 * n ≤ 5000 → ((cbL g lim n i s lk).1 < lim ↔ accL g n i s < lim) ∧ (accL g n i s < lim → (cbL g lim n i s lk).1 = accL g n i s)
  | 0, _, s, lk, _, _, _ => ⟨Iff.rfl, fun _ => rfl⟩
  | n + 1, i, s, lk, h, h0, h1 => by
    rw [cbL]
    have hb := hg i (by omega)
    have e : (s + g (nI i)).toInt = s.toInt + (g (nI i)).toInt := i_add (by omega) (by omega)
    by_cases h2 : lim ≤ s
    · rw [if_pos h2]
      have ab := accL_b hg (n + 1) i s h h0 h1
      have hn : ¬ accL g (n + 1) i s < lim := by rw [ma_lt]; rw [ma_le] at h2; omega
      exact ⟨⟨fun q => absurd q (Int32.not_lt.mpr h2), fun q => absurd q hn⟩, fun q => absurd q hn⟩
    · rw [if_neg h2, accL]
      exact cbL_s hg lim n (i + 1) _ _ (by omega) (by rw [e]; omega) (by rw [e]; omega)
theorem cbL_lk (g : Int32 → Int32) (lim : Int32) : ∀ (n i : Nat) (s lk : Int32), (cbL g lim n i s lk).1 = (cbL g lim n i s 0).1 ∧ (cbL g lim n i s lk).2 = lk + (cbL g lim n i s 0).2
  | 0, _, s, lk => ⟨rfl, by rw [cbL, cbL, Int32.add_zero]⟩
  | n + 1, i, s, lk => by
    rw [cbL, cbL]
    split
    · exact ⟨rfl, (Int32.add_zero _).symm⟩
    · have h1 := cbL_lk g lim n (i + 1) (s + g (nI i)) (lk + 1)
      have h2 := cbL_lk g lim n (i + 1) (s + g (nI i)) (0 + 1)
      exact ⟨h1.1.trans h2.1.symm, by rw [h1.2, h2.2, Int32.zero_add, Int32.add_assoc]⟩
theorem ord_in : ∀ i, i < 49 → nearP (ordF i) 24 3 ∧ 0 ≤ (atoI 3 (ordF i)).toInt ∧ (atoI 3 (ordF i)).toInt ≤ 12 ∧ wthn (ordF i) 0 48 := by decide +kernel
theorem ato_b {k : Int32} {i : Nat} (h : i < 49) : 0 ≤ (atoI k (ordF i)).toInt ∧ (atoI k (ordF i)).toInt ≤ 12 := by
  have h1 := ord_in i h
  by_cases hk : k = 3
  · subst hk; exact ⟨h1.2.1, h1.2.2.1⟩
  · unfold atoI; rw [if_neg hk]; decide
theorem gB_dc {fo fn : Nat → Int32} (h1 : dB fo) (h2 : dB fn) (b m : Int32) {k : Nat} (hk : k < 5) : gB (dcI (nI k) fo fn b m) := fun t ht => (dc_eq h1 h2 b m hk ht).2
theorem rcC_eq {fo fn : Nat → Int32} (h1 : dB fo) (h2 : dB fn) (b m : Int32) {k : Nat} (hk : k < 5) : rcC (nI k) fo fn b m = accL (dcI (nI k) fo fn b m) 16 0 (atoI (nI k) m) := (accL_cg 16 0 _ (fun t h3 h4 => (dc_eq h1 h2 b m hk (by omega)).1)).symm
theorem cb_ref {fo fn : Nat → Int32} (h1 : dB fo) (h2 : dB fn) (b m lim s lk : Int32) {k : Nat} (hk : k < 5) : cbL (dcI (nI k) fo fn b m) lim 16 0 s lk = cbL (rcI (nI k) fo fn b m) lim 16 0 s lk := cbL_cg lim 16 0 s lk (fun t h3 h4 => (dc_eq h1 h2 b m hk (by omega)).1)
/-- one move tried -/
theorem cb_try {fo fn : Nat → Int32} (h1 : dB fo) (h2 : dB fn) (b lim lk : Int32) {k i : Nat} (hk : k < 5) (hi : i < 49) : ((cbL (dcI (nI k) fo fn b (ordF i)) lim 16 0 (atoI (nI k) (ordF i)) lk).1 < lim ↔ rcC (nI k) fo fn b (ordF i) < lim) ∧ (rcC (nI k) fo fn b (ordF i) < lim → (cbL (dcI (nI k) fo fn b (ordF i)) lim 16 0 (atoI (nI k) (ordF i)) lk).1 = rcC (nI k) fo fn b (ordF i)) := by
  rw [rcC_eq h1 h2 b _ hk]
  have ha := ato_b (k := nI k) hi
  exact cbL_s (gB_dc h1 h2 b (ordF i) hk) lim 16 0 _ lk (by omega) ha.1 (by omega)
theorem rc_b {fo fn : Nat → Int32} (h1 : dB fo) (h2 : dB fn) (b : Int32) {k i : Nat} (hk : k < 5) (hi : i < 49) : 0 ≤ (rcC (nI k) fo fn b (ordF i)).toInt ∧ (rcC (nI k) fo fn b (ordF i)).toInt ≤ 1308 := by
  rw [rcC_eq h1 h2 b _ hk]
  have ha := ato_b (k := nI k) hi
  have := accL_b (gB_dc h1 h2 b (ordF i) hk) 16 0 (atoI (nI k) (ordF i)) (by omega) ha.1 (by omega)
  omega
/-- the best move and its cost, whole sums -/
def rbP (c : Int32 → Int32) : Nat → Nat → Int32 → Int32 → Int32 × Int32
  | 0, _, be, le => (be, le)
  | n + 1, t, be, le => if c (ordF t) < le then rbP c n (t + 1) (ordF t) (c (ordF t)) else rbP c n (t + 1) be le
theorem rbP_rb {o : Nat → Int32} (ho : ∀ j, j < 49 → o j = ordF j) (c : Int32 → Int32) : ∀ n t be le, t + n ≤ 49 → rbL o c n t be le = (rbP c n t be le).1
  | 0, _, _, _, _ => rfl
  | n + 1, t, be, le, h => by
    rw [rbL, rbP, ho t (by omega)]
    split
    · exact rbP_rb ho c n (t + 1) _ _ (by omega)
    · exact rbP_rb ho c n (t + 1) _ _ (by omega)
theorem rbP_c (c : Int32 → Int32) : ∀ n t be le, le = c be → (rbP c n t be le).2 = c (rbP c n t be le).1
  | 0, _, _, _, h => h
  | n + 1, t, be, le, h => by
    rw [rbP]
    split
    · exact rbP_c c n (t + 1) _ _ rfl
    · exact rbP_c c n (t + 1) _ _ h
theorem tm_rb {fo fn : Nat → Int32} (h1 : dB fo) (h2 : dB fn) (b : Int32) {k : Nat} (hk : k < 5) : ∀ n i mv co lk lo, i + n ≤ 49 → (tmL (nI k) fo fn b 24 3 0 n i mv co lk lo).1 = (rbP (rcC (nI k) fo fn b) n i mv co).1 ∧ (tmL (nI k) fo fn b 24 3 0 n i mv co lk lo).2.1 = (rbP (rcC (nI k) fo fn b) n i mv co).2
  | 0, _, _, _, _, _, _ => ⟨rfl, rfl⟩
  | n + 1, i, mv, co, lk, lo, h => by
    rw [tmL, rbP, if_pos (ord_in i (by omega)).1, if_neg (fun q => q.1 rfl)]
    obtain ⟨t1, t2⟩ := cb_try h1 h2 b co lk hk (show i < 49 by omega)
    by_cases hc : rcC (nI k) fo fn b (ordF i) < co
    · rw [if_pos (t1.mpr hc), if_pos hc, t2 hc]
      exact tm_rb h1 h2 b hk n (i + 1) _ _ _ _ (by omega)
    · rw [if_neg (fun q => hc (t1.mp q)), if_neg hc]
      exact tm_rb h1 h2 b hk n (i + 1) _ _ _ _ (by omega)
