theorem skp_stop (le : Nat → Int32) : ∀ k p, skp le k p < p + k → ¬ le (skp le k p) = 32
  | 0, p, h => by rw [skp] at h; omega
  | k + 1, p, h => by
    rw [skp] at h ⊢
    split
    · next h1 => rw [if_pos h1] at h; exact skp_stop le k (p + 1) (by omega)
    · next h1 => exact h1
theorem hrP_idem (le : Nat → Int32) {n p : Nat} (h : p ≤ n) : hrP le n (hrP le n p) = hrP le n p := by
  have h1 := hrP_le le h
  rcases Nat.lt_or_ge (hrP le n p) n with h2 | h2
  · have h3 : ¬ le (hrP le n p) = 32 := skp_stop le (n - p) p (by show hrP le n p < _; omega)
    show skp le (n - hrP le n p) (hrP le n p) = hrP le n p
    obtain ⟨k, hk⟩ : ∃ k, n - hrP le n p = k + 1 := ⟨n - hrP le n p - 1, by omega⟩
    rw [hk, skp, if_neg h3]
  · have : n - hrP le n p = 0 := by omega
    show skp le (n - hrP le n p) (hrP le n p) = hrP le n p
    rw [this]; rfl
theorem hrC_idem (le : Nat → Int32) {n p : Nat} (h : p ≤ n) : hrC le n (hrP le n p) = hrC le n p := by unfold hrC; rw [hrP_idem le h]
theorem hrC_lt {le : Nat → Int32} {n p : Nat} (h : ¬ hrC le n p = 0) : hrP le n p < n := by
  unfold hrC at h
  split at h
  · next h1 => exact h1
  · exact absurd rfl h
def rnN (c : Int32) : Nat := if c = 114 then 1 else 0
theorem rnN_B (c : Int32) : mB (c = 114) = nI (rnN c) := by unfold mB rnN; split <;> rfl
def rdP (le : Nat → Int32) (n p : Nat) : Nat := hrP le n p + rnN (hrC le n p)
def rdV (le : Nat → Int32) (n p : Nat) : Int32 := hrC le n (rdP le n p) - 48
/-- dots, as the reference reads them -/
def rdtL (le : Nat → Int32) (n : Nat) : Nat → Nat → Nat → (Nat → Int32) → Int32 × Nat × (Nat → Int32)
  | 0, t, p, g => (if hrC le n p = 0 then nI t else -1000004, hrP le n p, g)
  | k + 1, t, p, g => if t < 96 ∧ ¬ hrC le n p = 0 then (if wthn (rdV le n p) 0 9 then rdtL le n k (endN t (mB (hrC le n p = 114))) (hrP le n (rdP le n p) + 1) (filI (rdV le n p) (endN t (mB (hrC le n p = 114)) - t) t g) else (-1000004, hrP le n (rdP le n p), g)) else (if hrC le n p = 0 then nI t else -1000004, hrP le n p, g)
def rdD (d : mD) (m rd p : Nat) (g : Nat → Int32) : mD := tA (sI d 296 m (nI p)) rd g
theorem rdD_295 (d : mD) (m rd p : Nat) (g : Nat → Int32) : gI (rdD d m rd p g) 295 m = gI d 295 m := by unfold rdD; rw [gI_tA, gI_ne (by decide)]
theorem rdD_296 (d : mD) (m rd p : Nat) (g : Nat → Int32) : gI (rdD d m rd p g) 296 m = nI p := by unfold rdD; rw [gI_tA, gI_eq]
theorem rdD_299 (d : mD) (m rd p : Nat) (g : Nat → Int32) : gI (rdD d m rd p g) 299 m = gI d 299 m := by unfold rdD; rw [gI_tA, gI_ne (by decide)]
theorem rdD_ne (d : mD) (m rd p : Nat) (g : Nat → Int32) {b : Nat} (h : b ≠ rd) : gA (rdD d m rd p g) b = gA d b := by unfold rdD; rw [gA_tA, if_neg h, gA_sI]
theorem rdD_rd (d : mD) (m rd p : Nat) (g : Nat → Int32) : gA (rdD d m rd p g) rd = g := by unfold rdD; rw [gA_tA, if_pos rfl]
theorem rdD_pl (d : mD) (m rd p q : Nat) (g : Nat → Int32) : sI (rdD d m rd p g) 296 m (nI q) = rdD d m rd q g := by unfold rdD; rw [← tA_sIc, sI_sI]
theorem rdD_tA (d : mD) (m rd p : Nat) (g h : Nat → Int32) : tA (rdD d m rd p g) rd h = rdD d m rd p h := tA_tA _ _ _ _
theorem rdD_0 {d : mD} {m rd p : Nat} (h : gI d 296 m = nI p) : rdD d m rd p (gA d rd) = d := by unfold rdD; rw [← h, sI_self, tA_self]
theorem endN_1 (t : Nat) {rn : Int32} (h : rn = 0) : endN t rn = t + 1 := by unfold endN; rw [if_pos h]
theorem endN_r (t : Nat) {rn : Int32} (h : ¬ rn = 0) : endN t rn = (t / 12 + 1) * 12 := by unfold endN; rw [if_neg h]
abbrev isPc (w : Int32) : Prop := w = 111 ∨ w = 110 ∨ w = 98
def isN (w : Int32) : Nat := if isPc w then 1 else 0
theorem isN_B (w : Int32) : mB (isPc w) = nI (isN w) := by unfold mB isN; split <;> rfl
def rpiT (le : Nat → Int32) (n : Nat) (g : Nat → Int32) : Int32 × Nat × (Nat → Int32) := if isPc (hrC le n 0) then rdtL le n 96 0 (hrP le n 0 + 1) g else (-1000004, hrP le n 0, g)
theorem rdtL_le (le : Nat → Int32) (n : Nat) : ∀ k t p g, p ≤ n → (rdtL le n k t p g).2.1 ≤ n
  | 0, t, p, g, h => hrP_le le h
  | k + 1, t, p, g, h => by
    rw [rdtL]
    split
    · next h1 =>
      have h2 : rdP le n p ≤ n := by have := hrC_lt h1.2; unfold rdP rnN; split <;> omega
      split
      · next h3 =>
        refine rdtL_le le n k _ _ _ ?_
        have : hrP le n (rdP le n p) < n := hrC_lt (fun h => absurd h3.1 (by unfold rdV; rw [h]; decide))
        omega
      · exact hrP_le le h2
    · exact hrP_le le h
theorem rpiT_le (le : Nat → Int32) (n : Nat) (g : Nat → Int32) : (rpiT le n g).2.1 ≤ n := by
  unfold rpiT
  have h0 := hrP_le le (Nat.zero_le n)
  split
  · next h =>
    refine rdtL_le le n _ _ _ _ ?_
    have : hrP le n 0 < n := hrC_lt (fun q => by rw [q] at h; revert h; decide)
    omega
  · exact h0
def piH (q : Int32 × Nat × (Nat → Int32)) (k : Nat) : Int32 := if nI k < q.1 then q.2.2 k else 0
def piW (w : Int32) (f h : Nat → Int32) (i : Nat) : Nat → Int32 := fun k => if k < i ∧ ¬ w = 110 then h k else if 96 ≤ k ∧ k < 96 + i ∧ ¬ w = 111 then h (k - 96) else f k
theorem piW_0 (w : Int32) (f h : Nat → Int32) : piW w f h 0 = f := by funext k; unfold piW; rw [if_neg (by omega), if_neg (by omega)]
theorem piW_a (w : Int32) (f h : Nat → Int32) {i : Nat} (hi : i < 96) : piW w f h i i = f i := by unfold piW; rw [if_neg (by omega), if_neg (by omega)]
theorem piW_b (w : Int32) (f h : Nat → Int32) {i : Nat} (x : Int32) (hi : i < 96) : upd (piW w f h i) i x (96 + i) = f (96 + i) := by unfold upd piW; rw [if_neg (by omega), if_neg (by omega), if_neg (by omega)]
theorem piW_1 (w : Int32) (f h : Nat → Int32) {i k : Nat} (h1 : k < i ∧ ¬ w = 110) : piW w f h i k = h k := if_pos h1
theorem piW_2 (w : Int32) (f h : Nat → Int32) {i k : Nat} (h1 : ¬ (k < i ∧ ¬ w = 110)) (h2 : 96 ≤ k ∧ k < 96 + i ∧ ¬ w = 111) : piW w f h i k = h (k - 96) := by unfold piW; rw [if_neg h1, if_pos h2]
theorem piW_3 (w : Int32) (f h : Nat → Int32) {i k : Nat} (h1 : ¬ (k < i ∧ ¬ w = 110)) (h2 : ¬ (96 ≤ k ∧ k < 96 + i ∧ ¬ w = 111)) : piW w f h i k = f k := by unfold piW; rw [if_neg h1, if_neg h2]
theorem piW_s (w : Int32) (f h : Nat → Int32) {i : Nat} (hi : i < 96) : upd (upd (piW w f h i) i (if w = 110 then f i else h i)) (96 + i) (if w = 111 then f (96 + i) else h i) = piW w f h (i + 1) := by
  funext k
  unfold upd
  by_cases h1 : k = 96 + i
  · subst h1
    rw [if_pos rfl]
    by_cases h2 : w = 111
    · rw [if_pos h2, piW_3 _ _ _ (by omega) (fun q => q.2.2 h2)]
    · rw [if_neg h2, piW_2 _ _ _ (by omega) ⟨by omega, by omega, h2⟩, Nat.add_sub_cancel_left]
  · rw [if_neg h1]
    by_cases h3 : k = i
    · subst h3
      rw [if_pos rfl]
      by_cases h2 : w = 110
      · rw [if_pos h2, piW_3 _ _ _ (fun q => q.2 h2) (by omega)]
      · rw [if_neg h2, piW_1 _ _ _ ⟨by omega, h2⟩]
    · rw [if_neg h3]
      by_cases h4 : k < i ∧ ¬ w = 110
      · rw [piW_1 _ _ _ h4, piW_1 _ _ _ ⟨by omega, h4.2⟩]
      · have h6 : ¬ (k < i + 1 ∧ ¬ w = 110) := fun q => h4 ⟨by omega, q.2⟩
        by_cases h5 : 96 ≤ k ∧ k < 96 + i ∧ ¬ w = 111
        · rw [piW_2 _ _ _ h4 h5, piW_2 _ _ _ h6 ⟨h5.1, by omega, h5.2.2⟩]
        · rw [piW_3 _ _ _ h4 h5, piW_3 _ _ _ h6 (fun q => h5 ⟨q.1, by omega, q.2.2⟩)]
def rpiR (le : Nat → Int32) (n : Nat) (q : Int32 × Nat × (Nat → Int32)) : Int32 := if q.1 = -1000004 then -1000020 - (if hrC le n q.2.1 = 0 then nI n else nI (hrP le n q.2.1)) else q.1
def rpiE (d : mD) (m rd : Nat) (q : Int32 × Nat × (Nat → Int32)) : mD := rdD d m rd q.2.1 q.2.2
def rpiF (d : mD) (m nw rd : Nat) (w : Int32) (q : Int32 × Nat × (Nat → Int32)) (i : Nat) : mD := tA (rpiE d m rd q) nw (piW w (gA d nw) (piH q) i)
def rpiD (d : mD) (m nw rd tp n : Nat) (q : Int32 × Nat × (Nat → Int32)) : mD := if q.1 = -1000004 then sI (rdD d m rd (hrP (gA d tp) n q.2.1) q.2.2) 295 m 0 else sI (sI (rpiF d m nw rd (hrC (gA d tp) n 0) q 96) 299 m 0) 295 m 0
theorem rpiF_nw (d : mD) (m nw rd : Nat) (w : Int32) (q : Int32 × Nat × (Nat → Int32)) (i : Nat) : gA (rpiF d m nw rd w q i) nw = piW w (gA d nw) (piH q) i := by unfold rpiF; rw [gA_tA, if_pos rfl]
theorem rpiF_rd (d : mD) {m nw rd : Nat} (w : Int32) (q : Int32 × Nat × (Nat → Int32)) (i : Nat) (h : rd ≠ nw) : gA (rpiF d m nw rd w q i) rd = q.2.2 := by unfold rpiF rpiE; rw [gA_tA, if_neg h, rdD_rd]
theorem rpiF_0 (d : mD) {m nw rd : Nat} (w : Int32) (q : Int32 × Nat × (Nat → Int32)) (h : nw ≠ rd) : rpiF d m nw rd w q 0 = rpiE d m rd q := by unfold rpiF; rw [piW_0]; exact tA_selfE (rdD_ne _ _ _ _ _ h)
theorem c_X9_dots {l : Launch} {G : mG} {Z : mZ} {d : mD} {m nw od fd tp rd ah kp ka ln sz it mv : Nat} {n p0 : Nat} (hm : mdS Z m nw od fd tp rd ah kp ka ln sz it mv) (hn : gI d 295 m = nI n) (hn2 : n ≤ 120) (hpl : gI d 296 m = nI p0) (hpn : p0 ≤ n) : CtI l G yX9_dots cX9_dots 4 .int 1 25 [.ref m] Z d (rdtL (gA d tp) n 96 0 p0 (gA d rd)).1 (rdD d m rd (rdtL (gA d tp) n 96 0 p0 (gA d rd)).2.1 (rdtL (gA d tp) n 96 0 p0 (gA d rd)).2.2) := by
  refine enterI RX9 3 [some (.ref m), none, none, none] (by decide) rfl (rfl) rfl rfl (fun X hR => ?_)
  refine g_iconst (pc := 0) dX9_dots_0 kc0 ?_
  refine is1 (pc := 1) dX9_dots_1 rfl ?_
  have L2 : ∀ (k i : Nat) (t : Nat) (p : Nat) (g : Nat → Int32), i + k = 96 → (i ≤ t) → (t ≤ 96) → (p ≤ n) → (rdtL (gA d tp) n k t p g = rdtL (gA d tp) n 96 0 p0 (gA d rd)) → mGo l G (mRm 1 25) X RX9 cX9_dots 4 0 0 Z 2 [some (.ref m), some (.int (nI t)), none, none] [] (rdD d m rd p g) := by
    intro k; induction k with
    | zero =>
      intro i t p g hin2 hit ht hp hF
      obtain rfl : t = 96 := by omega
      refine il1 (pc := 2) dX9_dots_2 ?_
      refine g_bipush (pc := 3) dX9_dots_3 kb96 ?_
      refine g_icmpge 118 (pc := 5) dX9_dots_5 (by decide) (fun c5 => ?_) (fun c5 => absurd (nI_le (a := 96) (by omega) (by omega)) c5)
      refine al0 (pc := 118) dX9_dots_118 ?_
      refine cl_X9_180 (pc := 119) (c_X9_here (n := n) (p := p) hm ((rdD_295 _ _ _ _ _).trans hn) hn2 (rdD_296 _ _ _ _ _) hp) hm.o9 (by decide) ⟨Nat.zero_le _, Nat.zero_le _⟩ (Nat.le_of_ble_eq_true rfl) dX9_dots_119 ?_
      rw [rdD_ne _ _ _ _ _ hm.n_tp_rd, rdD_pl]
      refine g_ifne 129 (pc := 122) dX9_dots_122 (by decide) (fun c122 => ?_) (fun c122 => ?_)
      · skip
        refine g_ldc (pc := 129) dX9_dots_129 wk_X9_108 ?_
        exact retI (pc := 131) hR dX9_dots_131 (by rw [← hF, rdtL]; simp [c122]) (by rw [← hF, rdtL])
      · skip
        refine il1 (pc := 125) dX9_dots_125 ?_
        refine g_goto 131 (pc := 126) dX9_dots_126 (by decide) ?_
        exact retI (pc := 131) hR dX9_dots_131 (by rw [← hF, rdtL]; simp [c122]) (by rw [← hF, rdtL])
    | succ k ih2 =>
      intro i t p g hin2 hit ht hp hF
      refine il1 (pc := 2) dX9_dots_2 ?_
      refine g_bipush (pc := 3) dX9_dots_3 kb96 ?_
      refine g_icmpge 118 (pc := 5) dX9_dots_5 (by decide) (fun c5 => ?_) (fun c5 => ?_)
      · skip
        have ht9 : ¬ t < 96 := fun h => by have := (nI_leI (a := 96) (by decide) (by omega)).mp c5; omega
        refine al0 (pc := 118) dX9_dots_118 ?_
        refine cl_X9_180 (pc := 119) (c_X9_here (n := n) (p := p) hm ((rdD_295 _ _ _ _ _).trans hn) hn2 (rdD_296 _ _ _ _ _) hp) hm.o9 (by decide) ⟨Nat.zero_le _, Nat.zero_le _⟩ (Nat.le_of_ble_eq_true rfl) dX9_dots_119 ?_
        rw [rdD_ne _ _ _ _ _ hm.n_tp_rd, rdD_pl]
        refine g_ifne 129 (pc := 122) dX9_dots_122 (by decide) (fun c122 => ?_) (fun c122 => ?_)
        · skip
          refine g_ldc (pc := 129) dX9_dots_129 wk_X9_108 ?_
          exact retI (pc := 131) hR dX9_dots_131 (by rw [← hF, rdtL, if_neg (fun h => ht9 h.1)]; simp [c122]) (by rw [← hF, rdtL, if_neg (fun h => ht9 h.1)])
        · skip
          refine il1 (pc := 125) dX9_dots_125 ?_
          refine g_goto 131 (pc := 126) dX9_dots_126 (by decide) ?_
          exact retI (pc := 131) hR dX9_dots_131 (by rw [← hF, rdtL, if_neg (fun h => ht9 h.1)]; simp [c122]) (by rw [← hF, rdtL, if_neg (fun h => ht9 h.1)])
      · skip
        have ht9 : t < 96 := by rcases Nat.lt_or_ge t 96 with h | h; exact h; exact absurd (nI_le (a := 96) h (by omega)) c5
        refine al0 (pc := 8) dX9_dots_8 ?_
        refine cl_X9_180 (pc := 9) (c_X9_here (n := n) (p := p) hm ((rdD_295 _ _ _ _ _).trans hn) hn2 (rdD_296 _ _ _ _ _) hp) hm.o9 (by decide) ⟨Nat.zero_le _, Nat.zero_le _⟩ (Nat.le_of_ble_eq_true rfl) dX9_dots_9 ?_
        rw [rdD_ne _ _ _ _ _ hm.n_tp_rd, rdD_pl]
        refine g_ifeq 118 (pc := 12) dX9_dots_12 (by decide) (fun c12 => ?_) (fun c12 => ?_)
        · skip
          refine al0 (pc := 118) dX9_dots_118 ?_
          refine cl_X9_180 (pc := 119) (c_X9_here (n := n) (p := hrP (gA d tp) n p) hm ((rdD_295 _ _ _ _ _).trans hn) hn2 (rdD_296 _ _ _ _ _) (hrP_le _ hp)) hm.o9 (by decide) ⟨Nat.zero_le _, Nat.zero_le _⟩ (Nat.le_of_ble_eq_true rfl) dX9_dots_119 ?_
          rw [rdD_ne _ _ _ _ _ hm.n_tp_rd, rdD_pl, hrC_idem _ hp, hrP_idem _ hp]
          refine g_ifne 129 (pc := 122) dX9_dots_122 (by decide) (fun c122 => ?_) (fun c122 => ?_)
          · skip
            refine g_ldc (pc := 129) dX9_dots_129 wk_X9_108 ?_
            exact retI (pc := 131) hR dX9_dots_131 (absurd c12 c122) (by rw [← hF, rdtL, if_neg (fun h => h.2 c12)])
          · skip
            refine il1 (pc := 125) dX9_dots_125 ?_
            refine g_goto 131 (pc := 126) dX9_dots_126 (by decide) ?_
            exact retI (pc := 131) hR dX9_dots_131 (by rw [← hF, rdtL, if_neg (fun h => h.2 c12)]; simp [c122]) (by rw [← hF, rdtL, if_neg (fun h => h.2 c12)])
        · skip
          have hlt9 := hrC_lt c12
          have J29 : ∀ (v9 : Int32), v9 = mB (hrC (gA d tp) n p = 114) → mGo l G (mRm 1 25) X RX9 cX9_dots 4 0 0 Z 29 [some (.ref m), some (.int (nI t)), none, none] [.int v9] (rdD d m rd (hrP (gA d tp) n p) g) := by
            intro v9 hJ29
            subst hJ29
            refine is2 (pc := 29) dX9_dots_29 rfl ?_
            have J44 : ∀ (v8 : Int32), v8 = mB (hrC (gA d tp) n p = 114) → mGo l G (mRm 1 25) X RX9 cX9_dots 4 0 0 Z 44 [some (.ref m), some (.int (nI t)), some (.int (mB (hrC (gA d tp) n p = 114))), none] [.int v8, .int (nI (hrP (gA d tp) n p)), .ref m] (rdD d m rd (hrP (gA d tp) n p) g) := by
              intro v8 hJ44
              subst hJ44
              refine g_iadd (pc := 44) dX9_dots_44 ?_
              rw [show nI (hrP (gA d tp) n p) + (mB (hrC (gA d tp) n p = 114)) = nI (rdP (gA d tp) n p) by rw [rnN_B, nI_add]; rfl]
              refine pf_X9_177 (pc := 45) hm.o9 dX9_dots_45 ?_
              rw [rdD_pl]
              refine al0 (pc := 48) dX9_dots_48 ?_
              have hp2 : rdP (gA d tp) n p ≤ n := by unfold rdP rnN; split <;> omega
              refine cl_X9_180 (pc := 49) (c_X9_here (n := n) (p := rdP (gA d tp) n p) hm ((rdD_295 _ _ _ _ _).trans hn) hn2 (rdD_296 _ _ _ _ _) hp2) hm.o9 (by decide) ⟨Nat.zero_le _, Nat.zero_le _⟩ (Nat.le_of_ble_eq_true rfl) dX9_dots_49 ?_
              rw [rdD_ne _ _ _ _ _ hm.n_tp_rd, rdD_pl]
              refine g_bipush (pc := 52) dX9_dots_52 kb48 ?_
              refine g_isub (pc := 54) dX9_dots_54 ?_
              rw [← rdV]
              refine is3 (pc := 55) dX9_dots_55 rfl ?_
              refine il3 (pc := 56) dX9_dots_56 ?_
              refine g_i2l (pc := 57) dX9_dots_57 ?_
              refine g_lconst (pc := 58) dX9_dots_58 kl0 ?_
              refine g_ldc2 (pc := 59) dX9_dots_59 wk_X9_183 ?_
              refine cl_X9_70 (pc := 62) (c_X9_in) (by decide) ⟨Nat.zero_le _, Nat.zero_le _⟩ (Nat.le_of_ble_eq_true rfl) dX9_dots_62 ?_
              rw [inI (rdV (gA d tp) n p) (0) 9 (by decide) (by decide)]
              refine g_ifne 71 (pc := 65) dX9_dots_65 (by decide) (fun c65 => ?_) (fun c65 => ?_)
              · skip
                (try simp only [mB_eq0, Decidable.not_not] at c65)
                have hlt8 : hrP (gA d tp) n (rdP (gA d tp) n p) < n := hrC_lt (fun h => absurd c65.1 (by unfold rdV; rw [h]; decide))
                have hE := endN_gt t (mB (hrC (gA d tp) n p = 114))
                have hE2 := endN_le (mB (hrC (gA d tp) n p = 114)) ht9
                refine al0 (pc := 71) dX9_dots_71 ?_
                refine g_dupR (pc := 72) dX9_dots_72 ?_
                refine gf_X9_177 (pc := 73) hm.o9 dX9_dots_73 ?_
                rw [rdD_296]
                refine g_iconst (pc := 76) dX9_dots_76 kc1 ?_
                refine g_iadd (pc := 77) dX9_dots_77 ?_
                rw [nI_1]
                refine pf_X9_177 (pc := 78) hm.o9 dX9_dots_78 ?_
                rw [rdD_pl]
                refine al0 (pc := 81) dX9_dots_81 ?_
                refine gf_X9_22 (pc := 82) hm.o9 hm.r297 dX9_dots_82 ?_
                refine il1 (pc := 85) dX9_dots_85 ?_
                refine il3 (pc := 86) dX9_dots_86 ?_
                refine g_iast (pc := 87) t hm.a_rd (by omega) (rfl) (by decide) dX9_dots_87 ?_
                rw [rdD_rd, rdD_tA]
                refine ic1 (pc := 88) dX9_dots_88 kc1 rfl ?_
                rw [nI_1]
                have L91 : ∀ (n9 sq : Nat) (g9 : Nat → Int32), sq + n9 = (endN t (mB (hrC (gA d tp) n p = 114))) → (t + 1 ≤ sq) → (filI (rdV (gA d tp) n p) n9 sq g9 = filI (rdV (gA d tp) n p) (endN t (mB (hrC (gA d tp) n p = 114)) - t) t g) → mGo l G (mRm 1 25) X RX9 cX9_dots 4 0 0 Z 91 [some (.ref m), some (.int (nI sq)), some (.int (mB (hrC (gA d tp) n p = 114))), some (.int (rdV (gA d tp) n p))] [] (rdD d m rd (hrP (gA d tp) n (rdP (gA d tp) n p) + 1) g9) := by
                  intro n9; induction n9 with
                  | zero =>
                    intro sq g9 hin91 hs1 hG
                    obtain rfl : sq = endN t (mB (hrC (gA d tp) n p = 114)) := by omega
                    have hG2 : g9 = filI (rdV (gA d tp) n p) (endN t (mB (hrC (gA d tp) n p = 114)) - t) t g := hG
                    subst hG2
                    refine il2 (pc := 91) dX9_dots_91 ?_
                    refine g_ifeq 115 (pc := 92) dX9_dots_92 (by decide) (fun c92 => ?_) (fun c92 => ?_)
                    · skip
                      refine g_goto 2 (pc := 115) dX9_dots_115 (by decide) ?_
                      refine dr2 ?_
                      refine dr3 ?_
                      exact ih2 (i + 1) (endN t (mB (hrC (gA d tp) n p = 114))) (hrP (gA d tp) n (rdP (gA d tp) n p) + 1) _ (by omega) (by omega) hE2 (by omega) (by rw [← hF, rdtL, if_pos ⟨ht9, c12⟩, if_pos c65])
                    · skip
                      refine il1 (pc := 95) dX9_dots_95 ?_
                      refine g_bipush (pc := 96) dX9_dots_96 kb12 ?_
                      refine g_irem (pc := 98) dX9_dots_98 (by decide) ?_
                      rw [show mRem (nI (endN t (mB (hrC (gA d tp) n p = 114)))) 12 = nI (endN t (mB (hrC (gA d tp) n p = 114)) % 12) from rem_nI 12 (by omega) (by decide) (by decide)]
                      refine g_ifeq 115 (pc := 99) dX9_dots_99 (by decide) (fun c99 => ?_) (fun c99 => absurd (by rw [endN_r t c92]; rw [Nat.mul_mod_left]; rfl) c99)
                      refine g_goto 2 (pc := 115) dX9_dots_115 (by decide) ?_
                      refine dr2 ?_
                      refine dr3 ?_
                      exact ih2 (i + 1) (endN t (mB (hrC (gA d tp) n p = 114))) (hrP (gA d tp) n (rdP (gA d tp) n p) + 1) _ (by omega) (by omega) hE2 (by omega) (by rw [← hF, rdtL, if_pos ⟨ht9, c12⟩, if_pos c65])
                  | succ n9 ih91 =>
                    intro sq g9 hin91 hs1 hG
                    refine il2 (pc := 91) dX9_dots_91 ?_
                    refine g_ifeq 115 (pc := 92) dX9_dots_92 (by decide) (fun c92 => absurd c92 (fun h => by rw [endN_1 t h] at hin91; omega)) (fun c92 => ?_)
                    refine il1 (pc := 95) dX9_dots_95 ?_
                    refine g_bipush (pc := 96) dX9_dots_96 kb12 ?_
                    refine g_irem (pc := 98) dX9_dots_98 (by decide) ?_
                    rw [show mRem (nI sq) 12 = nI (sq % 12) from rem_nI 12 (by omega) (by decide) (by decide)]
                    refine g_ifeq 115 (pc := 99) dX9_dots_99 (by decide) (fun c99 => absurd c99 (fun h => by have h7 := (nI_eq (b := 0) (by omega) (by decide)).mp h; rw [endN_r t c92] at hin91; omega)) (fun c99 => ?_)
                    refine al0 (pc := 102) dX9_dots_102 ?_
                    refine gf_X9_22 (pc := 103) hm.o9 hm.r297 dX9_dots_103 ?_
                    refine il1 (pc := 106) dX9_dots_106 ?_
                    refine il3 (pc := 107) dX9_dots_107 ?_
                    refine g_iast (pc := 108) sq hm.a_rd (by omega) (rfl) (by decide) dX9_dots_108 ?_
                    rw [rdD_rd, rdD_tA]
                    refine ic1 (pc := 109) dX9_dots_109 kc1 rfl ?_
                    refine g_goto 91 (pc := 112) dX9_dots_112 (by decide) ?_
                    rw [nI_1]
                    exact ih91 (sq + 1) _ (by omega) (by omega) hG
                exact L91 (endN t (mB (hrC (gA d tp) n p = 114)) - (t + 1)) (t + 1) _ (by omega) (by omega) (by rw [show endN t (mB (hrC (gA d tp) n p = 114)) - t = (endN t (mB (hrC (gA d tp) n p = 114)) - (t + 1)) + 1 by omega]; rfl)
              · skip
                (try simp only [mB_eq0, Decidable.not_not] at c65)
                refine g_ldc (pc := 68) dX9_dots_68 wk_X9_108 ?_
                exact retI (pc := 70) hR dX9_dots_70 (by rw [← hF, rdtL, if_pos ⟨ht9, c12⟩, if_neg c65]) (by rw [← hF, rdtL, if_pos ⟨ht9, c12⟩, if_neg c65])
            refine al0 (pc := 30) dX9_dots_30 ?_
            refine g_dupR (pc := 31) dX9_dots_31 ?_
            refine gf_X9_177 (pc := 32) hm.o9 dX9_dots_32 ?_
            rw [rdD_296]
            refine il2 (pc := 35) dX9_dots_35 ?_
            refine g_ifeq 43 (pc := 36) dX9_dots_36 (by decide) (fun c36 => ?_) (fun c36 => ?_)
            · skip
              refine g_iconst (pc := 43) dX9_dots_43 kc0 ?_
              exact J44 _ (c36.symm)
            · skip
              refine g_iconst (pc := 39) dX9_dots_39 kc1 ?_
              refine g_goto 44 (pc := 40) dX9_dots_40 (by decide) ?_
              exact J44 _ ((mB_1 (mB_ne0.mp c36)).symm)
          refine al0 (pc := 15) dX9_dots_15 ?_
          refine cl_X9_180 (pc := 16) (c_X9_here (n := n) (p := hrP (gA d tp) n p) hm ((rdD_295 _ _ _ _ _).trans hn) hn2 (rdD_296 _ _ _ _ _) (hrP_le _ hp)) hm.o9 (by decide) ⟨Nat.zero_le _, Nat.zero_le _⟩ (Nat.le_of_ble_eq_true rfl) dX9_dots_16 ?_
          rw [rdD_ne _ _ _ _ _ hm.n_tp_rd, rdD_pl, hrC_idem _ hp, hrP_idem _ hp]
          refine g_bipush (pc := 19) dX9_dots_19 kb114 ?_
          refine g_icmpne 28 (pc := 21) dX9_dots_21 (by decide) (fun c21 => ?_) (fun c21 => ?_)
          · skip
            refine g_iconst (pc := 28) dX9_dots_28 kc0 ?_
            exact J29 _ (by rw [mB_0 c21])
          · skip
            refine g_iconst (pc := 24) dX9_dots_24 kc1 ?_
            refine g_goto 29 (pc := 25) dX9_dots_25 (by decide) ?_
            exact J29 _ (by rw [mB_1 c21])
  have q9 := L2 96 0 0 p0 (gA d rd) (by omega) (by omega) (by omega) hpn rfl
  rw [rdD_0 hpl] at q9
  exact q9
theorem c_X9_picture {l : Launch} {G : mG} {Z : mZ} {d : mD} {m nw od fd tp rd ah kp ka ln sz it mv : Nat} {n : Nat} (hm : mdS Z m nw od fd tp rd ah kp ka ln sz it mv) (hn : gI d 295 m = nI n) (hn2 : n ≤ 120) : CtI l G yX9_picture cX9_picture 6 .int 2 48 [.ref m] Z d (rpiR (gA d tp) n (rpiT (gA d tp) n (gA d rd))) (rpiD d m nw rd tp n (rpiT (gA d tp) n (gA d rd))) := by
  obtain ⟨q, hq⟩ : ∃ r9, r9 = (rpiT (gA d tp) n (gA d rd)) := ⟨_, rfl⟩
  rw [← hq]
  have hqn : q.2.1 ≤ n := by rw [hq]; exact rpiT_le _ _ _
  obtain ⟨w, hw⟩ : ∃ r9, r9 = (hrC (gA d tp) n 0) := ⟨_, rfl⟩
  refine enterI RX9 5 [some (.ref m), none, none, none, none, none] (by decide) rfl (rfl) rfl rfl (fun X hR => ?_)
  refine al0 (pc := 0) dX9_picture_0 ?_
  refine g_iconst (pc := 1) dX9_picture_1 kc0 ?_
  refine pf_X9_177 (pc := 2) hm.o9 dX9_picture_2 ?_
  have e0 : sI d 296 m 0 = rdD d m rd 0 (gA d rd) := by unfold rdD; exact (tA_selfE rfl).symm
  rw [e0]
  refine al0 (pc := 5) dX9_picture_5 ?_
  refine cl_X9_180 (pc := 6) (c_X9_here (n := n) (p := 0) hm ((rdD_295 _ _ _ _ _).trans hn) hn2 (rdD_296 _ _ _ _ _) (Nat.zero_le _)) hm.o9 (by decide) ⟨Nat.zero_le _, Nat.zero_le _⟩ (Nat.le_of_ble_eq_true rfl) dX9_picture_6 ?_
  rw [rdD_ne _ _ _ _ _ hm.n_tp_rd, rdD_pl, ← hw]
  refine is1 (pc := 9) dX9_picture_9 rfl ?_
  have J33 : ∀ (v9 : Int32), v9 = mB (isPc w) → mGo l G (mRm 2 48) X RX9 cX9_picture 6 0 0 Z 33 [some (.ref m), some (.int w), none, none, none, none] [.int v9] (rdD d m rd (hrP (gA d tp) n 0) (gA d rd)) := by
    intro v9 hJ33
    subst hJ33
    refine is2 (pc := 33) dX9_picture_33 rfl ?_
    have J48 : ∀ (v8 : Int32), v8 = mB (isPc w) → mGo l G (mRm 2 48) X RX9 cX9_picture 6 0 0 Z 48 [some (.ref m), some (.int w), some (.int (mB (isPc w))), none, none, none] [.int v8, .int (nI (hrP (gA d tp) n 0)), .ref m] (rdD d m rd (hrP (gA d tp) n 0) (gA d rd)) := by
      intro v8 hJ48
      subst hJ48
      refine g_iadd (pc := 48) dX9_picture_48 ?_
      rw [show nI (hrP (gA d tp) n 0) + mB (isPc w) = nI (hrP (gA d tp) n 0 + isN w) by rw [isN_B, nI_add]]
      refine pf_X9_177 (pc := 49) hm.o9 dX9_picture_49 ?_
      rw [rdD_pl]
      refine il2 (pc := 52) dX9_picture_52 ?_
      have J65 : ∀ (q9 : Int32 × Nat × (Nat → Int32)), q = q9 → mGo l G (mRm 2 48) X RX9 cX9_picture 6 0 0 Z 65 [some (.ref m), some (.int w), some (.int (mB (isPc w))), none, none, none] [.int q9.1] (rpiE d m rd q9) := by
        intro q9 hJ65
        subst hJ65
        refine is3 (pc := 65) dX9_picture_65 rfl ?_
        refine il3 (pc := 66) dX9_picture_66 ?_
        refine g_ldc (pc := 67) dX9_picture_67 wk_X9_108 ?_
        refine g_icmpne 115 (pc := 69) dX9_picture_69 (by decide) (fun c69 => ?_) (fun c69 => ?_)
        · skip
          refine g_iconst (pc := 115) dX9_picture_115 kc0 ?_
          refine is4 (pc := 116) dX9_picture_116 rfl ?_
          have L118 : ∀ (n9 i : Nat), i + n9 = 96 → mGo l G (mRm 2 48) X RX9 cX9_picture 6 0 0 Z 118 [some (.ref m), some (.int w), none, some (.int q.1), some (.int (nI i)), none] [] (rpiF d m nw rd w q i) := by
            intro n9; induction n9 with
            | zero =>
              intro i  hin118 
              obtain rfl : i = 96 := by omega
              refine il4 (pc := 118) dX9_picture_118 ?_
              refine g_bipush (pc := 120) dX9_picture_120 kb96 ?_
              refine g_icmpge 210 (pc := 122) dX9_picture_122 (by decide) (fun c122 => ?_) (fun c122 => absurd (nI_le (a := 96) (by omega) (by omega)) c122)
              refine al0 (pc := 210) dX9_picture_210 ?_
              refine g_iconst (pc := 211) dX9_picture_211 kc0 ?_
              refine pf_X9_166 (pc := 212) hm.o9 dX9_picture_212 ?_
              refine al0 (pc := 215) dX9_picture_215 ?_
              refine g_iconst (pc := 216) dX9_picture_216 kc0 ?_
              refine pf_X9_173 (pc := 217) hm.o9 dX9_picture_217 ?_
              refine il3 (pc := 220) dX9_picture_220 ?_
              exact retI (pc := 221) hR dX9_picture_221 (by rw [rpiR, if_neg c69]) (by rw [rpiD, if_neg c69, ← hw])
            | succ n9 ih118 =>
              intro i  hin118 
              refine il4 (pc := 118) dX9_picture_118 ?_
              refine g_bipush (pc := 120) dX9_picture_120 kb96 ?_
              refine g_icmpge 210 (pc := 122) dX9_picture_122 (by decide) (fun c122 => absurd c122 (nI_ge (b := 96) (by omega) (by omega))) (fun c122 => ?_)
              have J142 : ∀ (x9 : Int32), x9 = piH q i → mGo l G (mRm 2 48) X RX9 cX9_picture 6 0 0 Z 142 [some (.ref m), some (.int w), none, some (.int q.1), some (.int (nI i)), none] [.int x9] (rpiF d m nw rd w q i) := by
                intro x9 hJ142
                subst hJ142
                refine is5 (pc := 142) dX9_picture_142 rfl ?_
                refine al0 (pc := 144) dX9_picture_144 ?_
                refine gf_X9_7 (pc := 145) hm.o9 hm.r288 dX9_picture_145 ?_
                refine g_iconst (pc := 148) dX9_picture_148 kc0 ?_
                refine il4 (pc := 149) dX9_picture_149 ?_
                refine g_iadd (pc := 151) dX9_picture_151 ?_
                have J172 : ∀ (y9 : Int32), y9 = (if w = 110 then gA d nw i else piH q i) → mGo l G (mRm 2 48) X RX9 cX9_picture 6 0 0 Z 172 [some (.ref m), some (.int w), none, some (.int q.1), some (.int (nI i)), some (.int (piH q i))] [.int y9, .int (0 + nI i), .ref nw] (rpiF d m nw rd w q i) := by
                  intro y9 hJ172
                  subst hJ172
                  refine g_iast (pc := 172) i hm.a_nw (by omega) (Int32.zero_add _) (by decide) dX9_picture_172 ?_
                  rw [rpiF_nw, show tA (rpiF d m nw rd w q i) nw (upd (piW w (gA d nw) (piH q) i) i (if w = 110 then gA d nw i else piH q i)) = (tA (rpiE d m rd q) nw (upd (piW w (gA d nw) (piH q) i) i (if w = 110 then gA d nw i else piH q i))) from tA_tA _ _ _ _]
                  refine al0 (pc := 173) dX9_picture_173 ?_
                  refine gf_X9_7 (pc := 174) hm.o9 hm.r288 dX9_picture_174 ?_
                  refine g_bipush (pc := 177) dX9_picture_177 kb96 ?_
                  refine il4 (pc := 179) dX9_picture_179 ?_
                  refine g_iadd (pc := 181) dX9_picture_181 ?_
                  have J203 : ∀ (z9 : Int32), z9 = (if w = 111 then gA d nw (96 + i) else piH q i) → mGo l G (mRm 2 48) X RX9 cX9_picture 6 0 0 Z 203 [some (.ref m), some (.int w), none, some (.int q.1), some (.int (nI i)), some (.int (piH q i))] [.int z9, .int (96 + nI i), .ref nw] (tA (rpiE d m rd q) nw (upd (piW w (gA d nw) (piH q) i) i (if w = 110 then gA d nw i else piH q i))) := by
                    intro z9 hJ203
                    subst hJ203
                    refine g_iast (pc := 203) (96 + i) hm.a_nw (by omega) (nI_add 96 i) (by decide) dX9_picture_203 ?_
                    rw [gA_tA, if_pos rfl, tA_tA, piW_s _ _ _ (by omega), ← rpiF]
                    refine ic4 (pc := 204) dX9_picture_204 kc1 rfl ?_
                    refine g_goto 118 (pc := 207) dX9_picture_207 (by decide) ?_
                    rw [nI_1]
                    refine dr5 ?_
                    exact ih118 (i + 1) (by omega)
                  refine il1 (pc := 182) dX9_picture_182 ?_
                  refine g_bipush (pc := 183) dX9_picture_183 kb111 ?_
                  refine g_icmpne 201 (pc := 185) dX9_picture_185 (by decide) (fun c185 => ?_) (fun c185 => ?_)
                  · skip
                    refine il5 (pc := 201) dX9_picture_201 ?_
                    exact J203 _ (by rw [if_neg c185])
                  · skip
                    refine al0 (pc := 188) dX9_picture_188 ?_
                    refine gf_X9_7 (pc := 189) hm.o9 hm.r288 dX9_picture_189 ?_
                    refine g_bipush (pc := 192) dX9_picture_192 kb96 ?_
                    refine il4 (pc := 194) dX9_picture_194 ?_
                    refine g_iadd (pc := 196) dX9_picture_196 ?_
                    refine g_iald (pc := 197) (96 + i) hm.a_nw (by omega) (nI_add 96 i) (by decide) dX9_picture_197 ?_
                    rw [gA_tA, if_pos rfl, piW_b _ _ _ _ (by omega)]
                    refine g_goto 203 (pc := 198) dX9_picture_198 (by decide) ?_
                    exact J203 _ (by rw [if_pos c185])
                refine il1 (pc := 152) dX9_picture_152 ?_
                refine g_bipush (pc := 153) dX9_picture_153 kb110 ?_
                refine g_icmpne 170 (pc := 155) dX9_picture_155 (by decide) (fun c155 => ?_) (fun c155 => ?_)
                · skip
                  refine il5 (pc := 170) dX9_picture_170 ?_
                  exact J172 _ (by rw [if_neg c155])
                · skip
                  refine al0 (pc := 158) dX9_picture_158 ?_
                  refine gf_X9_7 (pc := 159) hm.o9 hm.r288 dX9_picture_159 ?_
                  refine g_iconst (pc := 162) dX9_picture_162 kc0 ?_
                  refine il4 (pc := 163) dX9_picture_163 ?_
                  refine g_iadd (pc := 165) dX9_picture_165 ?_
                  refine g_iald (pc := 166) i hm.a_nw (by omega) (Int32.zero_add _) (by decide) dX9_picture_166 ?_
                  rw [rpiF_nw, piW_a _ _ _ (by omega)]
                  refine g_goto 172 (pc := 167) dX9_picture_167 (by decide) ?_
                  exact J172 _ (by rw [if_pos c155])
              refine il4 (pc := 125) dX9_picture_125 ?_
              refine il3 (pc := 127) dX9_picture_127 ?_
              refine g_icmpge 141 (pc := 128) dX9_picture_128 (by decide) (fun c128 => ?_) (fun c128 => ?_)
              · skip
                refine g_iconst (pc := 141) dX9_picture_141 kc0 ?_
                exact J142 _ (by rw [piH, if_neg (Int32.not_lt.mpr c128)])
              · skip
                refine al0 (pc := 131) dX9_picture_131 ?_
                refine gf_X9_22 (pc := 132) hm.o9 hm.r297 dX9_picture_132 ?_
                refine il4 (pc := 135) dX9_picture_135 ?_
                refine g_iald (pc := 137) i hm.a_rd (by omega) (rfl) (by decide) dX9_picture_137 ?_
                rw [rpiF_rd _ _ _ _ hm.n_rd_nw]
                refine g_goto 142 (pc := 138) dX9_picture_138 (by decide) ?_
                exact J142 _ (by rw [piH, if_pos (Int32.not_le.mp c128)])
          refine dr2 ?_
          have k9 := L118 96 0 (by omega)
          rw [rpiF_0 _ _ _ hm.n_nw_rd] at k9
          exact k9
        · skip
          refine al0 (pc := 72) dX9_picture_72 ?_
          refine cl_X9_180 (pc := 73) (c_X9_here (n := n) (p := q.2.1) hm ((rdD_295 _ _ _ _ _).trans hn) hn2 (rdD_296 _ _ _ _ _) hqn) hm.o9 (by decide) ⟨Nat.zero_le _, Nat.zero_le _⟩ (Nat.le_of_ble_eq_true rfl) dX9_picture_73 ?_
          rw [rpiE, rdD_ne _ _ _ _ _ hm.n_tp_rd, rdD_pl]
          refine g_ifne 83 (pc := 76) dX9_picture_76 (by decide) (fun c76 => ?_) (fun c76 => ?_)
          · skip
            refine g_iconst (pc := 83) dX9_picture_83 kc0 ?_
            refine is4 (pc := 84) dX9_picture_84 rfl ?_
            refine g_ldc (pc := 86) dX9_picture_86 wk_X9_188 ?_
            refine il4 (pc := 88) dX9_picture_88 ?_
            refine g_ifeq 100 (pc := 90) dX9_picture_90 (by decide) (fun c90 => ?_) (fun c90 => absurd rfl c90)
            refine al0 (pc := 100) dX9_picture_100 ?_
            refine gf_X9_177 (pc := 101) hm.o9 dX9_picture_101 ?_
            rw [rdD_296]
            refine g_isub (pc := 104) dX9_picture_104 ?_
            refine is5 (pc := 105) dX9_picture_105 rfl ?_
            refine al0 (pc := 107) dX9_picture_107 ?_
            refine g_iconst (pc := 108) dX9_picture_108 kc0 ?_
            refine pf_X9_173 (pc := 109) hm.o9 dX9_picture_109 ?_
            refine il5 (pc := 112) dX9_picture_112 ?_
            exact retI (pc := 114) hR dX9_picture_114 (by rw [rpiR, if_pos c69, if_neg c76]) (by rw [rpiD, if_pos c69])
          · skip
            refine g_iconst (pc := 79) dX9_picture_79 kc1 ?_
            refine g_goto 84 (pc := 80) dX9_picture_80 (by decide) ?_
            refine is4 (pc := 84) dX9_picture_84 rfl ?_
            refine g_ldc (pc := 86) dX9_picture_86 wk_X9_188 ?_
            refine il4 (pc := 88) dX9_picture_88 ?_
            refine g_ifeq 100 (pc := 90) dX9_picture_90 (by decide) (fun c90 => absurd c90 (by decide)) (fun c90 => ?_)
            refine al0 (pc := 93) dX9_picture_93 ?_
            refine gf_X9_173 (pc := 94) hm.o9 dX9_picture_94 ?_
            rw [rdD_295, hn]
            refine g_goto 104 (pc := 97) dX9_picture_97 (by decide) ?_
            refine g_isub (pc := 104) dX9_picture_104 ?_
            refine is5 (pc := 105) dX9_picture_105 rfl ?_
            refine al0 (pc := 107) dX9_picture_107 ?_
            refine g_iconst (pc := 108) dX9_picture_108 kc0 ?_
            refine pf_X9_173 (pc := 109) hm.o9 dX9_picture_109 ?_
            refine il5 (pc := 112) dX9_picture_112 ?_
            exact retI (pc := 114) hR dX9_picture_114 (by rw [rpiR, if_pos c69, if_pos c76]) (by rw [rpiD, if_pos c69])
      refine g_ifeq 63 (pc := 53) dX9_picture_53 (by decide) (fun c53 => ?_) (fun c53 => ?_)
      · skip
        refine g_ldc (pc := 63) dX9_picture_63 wk_X9_108 ?_
        have hnp : ¬ isPc w := mB_eq0.mp c53
        have eq9 : q = (-1000004, hrP (gA d tp) n 0, gA d rd) := by rw [hq, rpiT, ← hw, if_neg hnp]
        have z9 : isN w = 0 := if_neg hnp
        rw [z9, Nat.add_zero]
        have k9 := J65 q rfl
        rw [eq9] at k9
        exact k9
      · skip
        have hp9 : isPc w := mB_ne0.mp c53
        have z9 : isN w = 1 := if_pos hp9
        rw [z9]
        have hl9 : hrP (gA d tp) n 0 < n := hrC_lt (fun h => by rw [← hw] at h; rw [h] at hp9; revert hp9; decide)
        refine al0 (pc := 56) dX9_picture_56 ?_
        refine cl_X9_185 (pc := 57) (c_X9_dots (n := n) (p0 := hrP (gA d tp) n 0 + 1) hm ((rdD_295 _ _ _ _ _).trans hn) hn2 (rdD_296 _ _ _ _ _) (by omega)) hm.o9 (by decide) ⟨Nat.zero_le _, Nat.zero_le _⟩ (Nat.le_of_ble_eq_true rfl) dX9_picture_57 ?_
        rw [rdD_ne _ _ _ _ _ hm.n_tp_rd, rdD_rd, show rdtL (gA d tp) n 96 0 (hrP (gA d tp) n 0 + 1) (gA d rd) = q by rw [hq, rpiT, ← hw, if_pos hp9]]
        rw [show rdD (rdD d m rd (hrP (gA d tp) n 0 + 1) (gA d rd)) m rd q.2.1 q.2.2 = rpiE d m rd q by unfold rpiE rdD; rw [← tA_sIc, tA_tA, sI_sI]]
        refine g_goto 65 (pc := 60) dX9_picture_60 (by decide) ?_
        exact J65 q rfl
    refine al0 (pc := 34) dX9_picture_34 ?_
    refine g_dupR (pc := 35) dX9_picture_35 ?_
    refine gf_X9_177 (pc := 36) hm.o9 dX9_picture_36 ?_
    rw [rdD_296]
    refine il2 (pc := 39) dX9_picture_39 ?_
    refine g_ifeq 47 (pc := 40) dX9_picture_40 (by decide) (fun c40 => ?_) (fun c40 => ?_)
    · skip
      refine g_iconst (pc := 47) dX9_picture_47 kc0 ?_
      exact J48 _ (c40.symm)
    · skip
      refine g_iconst (pc := 43) dX9_picture_43 kc1 ?_
      refine g_goto 48 (pc := 44) dX9_picture_44 (by decide) ?_
      exact J48 _ ((mB_1 (mB_ne0.mp c40)).symm)
  refine il1 (pc := 10) dX9_picture_10 ?_
  refine g_bipush (pc := 11) dX9_picture_11 kb111 ?_
  refine g_icmpeq 28 (pc := 13) dX9_picture_13 (by decide) (fun c13 => ?_) (fun c13 => ?_)
  · skip
    refine g_iconst (pc := 28) dX9_picture_28 kc1 ?_
    refine g_goto 33 (pc := 29) dX9_picture_29 (by decide) ?_
    exact J33 _ (by rw [mB_1 (Or.inl c13)])
  · skip
    refine il1 (pc := 16) dX9_picture_16 ?_
    refine g_bipush (pc := 17) dX9_picture_17 kb110 ?_
    refine g_icmpeq 28 (pc := 19) dX9_picture_19 (by decide) (fun c19 => ?_) (fun c19 => ?_)
    · skip
      refine g_iconst (pc := 28) dX9_picture_28 kc1 ?_
      refine g_goto 33 (pc := 29) dX9_picture_29 (by decide) ?_
      exact J33 _ (by rw [mB_1 (Or.inr (Or.inl c19))])
    · skip
      refine il1 (pc := 22) dX9_picture_22 ?_
      refine g_bipush (pc := 23) dX9_picture_23 kb98 ?_
      refine g_icmpne 32 (pc := 25) dX9_picture_25 (by decide) (fun c25 => ?_) (fun c25 => ?_)
      · skip
        refine g_iconst (pc := 32) dX9_picture_32 kc0 ?_
        exact J33 _ (by rw [mB_0 (fun h => h.elim c13 (fun h => h.elim c19 c25))])
      · skip
        refine g_iconst (pc := 28) dX9_picture_28 kc1 ?_
        refine g_goto 33 (pc := 29) dX9_picture_29 (by decide) ?_
        exact J33 _ (by rw [mB_1 (Or.inr (Or.inr c25))])
