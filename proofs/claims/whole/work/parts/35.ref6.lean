theorem skp_stop (le : Nat → Int32) : ∀ k p, skp le k p < p + k → ¬ le (skp le k p) = 32
  | 0, p, h => by rw [skp] at h; omega
  | k + 1, p, h => by
    rw [skp] at h ⊢
    split
    · next h1 => rw [if_pos h1] at h; exact skp_stop le k (p + 1) (by omega)
    · next h1 => exact h1
theorem hrP_idem (le : Nat → Int32) {n p : Nat} (h : p ≤ n) : hrP le n (hrP le n p) = hrP le n p := by
  have h1 := hrP_le le h
  rcases Nat.lt_or_ge (hrP le n p) n with h2 | h2
  · have h3 : ¬ le (hrP le n p) = 32 := skp_stop le (n - p) p (by show hrP le n p < _; omega)
    show skp le (n - hrP le n p) (hrP le n p) = hrP le n p
    obtain ⟨k, hk⟩ : ∃ k, n - hrP le n p = k + 1 := ⟨n - hrP le n p - 1, by omega⟩
    rw [hk, skp, if_neg h3]
  · have : n - hrP le n p = 0 := by omega
    show skp le (n - hrP le n p) (hrP le n p) = hrP le n p
    rw [this]; rfl
theorem hrC_idem (le : Nat → Int32) {n p : Nat} (h : p ≤ n) : hrC le n (hrP le n p) = hrC le n p := by unfold hrC; rw [hrP_idem le h]
theorem hrC_lt {le : Nat → Int32} {n p : Nat} (h : ¬ hrC le n p = 0) : hrP le n p < n := by
  unfold hrC at h
  split at h
  · next h1 => exact h1
  · exact absurd rfl h
def rnN (c : Int32) : Nat := if c = 114 then 1 else 0
theorem rnN_B (c : Int32) : mB (c = 114) = nI (rnN c) := by unfold mB rnN; split <;> rfl
def rdP (le : Nat → Int32) (n p : Nat) : Nat := hrP le n p + rnN (hrC le n p)
def rdV (le : Nat → Int32) (n p : Nat) : Int32 := hrC le n (rdP le n p) - 48
/-- dots, as the reference reads them -/
def rdtL (le : Nat → Int32) (n : Nat) : Nat → Nat → Nat → (Nat → Int32) → Int32 × Nat × (Nat → Int32)
  | 0, t, p, g => (if hrC le n p = 0 then nI t else -1000004, hrP le n p, g)
  | k + 1, t, p, g => if t < 96 ∧ ¬ hrC le n p = 0 then (if wthn (rdV le n p) 0 9 then rdtL le n k (endN t (mB (hrC le n p = 114))) (hrP le n (rdP le n p) + 1) (filI (rdV le n p) (endN t (mB (hrC le n p = 114)) - t) t g) else (-1000004, hrP le n (rdP le n p), g)) else (if hrC le n p = 0 then nI t else -1000004, hrP le n p, g)
def rdD (d : mD) (m rd p : Nat) (g : Nat → Int32) : mD := tA (sI d 296 m (nI p)) rd g
theorem rdD_295 (d : mD) (m rd p : Nat) (g : Nat → Int32) : gI (rdD d m rd p g) 295 m = gI d 295 m := by unfold rdD; rw [gI_tA, gI_ne (by decide)]
theorem rdD_296 (d : mD) (m rd p : Nat) (g : Nat → Int32) : gI (rdD d m rd p g) 296 m = nI p := by unfold rdD; rw [gI_tA, gI_eq]
theorem rdD_299 (d : mD) (m rd p : Nat) (g : Nat → Int32) : gI (rdD d m rd p g) 299 m = gI d 299 m := by unfold rdD; rw [gI_tA, gI_ne (by decide)]
theorem rdD_ne (d : mD) (m rd p : Nat) (g : Nat → Int32) {b : Nat} (h : b ≠ rd) : gA (rdD d m rd p g) b = gA d b := by unfold rdD; rw [gA_tA, if_neg h, gA_sI]
theorem rdD_rd (d : mD) (m rd p : Nat) (g : Nat → Int32) : gA (rdD d m rd p g) rd = g := by unfold rdD; rw [gA_tA, if_pos rfl]
theorem rdD_pl (d : mD) (m rd p q : Nat) (g : Nat → Int32) : sI (rdD d m rd p g) 296 m (nI q) = rdD d m rd q g := by unfold rdD; rw [← tA_sIc, sI_sI]
theorem rdD_tA (d : mD) (m rd p : Nat) (g h : Nat → Int32) : tA (rdD d m rd p g) rd h = rdD d m rd p h := tA_tA _ _ _ _
theorem rdD_0 {d : mD} {m rd p : Nat} (h : gI d 296 m = nI p) : rdD d m rd p (gA d rd) = d := by unfold rdD; rw [← h, sI_self, tA_self]
theorem endN_1 (t : Nat) {rn : Int32} (h : rn = 0) : endN t rn = t + 1 := by unfold endN; rw [if_pos h]
theorem endN_r (t : Nat) {rn : Int32} (h : ¬ rn = 0) : endN t rn = (t / 12 + 1) * 12 := by unfold endN; rw [if_neg h]
theorem c_X9_dots {l : Launch} {G : mG} {Z : mZ} {d : mD} {m nw od fd tp rd ah kp ka ln sz it mv : Nat} {n p0 : Nat} (hm : mdS Z m nw od fd tp rd ah kp ka ln sz it mv) (hn : gI d 295 m = nI n) (hn2 : n ≤ 120) (hpl : gI d 296 m = nI p0) (hpn : p0 ≤ n) : CtI l G yX9_dots cX9_dots 4 .int 1 25 [.ref m] Z d (rdtL (gA d tp) n 96 0 p0 (gA d rd)).1 (rdD d m rd (rdtL (gA d tp) n 96 0 p0 (gA d rd)).2.1 (rdtL (gA d tp) n 96 0 p0 (gA d rd)).2.2) := by
  refine enterI RX9 3 [some (.ref m), none, none, none] (by decide) rfl (rfl) rfl rfl (fun X hR => ?_)
  refine g_iconst (pc := 0) dX9_dots_0 kc0 ?_
  refine is1 (pc := 1) dX9_dots_1 rfl ?_
  have L2 : ∀ (k i : Nat) (t : Nat) (p : Nat) (g : Nat → Int32), i + k = 96 → (i ≤ t) → (t ≤ 96) → (p ≤ n) → (rdtL (gA d tp) n k t p g = rdtL (gA d tp) n 96 0 p0 (gA d rd)) → mGo l G (mRm 1 25) X RX9 cX9_dots 4 0 0 Z 2 [some (.ref m), some (.int (nI t)), none, none] [] (rdD d m rd p g) := by
    intro k; induction k with
    | zero =>
      intro i t p g hin2 hit ht hp hF
      obtain rfl : t = 96 := by omega
      refine il1 (pc := 2) dX9_dots_2 ?_
      refine g_bipush (pc := 3) dX9_dots_3 kb96 ?_
      refine g_icmpge 118 (pc := 5) dX9_dots_5 (by decide) (fun c5 => ?_) (fun c5 => absurd (nI_le (a := 96) (by omega) (by omega)) c5)
      refine al0 (pc := 118) dX9_dots_118 ?_
      refine cl_X9_180 (pc := 119) (c_X9_here (n := n) (p := p) hm ((rdD_295 _ _ _ _ _).trans hn) hn2 (rdD_296 _ _ _ _ _) hp) hm.o9 (by decide) ⟨Nat.zero_le _, Nat.zero_le _⟩ (Nat.le_of_ble_eq_true rfl) dX9_dots_119 ?_
      rw [rdD_ne _ _ _ _ _ hm.n_tp_rd, rdD_pl]
      refine g_ifne 129 (pc := 122) dX9_dots_122 (by decide) (fun c122 => ?_) (fun c122 => ?_)
      · skip
        refine g_ldc (pc := 129) dX9_dots_129 wk_X9_108 ?_
        exact retI (pc := 131) hR dX9_dots_131 (by rw [← hF, rdtL]; simp [c122]) (by rw [← hF, rdtL])
      · skip
        refine il1 (pc := 125) dX9_dots_125 ?_
        refine g_goto 131 (pc := 126) dX9_dots_126 (by decide) ?_
        exact retI (pc := 131) hR dX9_dots_131 (by rw [← hF, rdtL]; simp [c122]) (by rw [← hF, rdtL])
    | succ k ih2 =>
      intro i t p g hin2 hit ht hp hF
      refine il1 (pc := 2) dX9_dots_2 ?_
      refine g_bipush (pc := 3) dX9_dots_3 kb96 ?_
      refine g_icmpge 118 (pc := 5) dX9_dots_5 (by decide) (fun c5 => ?_) (fun c5 => ?_)
      · skip
        have ht9 : ¬ t < 96 := fun h => by have := (nI_leI (a := 96) (by decide) (by omega)).mp c5; omega
        refine al0 (pc := 118) dX9_dots_118 ?_
        refine cl_X9_180 (pc := 119) (c_X9_here (n := n) (p := p) hm ((rdD_295 _ _ _ _ _).trans hn) hn2 (rdD_296 _ _ _ _ _) hp) hm.o9 (by decide) ⟨Nat.zero_le _, Nat.zero_le _⟩ (Nat.le_of_ble_eq_true rfl) dX9_dots_119 ?_
        rw [rdD_ne _ _ _ _ _ hm.n_tp_rd, rdD_pl]
        refine g_ifne 129 (pc := 122) dX9_dots_122 (by decide) (fun c122 => ?_) (fun c122 => ?_)
        · skip
          refine g_ldc (pc := 129) dX9_dots_129 wk_X9_108 ?_
          exact retI (pc := 131) hR dX9_dots_131 (by rw [← hF, rdtL, if_neg (fun h => ht9 h.1)]; simp [c122]) (by rw [← hF, rdtL, if_neg (fun h => ht9 h.1)])
        · skip
          refine il1 (pc := 125) dX9_dots_125 ?_
          refine g_goto 131 (pc := 126) dX9_dots_126 (by decide) ?_
          exact retI (pc := 131) hR dX9_dots_131 (by rw [← hF, rdtL, if_neg (fun h => ht9 h.1)]; simp [c122]) (by rw [← hF, rdtL, if_neg (fun h => ht9 h.1)])
      · skip
        have ht9 : t < 96 := by rcases Nat.lt_or_ge t 96 with h | h; exact h; exact absurd (nI_le (a := 96) h (by omega)) c5
        refine al0 (pc := 8) dX9_dots_8 ?_
        refine cl_X9_180 (pc := 9) (c_X9_here (n := n) (p := p) hm ((rdD_295 _ _ _ _ _).trans hn) hn2 (rdD_296 _ _ _ _ _) hp) hm.o9 (by decide) ⟨Nat.zero_le _, Nat.zero_le _⟩ (Nat.le_of_ble_eq_true rfl) dX9_dots_9 ?_
        rw [rdD_ne _ _ _ _ _ hm.n_tp_rd, rdD_pl]
        refine g_ifeq 118 (pc := 12) dX9_dots_12 (by decide) (fun c12 => ?_) (fun c12 => ?_)
        · skip
          refine al0 (pc := 118) dX9_dots_118 ?_
          refine cl_X9_180 (pc := 119) (c_X9_here (n := n) (p := hrP (gA d tp) n p) hm ((rdD_295 _ _ _ _ _).trans hn) hn2 (rdD_296 _ _ _ _ _) (hrP_le _ hp)) hm.o9 (by decide) ⟨Nat.zero_le _, Nat.zero_le _⟩ (Nat.le_of_ble_eq_true rfl) dX9_dots_119 ?_
          rw [rdD_ne _ _ _ _ _ hm.n_tp_rd, rdD_pl, hrC_idem _ hp, hrP_idem _ hp]
          refine g_ifne 129 (pc := 122) dX9_dots_122 (by decide) (fun c122 => ?_) (fun c122 => ?_)
          · skip
            refine g_ldc (pc := 129) dX9_dots_129 wk_X9_108 ?_
            exact retI (pc := 131) hR dX9_dots_131 (absurd c12 c122) (by rw [← hF, rdtL, if_neg (fun h => h.2 c12)])
          · skip
            refine il1 (pc := 125) dX9_dots_125 ?_
            refine g_goto 131 (pc := 126) dX9_dots_126 (by decide) ?_
            exact retI (pc := 131) hR dX9_dots_131 (by rw [← hF, rdtL, if_neg (fun h => h.2 c12)]; simp [c122]) (by rw [← hF, rdtL, if_neg (fun h => h.2 c12)])
        · skip
          have hlt9 := hrC_lt c12
          have J29 : ∀ (v9 : Int32), v9 = mB (hrC (gA d tp) n p = 114) → mGo l G (mRm 1 25) X RX9 cX9_dots 4 0 0 Z 29 [some (.ref m), some (.int (nI t)), none, none] [.int v9] (rdD d m rd (hrP (gA d tp) n p) g) := by
            intro v9 hJ29
            subst hJ29
            refine is2 (pc := 29) dX9_dots_29 rfl ?_
            have J44 : ∀ (v8 : Int32), v8 = mB (hrC (gA d tp) n p = 114) → mGo l G (mRm 1 25) X RX9 cX9_dots 4 0 0 Z 44 [some (.ref m), some (.int (nI t)), some (.int (mB (hrC (gA d tp) n p = 114))), none] [.int v8, .int (nI (hrP (gA d tp) n p)), .ref m] (rdD d m rd (hrP (gA d tp) n p) g) := by
              intro v8 hJ44
              subst hJ44
              refine g_iadd (pc := 44) dX9_dots_44 ?_
              rw [show nI (hrP (gA d tp) n p) + (mB (hrC (gA d tp) n p = 114)) = nI (rdP (gA d tp) n p) by rw [rnN_B, nI_add]; rfl]
              refine pf_X9_177 (pc := 45) hm.o9 dX9_dots_45 ?_
              rw [rdD_pl]
              refine al0 (pc := 48) dX9_dots_48 ?_
              have hp2 : rdP (gA d tp) n p ≤ n := by unfold rdP rnN; split <;> omega
              refine cl_X9_180 (pc := 49) (c_X9_here (n := n) (p := rdP (gA d tp) n p) hm ((rdD_295 _ _ _ _ _).trans hn) hn2 (rdD_296 _ _ _ _ _) hp2) hm.o9 (by decide) ⟨Nat.zero_le _, Nat.zero_le _⟩ (Nat.le_of_ble_eq_true rfl) dX9_dots_49 ?_
              rw [rdD_ne _ _ _ _ _ hm.n_tp_rd, rdD_pl]
              refine g_bipush (pc := 52) dX9_dots_52 kb48 ?_
              refine g_isub (pc := 54) dX9_dots_54 ?_
              rw [← rdV]
              refine is3 (pc := 55) dX9_dots_55 rfl ?_
              refine il3 (pc := 56) dX9_dots_56 ?_
              refine g_i2l (pc := 57) dX9_dots_57 ?_
              refine g_lconst (pc := 58) dX9_dots_58 kl0 ?_
              refine g_ldc2 (pc := 59) dX9_dots_59 wk_X9_183 ?_
              refine cl_X9_70 (pc := 62) (c_X9_in) (by decide) ⟨Nat.zero_le _, Nat.zero_le _⟩ (Nat.le_of_ble_eq_true rfl) dX9_dots_62 ?_
              rw [inI (rdV (gA d tp) n p) (0) 9 (by decide) (by decide)]
              refine g_ifne 71 (pc := 65) dX9_dots_65 (by decide) (fun c65 => ?_) (fun c65 => ?_)
              · skip
                (try simp only [mB_eq0, Decidable.not_not] at c65)
                have hlt8 : hrP (gA d tp) n (rdP (gA d tp) n p) < n := hrC_lt (fun h => absurd c65.1 (by unfold rdV; rw [h]; decide))
                have hE := endN_gt t (mB (hrC (gA d tp) n p = 114))
                have hE2 := endN_le (mB (hrC (gA d tp) n p = 114)) ht9
                refine al0 (pc := 71) dX9_dots_71 ?_
                refine g_dupR (pc := 72) dX9_dots_72 ?_
                refine gf_X9_177 (pc := 73) hm.o9 dX9_dots_73 ?_
                rw [rdD_296]
                refine g_iconst (pc := 76) dX9_dots_76 kc1 ?_
                refine g_iadd (pc := 77) dX9_dots_77 ?_
                rw [nI_1]
                refine pf_X9_177 (pc := 78) hm.o9 dX9_dots_78 ?_
                rw [rdD_pl]
                refine al0 (pc := 81) dX9_dots_81 ?_
                refine gf_X9_22 (pc := 82) hm.o9 hm.r297 dX9_dots_82 ?_
                refine il1 (pc := 85) dX9_dots_85 ?_
                refine il3 (pc := 86) dX9_dots_86 ?_
                refine g_iast (pc := 87) t hm.a_rd (by omega) (rfl) (by decide) dX9_dots_87 ?_
                rw [rdD_rd, rdD_tA]
                refine ic1 (pc := 88) dX9_dots_88 kc1 rfl ?_
                rw [nI_1]
                have L91 : ∀ (n9 sq : Nat) (g9 : Nat → Int32), sq + n9 = (endN t (mB (hrC (gA d tp) n p = 114))) → (t + 1 ≤ sq) → (filI (rdV (gA d tp) n p) n9 sq g9 = filI (rdV (gA d tp) n p) (endN t (mB (hrC (gA d tp) n p = 114)) - t) t g) → mGo l G (mRm 1 25) X RX9 cX9_dots 4 0 0 Z 91 [some (.ref m), some (.int (nI sq)), some (.int (mB (hrC (gA d tp) n p = 114))), some (.int (rdV (gA d tp) n p))] [] (rdD d m rd (hrP (gA d tp) n (rdP (gA d tp) n p) + 1) g9) := by
                  intro n9; induction n9 with
                  | zero =>
                    intro sq g9 hin91 hs1 hG
                    obtain rfl : sq = endN t (mB (hrC (gA d tp) n p = 114)) := by omega
                    have hG2 : g9 = filI (rdV (gA d tp) n p) (endN t (mB (hrC (gA d tp) n p = 114)) - t) t g := hG
                    subst hG2
                    refine il2 (pc := 91) dX9_dots_91 ?_
                    refine g_ifeq 115 (pc := 92) dX9_dots_92 (by decide) (fun c92 => ?_) (fun c92 => ?_)
                    · skip
                      refine g_goto 2 (pc := 115) dX9_dots_115 (by decide) ?_
                      refine dr2 ?_
                      refine dr3 ?_
                      exact ih2 (i + 1) (endN t (mB (hrC (gA d tp) n p = 114))) (hrP (gA d tp) n (rdP (gA d tp) n p) + 1) _ (by omega) (by omega) hE2 (by omega) (by rw [← hF, rdtL, if_pos ⟨ht9, c12⟩, if_pos c65])
                    · skip
                      refine il1 (pc := 95) dX9_dots_95 ?_
                      refine g_bipush (pc := 96) dX9_dots_96 kb12 ?_
                      refine g_irem (pc := 98) dX9_dots_98 (by decide) ?_
                      rw [show mRem (nI (endN t (mB (hrC (gA d tp) n p = 114)))) 12 = nI (endN t (mB (hrC (gA d tp) n p = 114)) % 12) from rem_nI 12 (by omega) (by decide) (by decide)]
                      refine g_ifeq 115 (pc := 99) dX9_dots_99 (by decide) (fun c99 => ?_) (fun c99 => absurd (by rw [endN_r t c92]; rw [Nat.mul_mod_left]; rfl) c99)
                      refine g_goto 2 (pc := 115) dX9_dots_115 (by decide) ?_
                      refine dr2 ?_
                      refine dr3 ?_
                      exact ih2 (i + 1) (endN t (mB (hrC (gA d tp) n p = 114))) (hrP (gA d tp) n (rdP (gA d tp) n p) + 1) _ (by omega) (by omega) hE2 (by omega) (by rw [← hF, rdtL, if_pos ⟨ht9, c12⟩, if_pos c65])
                  | succ n9 ih91 =>
                    intro sq g9 hin91 hs1 hG
                    refine il2 (pc := 91) dX9_dots_91 ?_
                    refine g_ifeq 115 (pc := 92) dX9_dots_92 (by decide) (fun c92 => absurd c92 (fun h => by rw [endN_1 t h] at hin91; omega)) (fun c92 => ?_)
                    refine il1 (pc := 95) dX9_dots_95 ?_
                    refine g_bipush (pc := 96) dX9_dots_96 kb12 ?_
                    refine g_irem (pc := 98) dX9_dots_98 (by decide) ?_
                    rw [show mRem (nI sq) 12 = nI (sq % 12) from rem_nI 12 (by omega) (by decide) (by decide)]
                    refine g_ifeq 115 (pc := 99) dX9_dots_99 (by decide) (fun c99 => absurd c99 (fun h => by have h7 := (nI_eq (b := 0) (by omega) (by decide)).mp h; rw [endN_r t c92] at hin91; omega)) (fun c99 => ?_)
                    refine al0 (pc := 102) dX9_dots_102 ?_
                    refine gf_X9_22 (pc := 103) hm.o9 hm.r297 dX9_dots_103 ?_
                    refine il1 (pc := 106) dX9_dots_106 ?_
                    refine il3 (pc := 107) dX9_dots_107 ?_
                    refine g_iast (pc := 108) sq hm.a_rd (by omega) (rfl) (by decide) dX9_dots_108 ?_
                    rw [rdD_rd, rdD_tA]
                    refine ic1 (pc := 109) dX9_dots_109 kc1 rfl ?_
                    refine g_goto 91 (pc := 112) dX9_dots_112 (by decide) ?_
                    rw [nI_1]
                    exact ih91 (sq + 1) _ (by omega) (by omega) hG
                exact L91 (endN t (mB (hrC (gA d tp) n p = 114)) - (t + 1)) (t + 1) _ (by omega) (by omega) (by rw [show endN t (mB (hrC (gA d tp) n p = 114)) - t = (endN t (mB (hrC (gA d tp) n p = 114)) - (t + 1)) + 1 by omega]; rfl)
              · skip
                (try simp only [mB_eq0, Decidable.not_not] at c65)
                refine g_ldc (pc := 68) dX9_dots_68 wk_X9_108 ?_
                exact retI (pc := 70) hR dX9_dots_70 (by rw [← hF, rdtL, if_pos ⟨ht9, c12⟩, if_neg c65]) (by rw [← hF, rdtL, if_pos ⟨ht9, c12⟩, if_neg c65])
            refine al0 (pc := 30) dX9_dots_30 ?_
            refine g_dupR (pc := 31) dX9_dots_31 ?_
            refine gf_X9_177 (pc := 32) hm.o9 dX9_dots_32 ?_
            rw [rdD_296]
            refine il2 (pc := 35) dX9_dots_35 ?_
            refine g_ifeq 43 (pc := 36) dX9_dots_36 (by decide) (fun c36 => ?_) (fun c36 => ?_)
            · skip
              refine g_iconst (pc := 43) dX9_dots_43 kc0 ?_
              exact J44 _ (c36.symm)
            · skip
              refine g_iconst (pc := 39) dX9_dots_39 kc1 ?_
              refine g_goto 44 (pc := 40) dX9_dots_40 (by decide) ?_
              exact J44 _ ((mB_1 (mB_ne0.mp c36)).symm)
          refine al0 (pc := 15) dX9_dots_15 ?_
          refine cl_X9_180 (pc := 16) (c_X9_here (n := n) (p := hrP (gA d tp) n p) hm ((rdD_295 _ _ _ _ _).trans hn) hn2 (rdD_296 _ _ _ _ _) (hrP_le _ hp)) hm.o9 (by decide) ⟨Nat.zero_le _, Nat.zero_le _⟩ (Nat.le_of_ble_eq_true rfl) dX9_dots_16 ?_
          rw [rdD_ne _ _ _ _ _ hm.n_tp_rd, rdD_pl, hrC_idem _ hp, hrP_idem _ hp]
          refine g_bipush (pc := 19) dX9_dots_19 kb114 ?_
          refine g_icmpne 28 (pc := 21) dX9_dots_21 (by decide) (fun c21 => ?_) (fun c21 => ?_)
          · skip
            refine g_iconst (pc := 28) dX9_dots_28 kc0 ?_
            exact J29 _ (by rw [mB_0 c21])
          · skip
            refine g_iconst (pc := 24) dX9_dots_24 kc1 ?_
            refine g_goto 29 (pc := 25) dX9_dots_25 (by decide) ?_
            exact J29 _ (by rw [mB_1 c21])
  have q9 := L2 96 0 0 p0 (gA d rd) (by omega) (by omega) (by omega) hpn rfl
  rw [rdD_0 hpl] at q9
  exact q9
