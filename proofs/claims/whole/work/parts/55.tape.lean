/-- letters: none is 0 -/
def lB (le : Nat → Int32) (N : Nat) : Prop := ∀ i, i < N → 32 ≤ (le i).toInt ∧ (le i).toInt ≤ 126
theorem hrC_b {le : Nat → Int32} {N p : Nat} (h : lB le N) : 0 ≤ (hrC le N p).toInt ∧ (hrC le N p).toInt ≤ 126 := by
  unfold hrC
  split
  · next h1 => have := h _ h1; omega
  · decide
theorem hrC_0 {le : Nat → Int32} {N p : Nat} (h : lB le N) (hp : p ≤ N) (h0 : hrC le N p = 0) : hrP le N p = N := by
  have h1 := hrP_le le hp
  rcases Nat.lt_or_ge (hrP le N p) N with h2 | h2
  · unfold hrC at h0
    rw [if_pos h2] at h0
    have := h _ h2
    rw [h0, show (0 : Int32).toInt = 0 by decide] at this
    omega
  · omega
theorem rd_skip (le : Nat → Int32) (N : Nat) (f : Nat → Int32) (tg : Int32) (td : Nat) (rn : Int32) : ∀ r i, i + r = N → rdL le N r i f tg td rn = rdL le N (N - hrP le N i) (hrP le N i) f tg td rn
  | 0, i, h => by
    have e : hrP le N i = i := by unfold hrP; rw [show N - i = 0 by omega]; rfl
    rw [e, show N - i = 0 by omega]
  | r + 1, i, h => by
    by_cases h1 : le i = 32
    · have e : hrP le N i = hrP le N (i + 1) := by
        unfold hrP
        rw [show N - i = (N - (i + 1)) + 1 by omega, skp, if_pos h1]
      rw [e, ← rd_skip le N f tg td rn r (i + 1) (by omega), rdL, if_pos h1]
    · have e : hrP le N i = i := by
        unfold hrP
        rw [show N - i = (N - (i + 1)) + 1 by omega, skp, if_neg h1]
      rw [e, show N - i = r + 1 by omega]
/-- the tape read on from a place -/
def rdA (le : Nat → Int32) (N p : Nat) (f : Nat → Int32) (tg : Int32) (td : Nat) (rn : Int32) : Int32 × (Nat → Int32) × Int32 × Nat := rdL le N (N - p) p f tg td rn
theorem rdA_end {le : Nat → Int32} {N p : Nat} (h : lB le N) (hp : p ≤ N) (h0 : hrC le N p = 0) (f : Nat → Int32) (tg : Int32) (td : Nat) (rn : Int32) : rdA le N p f tg td rn = if tg = 0 ∨ ¬ rn = 0 then (-1000020 - nI N, f, tg, td) else (nI td, filI 0 (96 - td) td f, tg, td) := by
  unfold rdA
  rw [rd_skip le N f tg td rn (N - p) p (by omega), hrC_0 h hp h0, Nat.sub_self, rdL]
theorem rdA_let {le : Nat → Int32} {N p : Nat} (hp : p ≤ N) (h0 : ¬ hrC le N p = 0) (f : Nat → Int32) (tg : Int32) (td : Nat) (rn : Int32) : rdA le N p f tg td rn = if ¬ canP tg (nI td) (hrC le N p) rn then (-1000020 - nI (hrP le N p), f, tg, td) else if tg = 0 then rdA le N (hrP le N p + 1) f (hrC le N p) td rn else if hrC le N p = 114 then rdA le N (hrP le N p + 1) f tg td 1 else rdA le N (hrP le N p + 1) (filI (hrC le N p - 48) (endN td rn - td) td f) tg (endN td rn) 0 := by
  have hl := hrC_lt h0
  have hs : ¬ le (hrP le N p) = 32 := skp_stop le (N - p) p (by show hrP le N p < _; omega)
  have ec : hrC le N p = le (hrP le N p) := if_pos hl
  unfold rdA
  rw [rd_skip le N f tg td rn (N - p) p (by omega), show N - hrP le N p = (N - (hrP le N p + 1)) + 1 by omega, rdL, if_neg hs, ← ec]
theorem can_1 {tg c rn : Int32} {td : Nat} (ht : ¬ tg = 0) (htd : td ≤ 96) : canP tg (nI td) c rn ↔ td < 96 ∧ ((48 ≤ c ∧ c ≤ 57) ∨ (c = 114 ∧ rn = 0)) := by
  have e : nI td < 96 ↔ td < 96 := by
    rw [ma_lt, nI_toInt (by omega), show (96 : Int32).toInt = 96 by decide]; omega
  constructor
  · intro h
    rcases h with h | h
    · exact absurd h.1 ht
    · exact ⟨e.mp h.2.1, h.2.2⟩
  · intro h
    exact Or.inr ⟨ht, e.mpr h.1, h.2⟩
theorem dig {c : Int32} (h : 0 ≤ c.toInt ∧ c.toInt ≤ 126) : wthn (c - 48) 0 9 ↔ (48 ≤ c ∧ c ≤ 57) := by
  have e48 : (48 : Int32).toInt = 48 := by decide
  have e : (c - 48).toInt = c.toInt - 48 := by rw [i_sub (by rw [e48]; omega) (by rw [e48]; omega), e48]
  unfold wthn
  rw [ma_le, ma_le, ma_le, ma_le, e, e48, show (0 : Int32).toInt = 0 by decide, show (9 : Int32).toInt = 9 by decide, show (57 : Int32).toInt = 57 by decide]
  omega
theorem filI_at (v : Int32) : ∀ n i f k, filI v n i f k = if i ≤ k ∧ k < i + n then v else f k
  | 0, i, f, k => by rw [filI, if_neg (by omega)]
  | n + 1, i, f, k => by
    rw [filI, filI_at v n (i + 1) _ k]
    unfold upd
    by_cases h1 : k = i
    · subst h1; rw [if_neg (by omega), if_pos rfl, if_pos (by omega)]
    · by_cases h2 : i + 1 ≤ k ∧ k < i + 1 + n
      · rw [if_pos h2, if_pos (by omega)]
      · rw [if_neg h2, if_neg h1, if_neg (by omega)]
theorem none_ne {t : Nat} (h : t ≤ 96) : ¬ nI t = -1000004 := fun e => by
  rw [ma_eq, nI_toInt (by omega), show (-1000004 : Int32).toInt = -1000004 by decide] at e
  omega
/-- what both come to -/
def rdQ (le : Nat → Int32) (N : Nat) (tg : Int32) (A : Int32 × (Nat → Int32) × Int32 × Nat) (Q : Int32 × Nat × (Nat → Int32)) : Prop := A.1 = rpiR le N Q ∧ A.2.2.1 = tg ∧ (¬ Q.1 = -1000004 → (∃ t, t ≤ 96 ∧ Q.1 = nI t) ∧ ∀ j, j < 96 → A.2.1 j = piH Q j)
theorem rdQ_ok {le : Nat → Int32} {N t p : Nat} {tg : Int32} {f g : Nat → Int32} (ht : t ≤ 96) (hfg : ∀ j, j < t → f j = g j) : rdQ le N tg (nI t, filI 0 (96 - t) t f, tg, t) (nI t, p, g) := by
  refine ⟨?_, rfl, fun _ => ⟨⟨t, ht, rfl⟩, fun j hj => ?_⟩⟩
  · unfold rpiR; rw [if_neg (none_ne ht)]
  · unfold piH
    show filI 0 (96 - t) t f j = if nI j < nI t then g j else 0
    rw [filI_at]
    by_cases h1 : j < t
    · rw [if_neg (by omega), if_pos (by rw [ma_lt, nI_toInt (by omega), nI_toInt (by omega)]; omega), hfg j h1]
    · rw [if_pos (by omega), if_neg (by rw [ma_lt, nI_toInt (by omega), nI_toInt (by omega)]; omega)]
theorem rdQ_no {le : Nat → Int32} {N p : Nat} {tg a : Int32} {f g : Nat → Int32} {td : Nat} (h : a = -1000020 - (if hrC le N p = 0 then nI N else nI (hrP le N p))) : rdQ le N tg (a, f, tg, td) (-1000004, p, g) := by
  refine ⟨?_, rfl, fun q => absurd rfl q⟩
  unfold rpiR
  rw [if_pos rfl]
  exact h
/-- dots read by both -/
theorem rd_eq {le : Nat → Int32} {N : Nat} (h : lB le N) {tg : Int32} (htg : ¬ tg = 0) : ∀ k t p f g, 96 ≤ t + k → t ≤ 96 → p ≤ N → (∀ j, j < t → f j = g j) → rdQ le N tg (rdA le N p f tg t 0) (rdtL le N k t p g)
  | 0, t, p, f, g, hk, ht, hp, hfg => by
    rw [rdtL]
    by_cases h0 : hrC le N p = 0
    · rw [if_pos h0, rdA_end h hp h0, if_neg (fun q => q.elim htg (fun r => r rfl))]
      exact rdQ_ok ht hfg
    · rw [if_neg h0, rdA_let hp h0, if_pos (fun q => by have := ((can_1 htg ht).mp q).1; omega)]
      exact rdQ_no (by rw [hrC_idem le hp, if_neg h0, hrP_idem le hp])
  | k + 1, t, p, f, g, hk, ht, hp, hfg => by
    rw [rdtL]
    by_cases h0 : hrC le N p = 0
    · rw [if_neg (fun q => q.2 h0), if_pos h0, rdA_end h hp h0, if_neg (fun q => q.elim htg (fun r => r rfl))]
      exact rdQ_ok ht hfg
    · by_cases ht9 : t < 96
      · rw [if_pos ⟨ht9, h0⟩]
        have hl := hrC_lt h0
        by_cases hr : hrC le N p = 114
        · have eP : rdP le N p = hrP le N p + 1 := by unfold rdP rnN; rw [if_pos hr]
          have eV : rdV le N p = hrC le N (hrP le N p + 1) - 48 := by unfold rdV; rw [eP]
          have hp1 : hrP le N p + 1 ≤ N := by omega
          rw [rdA_let hp h0, if_neg (fun q => q ((can_1 htg ht).mpr ⟨ht9, Or.inr ⟨hr, rfl⟩⟩)), if_neg htg, if_pos hr, eV, eP]
          have hb := hrC_b (p := hrP le N p + 1) h
          by_cases hd : wthn (hrC le N (hrP le N p + 1) - 48) 0 9
          · have hd2 := (dig hb).mp hd
            have hn0 : ¬ hrC le N (hrP le N p + 1) = 0 := fun q => by rw [q] at hd2; revert hd2; decide
            have hn1 : ¬ hrC le N (hrP le N p + 1) = 114 := fun q => by rw [q] at hd2; revert hd2; decide
            have eB : mB (hrC le N p = 114) = 1 := mB_1 hr
            rw [if_pos hd, rdA_let hp1 hn0, if_neg (fun q => q ((can_1 htg ht).mpr ⟨ht9, Or.inl hd2⟩)), if_neg htg, if_neg hn1, eB]
            have hl2 := hrC_lt hn0
            have hE := endN_gt t 1
            have hE2 := endN_le 1 ht9
            refine rd_eq h htg k (endN t 1) _ _ _ (by omega) hE2 (by omega) (fun j hj => ?_)
            rw [filI_at, filI_at]
            by_cases h3 : t ≤ j ∧ j < t + (endN t 1 - t)
            · rw [if_pos h3, if_pos h3]
            · rw [if_neg h3, if_neg h3]; exact hfg j (by omega)
          · rw [if_neg hd]
            by_cases hn0 : hrC le N (hrP le N p + 1) = 0
            · rw [rdA_end h hp1 hn0, if_pos (Or.inr (by decide))]
              exact rdQ_no (by rw [hrC_idem le hp1, if_pos hn0])
            · rw [rdA_let hp1 hn0, if_pos (fun q => by rcases ((can_1 htg ht).mp q).2 with q2 | q2; exact hd ((dig hb).mpr q2); exact absurd q2.2 (by decide))]
              exact rdQ_no (by rw [hrC_idem le hp1, if_neg hn0, hrP_idem le hp1])
        · have eP : rdP le N p = hrP le N p := by unfold rdP rnN; rw [if_neg hr, Nat.add_zero]
          have eV : rdV le N p = hrC le N p - 48 := by unfold rdV; rw [eP, hrC_idem le hp]
          have hb := hrC_b (p := p) h
          rw [eV, eP, hrP_idem le hp]
          by_cases hd : wthn (hrC le N p - 48) 0 9
          · have hd2 := (dig hb).mp hd
            have eB : mB (hrC le N p = 114) = 0 := mB_0 hr
            rw [if_pos hd, rdA_let hp h0, if_neg (fun q => q ((can_1 htg ht).mpr ⟨ht9, Or.inl hd2⟩)), if_neg htg, if_neg hr, eB]
            have hE := endN_gt t 0
            have hE2 := endN_le 0 ht9
            refine rd_eq h htg k (endN t 0) _ _ _ (by omega) hE2 (by omega) (fun j hj => ?_)
            rw [filI_at, filI_at]
            by_cases h3 : t ≤ j ∧ j < t + (endN t 0 - t)
            · rw [if_pos h3, if_pos h3]
            · rw [if_neg h3, if_neg h3]; exact hfg j (by omega)
          · rw [if_neg hd, rdA_let hp h0, if_pos (fun q => by rcases ((can_1 htg ht).mp q).2 with q2 | q2; exact hd ((dig hb).mpr q2); exact absurd q2.1 hr)]
            exact rdQ_no (by rw [hrC_idem le hp, if_neg h0, hrP_idem le hp])
      · rw [if_neg (fun q => ht9 q.1), if_neg h0, rdA_let hp h0, if_pos (fun q => ht9 ((can_1 htg ht).mp q).1)]
        exact rdQ_no (by rw [hrC_idem le hp, if_neg h0, hrP_idem le hp])
