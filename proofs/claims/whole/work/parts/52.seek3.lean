theorem rbP_in (c : Int32 → Int32) : ∀ n t be le, t + n ≤ 49 → (∃ j, j < 49 ∧ be = ordF j) → ∃ j, j < 49 ∧ (rbP c n t be le).1 = ordF j
  | 0, _, _, _, _, h => h
  | n + 1, t, be, le, h, hb => by
    rw [rbP]
    split
    · exact rbP_in c n (t + 1) _ _ (by omega) ⟨t, by omega, rfl⟩
    · exact rbP_in c n (t + 1) _ _ (by omega) hb
theorem rbE_in {fo fn o : Nat → Int32} (ho : ∀ j, j < 49 → o j = ordF j) (k b : Int32) : ∃ j, j < 49 ∧ rbE o k fo fn b = ordF j := by
  unfold rbE
  rw [ho 0 (by decide), rbP_rb ho _ 48 1 _ _ (by omega)]
  exact rbP_in _ 48 1 _ _ (by omega) ⟨0, by decide, rfl⟩
/-- a part of a move -/
def S7 (v : Int32) : Prop := ∃ a, a < 7 ∧ v = nI a - 3
theorem S7_ord : ∀ j, j < 49 → (∃ a, a < 7 ∧ xOfI (ordF j) = nI a - 3) ∧ ∃ a, a < 7 ∧ yOfI (ordF j) = nI a - 3 := by decide +kernel
theorem S7_pt {j : Nat} (h : j < 49) (x : Int32) : S7 (ptI (ordF j) x) := by
  unfold ptI
  split
  · exact (S7_ord j h).2
  · exact (S7_ord j h).1
theorem S7_0 : S7 0 := ⟨3, by decide, by decide⟩
theorem S7_min {p q : Int32} (h1 : S7 p) (h2 : S7 q) : S7 (mMin p q) := by unfold mMin; split <;> assumption
theorem S7_max {p q : Int32} (h1 : S7 p) (h2 : S7 q) : S7 (mMax p q) := by unfold mMax; split <;> assumption
theorem min3 : ∀ a, a < 7 → ∀ b, b < 7 → leI 9 (nI a - 3) (nI b - 3) = mMin (nI a - 3) (nI b - 3) ∧ leI (nI a - 3) (nI b - 3) 9 = mMin (nI a - 3) (nI b - 3) ∧ leI (nI a - 3) 9 9 = nI a - 3 ∧ bitI ((nI a - 3) - (nI b - 3)) = rbiI ((nI a - 3) - (nI b - 3)) := by decide +kernel
theorem mid3 : ∀ a, a < 7 → ∀ b, b < 7 → ∀ c, c < 7 → (nI a - 3) + (nI b - 3) + (nI c - 3) - leI (nI a - 3) (nI b - 3) (nI c - 3) - moI (nI a - 3) (nI b - 3) (nI c - 3) = mMax (mMin (nI a - 3) (nI b - 3)) (mMin (mMax (nI a - 3) (nI b - 3)) (nI c - 3)) := by decide +kernel
/-- a field of moves that are in the order -/
def mvB (mv : Nat → Int32) : Prop := ∀ b, b < 6 → ∃ j, j < 49 ∧ mv b = ordF j
theorem mvB_pt {mv : Nat → Int32} (h : mvB mv) {b : Nat} (hb : b < 6) (x : Int32) : S7 (ptI (mv b) x) := by
  obtain ⟨j, hj, e⟩ := h b hb
  rw [e]; exact S7_pt hj x
theorem foI_0 (mv : Nat → Int32) (x : Int32) : foI mv x 0 = 0 := by simp only [foI]
theorem rfI_0 (mv : Nat → Int32) (x : Int32) : rfI mv x 0 = 0 := by simp only [rfI]
theorem foI_1 (mv : Nat → Int32) (x : Int32) : foI mv x 1 = ptI (mv 0) x := by simp only [foI]
theorem rfI_1 (mv : Nat → Int32) (x : Int32) : rfI mv x 1 = leI (ptI (mv 0) x) 9 9 := by simp only [rfI]
theorem foI_2 (mv : Nat → Int32) (x : Int32) : foI mv x 2 = ptI (mv 1) x := by simp only [foI]
theorem rfI_2 (mv : Nat → Int32) (x : Int32) : rfI mv x 2 = leI (ptI (mv 1) x) 9 9 := by simp only [rfI]
theorem foI_3 (mv : Nat → Int32) (x : Int32) : foI mv x 3 = mMin (ptI (mv 0) x) (ptI (mv 1) x) := by simp only [foI]
theorem rfI_3 (mv : Nat → Int32) (x : Int32) : rfI mv x 3 = leI 9 (ptI (mv 0) x) (ptI (mv 1) x) := by simp only [rfI]
theorem foI_4 (mv : Nat → Int32) (x : Int32) : foI mv x 4 = mMax (mMin (ptI (mv 3) x) (ptI (mv 1) x)) (mMin (mMax (ptI (mv 3) x) (ptI (mv 1) x)) (ptI (mv 2) x)) := by simp only [foI]
theorem rfI_4 (mv : Nat → Int32) (x : Int32) : rfI mv x 4 = ptI (mv 3) x + ptI (mv 1) x + ptI (mv 2) x - leI (ptI (mv 3) x) (ptI (mv 1) x) (ptI (mv 2) x) - moI (ptI (mv 3) x) (ptI (mv 1) x) (ptI (mv 2) x) := by simp only [rfI]
theorem foI_5 (mv : Nat → Int32) (x : Int32) : foI mv x 5 = mMin (ptI (mv 4) x) (ptI (mv 2) x) := by simp only [foI]
theorem rfI_5 (mv : Nat → Int32) (x : Int32) : rfI mv x 5 = leI (ptI (mv 4) x) (ptI (mv 2) x) 9 := by simp only [rfI]
theorem six {b : Nat} (h : b < 6) : b = 0 ∨ b = 1 ∨ b = 2 ∨ b = 3 ∨ b = 4 ∨ b = 5 := by omega
theorem S7_le1 {p : Int32} (h : S7 p) : leI p 9 9 = p := by
  obtain ⟨a, ha, rfl⟩ := h
  exact (min3 a ha a ha).2.2.1
theorem S7_le2 {p q : Int32} (h1 : S7 p) (h2 : S7 q) : leI 9 p q = mMin p q ∧ leI p q 9 = mMin p q := by
  obtain ⟨a, ha, rfl⟩ := h1
  obtain ⟨b, hb, rfl⟩ := h2
  exact ⟨(min3 a ha b hb).1, (min3 a ha b hb).2.1⟩
theorem S7_le3 {p q r : Int32} (h1 : S7 p) (h2 : S7 q) (h3 : S7 r) : p + q + r - leI p q r - moI p q r = mMax (mMin p q) (mMin (mMax p q) r) := by
  obtain ⟨a, ha, rfl⟩ := h1
  obtain ⟨b, hb, rfl⟩ := h2
  obtain ⟨c, hc, rfl⟩ := h3
  exact mid3 a ha b hb c hc
theorem fo_eq {mv : Nat → Int32} (h : mvB mv) (x : Int32) {b : Nat} (hb : b < 6) : rfI mv x b = foI mv x b ∧ S7 (foI mv x b) := by
  have p0 := mvB_pt h (b := 0) (by decide) x
  have p1 := mvB_pt h (b := 1) (by decide) x
  have p2 := mvB_pt h (b := 2) (by decide) x
  have p3 := mvB_pt h (b := 3) (by decide) x
  have p4 := mvB_pt h (b := 4) (by decide) x
  rcases six hb with rfl | rfl | rfl | rfl | rfl | rfl
  · rw [rfI_0, foI_0]; exact ⟨rfl, S7_0⟩
  · rw [rfI_1, foI_1]; exact ⟨S7_le1 p0, p0⟩
  · rw [rfI_2, foI_2]; exact ⟨S7_le1 p1, p1⟩
  · rw [rfI_3, foI_3]; exact ⟨(S7_le2 p0 p1).1, S7_min p0 p1⟩
  · rw [rfI_4, foI_4]; exact ⟨S7_le3 p3 p1 p2, S7_max (S7_min p3 p1) (S7_min (S7_max p3 p1) p2)⟩
  · rw [rfI_5, foI_5]; exact ⟨(S7_le2 p4 p2).2, S7_min p4 p2⟩
theorem bit_eq {p q : Int32} (h1 : S7 p) (h2 : S7 q) : bitI (p - q) = rbiI (p - q) := by
  obtain ⟨a, ha, rfl⟩ := h1
  obtain ⟨b, hb, rfl⟩ := h2
  exact (min3 a ha b hb).2.2.2
theorem fo_cg {mv nv : Nat → Int32} (h : ∀ b, b < 6 → mv b = nv b) (x : Int32) {b : Nat} (hb : b < 6) : foI mv x b = foI nv x b := by
  have e0 := h 0 (by decide)
  have e1 := h 1 (by decide)
  have e2 := h 2 (by decide)
  have e3 := h 3 (by decide)
  have e4 := h 4 (by decide)
  rcases six hb with rfl | rfl | rfl | rfl | rfl | rfl
  · rw [foI_0, foI_0]
  · rw [foI_1, foI_1, e0]
  · rw [foI_2, foI_2, e1]
  · rw [foI_3, foI_3, e0, e1]
  · rw [foI_4, foI_4, e3, e1, e2]
  · rw [foI_5, foI_5, e4, e2]
/-- the field's length -/
theorem len_eq {mv nv : Nat → Int32} (h : ∀ b, b < 6 → mv b = nv b) (hn : mvB nv) : ∀ n b a, b + n ≤ 6 → lenL mv n b a = rlL nv n b a
  | 0, _, _, _ => rfl
  | n + 1, b, a, hb => by
    have h6 : b < 6 := by omega
    rw [lenL, rlL, fo_cg h 1 h6, fo_cg h 0 h6, h b h6, (fo_eq hn 1 h6).1, (fo_eq hn 0 h6).1]
    have e1 : ptI (nv b) 1 = xOfI (nv b) := if_neg (by decide)
    have e2 : ptI (nv b) 0 = yOfI (nv b) := if_pos rfl
    rw [e1, e2, ← bit_eq (e1 ▸ mvB_pt hn h6 1) (fo_eq hn 1 h6).2, ← bit_eq (e2 ▸ mvB_pt hn h6 0) (fo_eq hn 0 h6).2, Int32.add_assoc]
    exact len_eq h hn n (b + 1) _ (by omega)
theorem bN_rN (i : Nat) : bN i = rN (i % 12) (i / 12) := by unfold bN rN; omega
theorem cntL_cg {p q : Nat → Bool} : ∀ n i a, (∀ t, i ≤ t → t < i + n → p t = q t) → cntL p n i a = cntL q n i a
  | 0, _, _, _ => rfl
  | n + 1, i, a, h => by rw [cntL, cntL, h i (by omega) (by omega)]; exact cntL_cg n (i + 1) _ (fun t h1 h2 => h t (by omega) (by omega))
/-- dots that the moves lack -/
theorem lac_eq {mv nv fo fn f : Nat → Int32} (h : ∀ b, b < 6 → mv b = nv b) (h1 : pE fo f) (h2 : pE fn (fun k => f (96 + k))) : cntL (lkP mv fo fn) 96 0 0 = rlaI nv f := by
  unfold rlaI
  refine cntL_cg 96 0 0 (fun t _ ht => ?_)
  have ht : t < 96 := by omega
  unfold lkP rlkP rebI
  rw [show mRem (nI t) 12 = nI (t % 12) from rem_nI 12 (by omega) (by decide) (by decide), show nI t / 12 = nI (t / 12) from pk_div (by omega) (by decide) (by decide), h _ (bN_lt ht), bN_rN, pix_cg h1, pix_cg h2, pixN _ (by omega) (by omega)]
  rw [show 12 * (t / 12) + t % 12 = t by omega]
theorem fiL_at (k : Int32) (fo fn : Nat → Int32) : ∀ n b f q c, b + n ≤ 6 → (fiL k fo fn n b f q).1 c = if b ≤ c ∧ c < b + n then (beT k fo fn (nI c)).1 else f c
  | 0, b, f, q, c, _ => by rw [fiL, if_neg (by omega)]
  | n + 1, b, f, q, c, h => by
    rw [fiL, fiL_at k fo fn n (b + 1) _ _ c (by omega)]
    unfold upd
    by_cases h1 : c = b
    · subst h1; rw [if_neg (by omega), if_pos rfl, if_pos (by omega)]
    · by_cases h2 : b + 1 ≤ c ∧ c < b + 1 + n
      · rw [if_pos h2, if_pos (by omega)]
      · rw [if_neg h2, if_neg h1, if_neg (by omega)]
theorem layL_at (o : Nat → Int32) (k : Int32) (fo fn : Nat → Int32) : ∀ n b f c, b + n ≤ 6 → layL o k fo fn n b f c = if b ≤ c ∧ c < b + n then rbE o k fo fn (nI c) else f c
  | 0, b, f, c, _ => by rw [layL, if_neg (by omega)]
  | n + 1, b, f, c, h => by
    rw [layL, layL_at o k fo fn n (b + 1) _ c (by omega)]
    unfold upd
    by_cases h1 : c = b
    · subst h1; rw [if_neg (by omega), if_pos rfl, if_pos (by omega)]
    · by_cases h2 : b + 1 ≤ c ∧ c < b + 1 + n
      · rw [if_pos h2, if_pos (by omega)]
      · rw [if_neg h2, if_neg h1, if_neg (by omega)]
/-- the fields of both agree -/
theorem lay_eq {fo fn go gn o : Nat → Int32} (p1 : pE fo go) (p2 : pE fn gn) (h1 : dB go) (h2 : dB gn) (ho : ∀ j, j < 49 → o j = ordF j) {k : Nat} (hk : k < 5) (f g : Nat → Int32) (q : Int32 × Int32 × Int32 × Int32) : (∀ b, b < 6 → (fiL (nI k) fo fn 6 0 f q).1 b = layL o (nI k) go gn 6 0 g b) ∧ mvB (layL o (nI k) go gn 6 0 g) := by
  refine ⟨fun b hb => ?_, fun b hb => ?_⟩
  · rw [fiL_at _ _ _ 6 0 _ _ b (by omega), layL_at _ _ _ _ 6 0 _ b (by omega), if_pos (by omega), if_pos (by omega), beT_cg p1 p2]
    exact (be_rb h1 h2 ho (nI b) hk).1
  · rw [layL_at _ _ _ _ 6 0 _ b (by omega), if_pos (by omega)]
    exact rbE_in ho _ _
