/-- the rows of a scene's pictures, by the shape alone -/
def oA (Z : mZ) (s : Nat) : Nat := ((rf Z 96 s).bind (rf Z 64)).getD 0
def nA (Z : mZ) (s : Nat) : Nat := ((rf Z 97 s).bind (rf Z 64)).getD 0
def scv (Z : mZ) (s : Nat) : Prop := ∃ p q, scn Z s p q (oA Z s) (nA Z s)
def scBz (Z : mZ) (d : mD) (s s2 : Nat) : mD := scB d s s2 (oA Z s) (nA Z s) (oA Z s2) (nA Z s2)
theorem cz_X3_become {l : Launch} {G : mG} {Z : mZ} {d : mD} {s s2 : Nat} (hs : scv Z s) (ht : scv Z s2) : CtV l G yX3_become cX3_become 2 2 81 [.ref s, .ref s2] Z d (scBz Z d s s2) := by
  obtain ⟨p, q, hs⟩ := hs
  obtain ⟨p2, q2, ht⟩ := ht
  exact c_X3_become hs ht
theorem scv.ob {Z : mZ} {s : Nat} (h : scv Z s) : ob Z 3 s := by obtain ⟨p, q, h⟩ := h; exact h.1
def psO (d : mD) (pa i : Nat) : Nat := (gO d pa i).getD 0
def pst (Z : mZ) (d : mD) (pa : Nat) : Prop := ∀ i, i < 8 → gO d pa i = some (psO d pa i) ∧ scv Z (psO d pa i)
def sty (Z : mZ) (t sc pa : Nat) : Prop := ob Z 6 t ∧ rf Z 192 t = some sc ∧ rf Z 193 t = some pa ∧ scv Z sc ∧ ar Z 12 pa 8
def rotG : Nat → Nat → (Nat → Option Nat) → (Nat → Option Nat)
  | 0, _, g => g
  | n + 1, j, g => rotG n (j + 1) (va_up g j (g (j + 1)))
theorem mGup {Z : mZ} {g : Nat → Option Nat} {i x : Nat} (hg : ∀ j, j < 8 → ∃ y, g j = some y ∧ ob Z 3 y) (ho : ob Z 3 x) : ∀ j, j < 8 → ∃ y, va_up g i (some x) j = some y ∧ ob Z 3 y := fun j hj => by
  by_cases hji : j = i
  · subst hji; exact ⟨x, by simp [va_up], ho⟩
  · obtain ⟨y9, hy9, ho9⟩ := hg j hj; exact ⟨y9, by simp [va_up, hji, hy9], ho9⟩
def rotO (f : Nat → Option Nat) : Nat → Option Nat := fun i => if i < 7 then f (i + 1) else if i = 7 then f 0 else f i
theorem rotO_eq (f : Nat → Option Nat) : va_up (rotG 7 0 f) 7 (f 0) = rotO f := by
  funext i
  match i with
  | 0 | 1 | 2 | 3 | 4 | 5 | 6 | 7 => rfl
  | j + 8 => simp [va_up, rotG, rotO]; intro h; omega
def loD (d : mD) (t pa : Nat) : mD := sI (tO d pa (rotO (gO d pa))) 194 t 7
def keD (Z : mZ) (d : mD) (t sc pa k : Nat) : mD := if k = 8 then sI (scBz Z (loD d t pa) (psO (loD d t pa) pa 7) sc) 194 t 8 else sI (scBz Z d (psO d pa k) sc) 194 t (nI (k + 1))
def gbD (Z : mZ) (d : mD) (t sc pa k : Nat) : mD := scBz Z (sI d 194 t (nI (k - 1))) sc (psO d pa (k - 1))
def stB (Z : mZ) (pa pb : Nat) : Nat → Nat → mD → mD
  | 0, _, d => d
  | n + 1, i, d => stB Z pa pb n (i + 1) (scBz Z d (psO d pa i) (psO d pb i))
theorem gO_scBz (Z : mZ) (d : mD) (s s2 b : Nat) : gO (scBz Z d s s2) b = gO d b := rfl
theorem psO_scBz (Z : mZ) (d : mD) (s s2 b i : Nat) : psO (scBz Z d s s2) b i = psO d b i := rfl
theorem gI_scBz (Z : mZ) (d : mD) (s s2 f b : Nat) (h1 : f ≠ 98) (h2 : f ≠ 99) : gI (scBz Z d s s2) f b = gI d f b := by
  simp [scBz, scB, gI_sI, gI_tA, h1, h2]
theorem pst.scBz {Z : mZ} {d : mD} {pa : Nat} (h : pst Z d pa) (s s2 : Nat) : pst Z (scBz Z d s s2) pa := h
theorem pst.sI {Z : mZ} {d : mD} {pa : Nat} (h : pst Z d pa) (f a : Nat) (v : Int32) : pst Z (sI d f a v) pa := h
/-! the tape -/
def tap (Z : mZ) (t le dt : Nat) : Prop := ob Z 7 t ∧ rf Z 224 t = some le ∧ rf Z 226 t = some dt ∧ ar Z 10 le 120 ∧ ar Z 10 dt 96
def adD (d : mD) (t le n : Nat) (c : Int32) : mD := if n < 120 then sI (tA d le (upd (gA d le) n c)) 225 t (nI (n + 1)) else d
abbrev canP (tg td lt rn : Int32) : Prop := (tg = 0 ∧ (lt = 111 ∨ lt = 110 ∨ lt = 98)) ∨ (¬ tg = 0 ∧ td < 96 ∧ ((48 ≤ lt ∧ lt ≤ 57) ∨ (lt = 114 ∧ rn = 0)))
def filI (v : Int32) : Nat → Nat → (Nat → Int32) → (Nat → Int32)
  | 0, _, f => f
  | n + 1, i, f => filI v n (i + 1) (upd f i v)
def endN (td : Nat) (rn : Int32) : Nat := if rn = 0 then td + 1 else (td / 12 + 1) * 12
theorem endN_gt (td : Nat) (rn : Int32) : td < endN td rn := by unfold endN; split <;> omega
theorem endN_le {td : Nat} (rn : Int32) (h : td < 96) : endN td rn ≤ 96 := by unfold endN; split <;> omega
def teD (d : mD) (t dt td : Nat) (fg rn : Int32) : mD := sI (tA d dt (filI fg (endN td rn - td) td (gA d dt))) 227 t (nI (endN td rn))
def tpD (d : mD) (t dt : Nat) (f : Nat → Int32) (tg td : Int32) : mD := tA (sI (sI d 228 t tg) 227 t td) dt f
theorem tp_228 (d : mD) (t dt : Nat) (f : Nat → Int32) (tg td v : Int32) : sI (tpD d t dt f tg td) 228 t v = tpD d t dt f v td := by
  simp only [tpD, sI, tA]; congr 1; funext g b
  by_cases h1 : g = 228 ∧ b = t
  · obtain ⟨rfl, rfl⟩ := h1; simp
  · rw [if_neg h1, if_neg h1, if_neg h1]
theorem tp_tell (d : mD) (t dt : Nat) (f : Nat → Int32) (tg : Int32) (td : Nat) (fg rn : Int32) : teD (tpD d t dt f tg (nI td)) t dt td fg rn = tpD d t dt (filI fg (endN td rn - td) td f) tg (nI (endN td rn)) := by
  simp only [teD, tpD, sI, tA, gA, if_pos]; congr 1
  · funext g b
    by_cases h1 : g = 227 ∧ b = t
    · rw [if_pos h1, if_pos h1]
    · rw [if_neg h1, if_neg h1, if_neg h1]
  · congr 1; funext b; split <;> rfl
theorem tp_fill (d : mD) (t dt : Nat) (f g : Nat → Int32) (tg td : Int32) : tA (tpD d t dt f tg td) dt g = tpD d t dt g tg td := tA_tA _ _ _ _
theorem gI_tp228 (d : mD) (t dt : Nat) (f : Nat → Int32) (tg td : Int32) : gI (tpD d t dt f tg td) 228 t = tg := by simp [tpD, gI_tA, gI_sI]
theorem gI_tp227 (d : mD) (t dt : Nat) (f : Nat → Int32) (tg td : Int32) : gI (tpD d t dt f tg td) 227 t = td := by simp [tpD, gI_tA, gI_sI]
theorem gI_tp225 (d : mD) (t dt : Nat) (f : Nat → Int32) (tg td : Int32) : gI (tpD d t dt f tg td) 225 t = gI d 225 t := by simp [tpD, gI_tA, gI_sI]
theorem gA_tp (d : mD) (t dt : Nat) (f : Nat → Int32) (tg td : Int32) : gA (tpD d t dt f tg td) dt = f := by simp [tpD, gA_tA]
theorem gA_tpo (d : mD) (t dt le : Nat) (f : Nat → Int32) (tg td : Int32) (h : le ≠ dt) : gA (tpD d t dt f tg td) le = gA d le := by simp [tpD, gA_tA, gA_sI, h]
/-- the tape read on: the answer, the dots, whom it tells, how many dots are told -/
def rdL (le : Nat → Int32) (sz : Nat) : Nat → Nat → (Nat → Int32) → Int32 → Nat → Int32 → Int32 × (Nat → Int32) × Int32 × Nat
  | 0, _, f, tg, td, rn => if tg = 0 ∨ ¬ rn = 0 then (-1000020 - nI sz, f, tg, td) else (nI td, filI 0 (96 - td) td f, tg, td)
  | n + 1, i, f, tg, td, rn =>
    if le i = 32 then rdL le sz n (i + 1) f tg td rn
    else if ¬ canP tg (nI td) (le i) rn then (-1000020 - nI i, f, tg, td)
    else if tg = 0 then rdL le sz n (i + 1) f (le i) td rn
    else if le i = 114 then rdL le sz n (i + 1) f tg td 1
    else rdL le sz n (i + 1) (filI (le i - 48) (endN td rn - td) td f) tg (endN td rn) 0
theorem endN_nI {td : Nat} (rn : Int32) (h : td < 96) : (if rn = 0 then nI td + 1 else (nI td / 12 + 1) * 12) = nI (endN td rn) := by
  unfold endN
  split
  · exact nI_1 td
  · rw [show (12 : Int32) = nI 12 from rfl, pk_div (by omega) (by decide) (by decide), nI_1, pk_mul]
theorem c_X6_loseOldest {l : Launch} {G : mG} {Z : mZ} {d : mD} {t sc pa : Nat} (ht : sty Z t sc pa) (hp : pst Z d pa) : CtV l G yX6_loseOldest cX6_loseOldest 3 0 0 [.ref t] Z d (loD d t pa) := by
  refine enterV RX6 2 [some (.ref t), none, none] (by decide) rfl rfl rfl (fun X hR => ?_)
  refine al0 (pc := 0) dX6_loseOldest_0 ?_
  refine gf_X6_18 (pc := 1) ht.1 ht.2.2.1 dX6_loseOldest_1 ?_
  refine g_iconst (pc := 4) dX6_loseOldest_4 kc0 ?_
  refine g_aldS (pc := 5) 0 ht.2.2.2.2 (by decide) (rfl) (by decide) ((hp 0 (by decide)).1) dX6_loseOldest_5 ?_
  refine as1 (pc := 6) dX6_loseOldest_6 rfl ?_
  refine g_iconst (pc := 7) dX6_loseOldest_7 kc1 ?_
  refine is2 (pc := 8) dX6_loseOldest_8 rfl ?_
  have L9 : ∀ (n i : Nat) (g : Nat → Option Nat), i + n = 7 → (∀ j, j < 8 → ∃ x, g j = some x ∧ ob Z 3 x) → (rotG n i g = rotG 7 0 (gO d pa)) → mGo l G (mRm 0 0) X RX6 cX6_loseOldest 3 0 0 Z 9 [some (.ref t), some (.ref (psO d pa 0)), some (.int (nI (i + 1)))] [] (tO d pa g) := by
    intro n; induction n with
    | zero =>
      intro i g hin9 hg hF
      refine il2 (pc := 9) dX6_loseOldest_9 ?_
      refine g_bipush (pc := 10) dX6_loseOldest_10 kb8 ?_
      refine g_icmpge 35 (pc := 12) dX6_loseOldest_12 (by decide) (fun c12 => ?_) (fun c12 => absurd (nI_le (a := 8) (by omega) (by omega)) c12)
      refine al0 (pc := 35) dX6_loseOldest_35 ?_
      refine gf_X6_18 (pc := 36) ht.1 ht.2.2.1 dX6_loseOldest_36 ?_
      refine g_bipush (pc := 39) dX6_loseOldest_39 kb7 ?_
      refine al1 (pc := 41) dX6_loseOldest_41 ?_
      refine g_astS (pc := 42) 7 ht.2.2.2.2 (by decide) (rfl) (by decide) ((hp 0 (by decide)).2.ob) dX6_loseOldest_42 ?_
      refine al0 (pc := 43) dX6_loseOldest_43 ?_
      refine g_bipush (pc := 44) dX6_loseOldest_44 kb7 ?_
      refine pf_X6_22 (pc := 46) ht.1 dX6_loseOldest_46 ?_
      exact retV (pc := 49) hR dX6_loseOldest_49 (by show sI (tO (tO d pa g) pa (va_up (gO (tO d pa g) pa) 7 (some (psO d pa 0)))) 194 t 7 = loD d t pa; rw [gO_tO, if_pos rfl, tO_tO, show g = rotG 7 0 (gO d pa) from hF, ← (hp 0 (by decide)).1, rotO_eq]; rfl)
    | succ n ih9 =>
      intro i g hin9 hg hF
      refine il2 (pc := 9) dX6_loseOldest_9 ?_
      refine g_bipush (pc := 10) dX6_loseOldest_10 kb8 ?_
      refine g_icmpge 35 (pc := 12) dX6_loseOldest_12 (by decide) (fun c12 => absurd c12 (nI_ge (b := 8) (by omega) (by omega))) (fun c12 => ?_)
      refine al0 (pc := 15) dX6_loseOldest_15 ?_
      refine gf_X6_18 (pc := 16) ht.1 ht.2.2.1 dX6_loseOldest_16 ?_
      refine il2 (pc := 19) dX6_loseOldest_19 ?_
      refine g_iconst (pc := 20) dX6_loseOldest_20 kc1 ?_
      refine g_isub (pc := 21) dX6_loseOldest_21 ?_
      refine al0 (pc := 22) dX6_loseOldest_22 ?_
      refine gf_X6_18 (pc := 23) ht.1 ht.2.2.1 dX6_loseOldest_23 ?_
      refine il2 (pc := 26) dX6_loseOldest_26 ?_
      obtain ⟨x9, hx9, hox9⟩ := hg (i + 1) (by omega)
      refine g_aldS (pc := 27) (i + 1) ht.2.2.2.2 (by omega) (rfl) (by decide) (by rw [gO_tO, if_pos rfl]; exact hx9) dX6_loseOldest_27 ?_
      refine g_astS (pc := 28) i ht.2.2.2.2 (by omega) (nI_pred i) (by decide) (hox9) dX6_loseOldest_28 ?_
      refine ic2 (pc := 29) dX6_loseOldest_29 kc1 rfl ?_
      refine g_goto 9 (pc := 32) dX6_loseOldest_32 (by decide) ?_
      rw [nI_1, gO_tO, if_pos rfl, tO_tO]
      exact ih9 (i + 1) _ (by omega) (mGup hg hox9) (by rw [← hF, rotG, hx9])
  have q9 := L9 7 0 (gO d pa) (by omega) (fun j hj => ⟨_, (hp j hj).1, (hp j hj).2.ob⟩) rfl
  rw [tO_self] at q9
  exact q9
theorem c_X6_keep {l : Launch} {G : mG} {Z : mZ} {d : mD} {t sc pa k : Nat} (ht : sty Z t sc pa) (hp : pst Z d pa) (hk : gI d 194 t = nI k) (hk8 : k ≤ 8) : CtV l G yX6_keep cX6_keep 1 3 102 [.ref t] Z d (keD Z d t sc pa k) := by
  have hp2 : pst Z (loD d t pa) pa := by
    intro i hi
    have e9 : gO (loD d t pa) pa i = rotO (gO d pa) i := by show gO (tO d pa _) pa i = _; rw [gO_tO, if_pos rfl]
    have h8 := hp (if i < 7 then i + 1 else 0) (by split <;> omega)
    have e8 : rotO (gO d pa) i = gO d pa (if i < 7 then i + 1 else 0) := by
      unfold rotO
      by_cases h7 : i < 7
      · rw [if_pos h7, if_pos h7]
      · rw [if_neg h7, if_neg h7, if_pos (by omega)]
    have e7 : psO (loD d t pa) pa i = psO d pa (if i < 7 then i + 1 else 0) := by unfold psO; rw [e9, e8]
    rw [e9, e8, e7]; exact h8
  refine enterV RX6 0 [some (.ref t)] (by decide) rfl rfl rfl (fun X hR => ?_)
  refine al0 (pc := 0) dX6_keep_0 ?_
  refine gf_X6_22 (pc := 1) ht.1 dX6_keep_1 ?_
  refine g_bipush (pc := 4) dX6_keep_4 kb8 ?_
  refine g_icmpne 13 (pc := 6) dX6_keep_6 (by decide) (fun c6 => ?_) (fun c6 => ?_)
  · skip
    have hk9 : ¬ k = 8 := fun h => c6 (by rw [hk, h]; rfl)
    refine al0 (pc := 13) dX6_keep_13 ?_
    refine gf_X6_18 (pc := 14) ht.1 ht.2.2.1 dX6_keep_14 ?_
    refine al0 (pc := 17) dX6_keep_17 ?_
    refine gf_X6_22 (pc := 18) ht.1 dX6_keep_18 ?_
    refine g_aldS (pc := 21) k ht.2.2.2.2 (by omega) (hk) (by decide) ((hp k (by omega)).1) dX6_keep_21 ?_
    refine al0 (pc := 22) dX6_keep_22 ?_
    refine gf_X6_12 (pc := 23) ht.1 ht.2.1 dX6_keep_23 ?_
    refine cl_X6_29 (pc := 26) (cz_X3_become (hp k (by omega)).2 ht.2.2.2.1) (hp k (by omega)).2.ob (by decide) ⟨Nat.zero_le _, Nat.zero_le _⟩ (Nat.le_of_ble_eq_true rfl) dX6_keep_26 ?_
    refine al0 (pc := 29) dX6_keep_29 ?_
    refine g_dupR (pc := 30) dX6_keep_30 ?_
    refine gf_X6_22 (pc := 31) ht.1 dX6_keep_31 ?_
    refine g_iconst (pc := 34) dX6_keep_34 kc1 ?_
    refine g_iadd (pc := 35) dX6_keep_35 ?_
    refine pf_X6_22 (pc := 36) ht.1 dX6_keep_36 ?_
    exact retV (pc := 39) hR dX6_keep_39 (by rw [gI_scBz _ _ _ _ _ _ (by decide) (by decide), hk, nI_1, keD, if_neg hk9])
  · skip
    have hk9 : k = 8 := by
      have h9 : nI k = nI 8 := by rw [← hk]; exact c6
      exact (nI_eq (by omega) (by decide)).mp h9
    refine al0 (pc := 9) dX6_keep_9 ?_
    refine cl_X6_26 (pc := 10) (c_X6_loseOldest ht hp) ht.1 (by decide) ⟨Nat.zero_le _, Nat.zero_le _⟩ (Nat.le_of_ble_eq_true rfl) dX6_keep_10 ?_
    refine al0 (pc := 13) dX6_keep_13 ?_
    refine gf_X6_18 (pc := 14) ht.1 ht.2.2.1 dX6_keep_14 ?_
    refine al0 (pc := 17) dX6_keep_17 ?_
    refine gf_X6_22 (pc := 18) ht.1 dX6_keep_18 ?_
    refine g_aldS (pc := 21) 7 ht.2.2.2.2 (by decide) (by show gI (sI _ 194 t 7) 194 t = _; rw [gI_sI, if_pos ⟨rfl, rfl⟩]; rfl) (by decide) ((hp2 7 (by decide)).1) dX6_keep_21 ?_
    refine al0 (pc := 22) dX6_keep_22 ?_
    refine gf_X6_12 (pc := 23) ht.1 ht.2.1 dX6_keep_23 ?_
    refine cl_X6_29 (pc := 26) (cz_X3_become (hp2 7 (by decide)).2 ht.2.2.2.1) (hp2 7 (by decide)).2.ob (by decide) ⟨Nat.zero_le _, Nat.zero_le _⟩ (Nat.le_of_ble_eq_true rfl) dX6_keep_26 ?_
    refine al0 (pc := 29) dX6_keep_29 ?_
    refine g_dupR (pc := 30) dX6_keep_30 ?_
    refine gf_X6_22 (pc := 31) ht.1 dX6_keep_31 ?_
    refine g_iconst (pc := 34) dX6_keep_34 kc1 ?_
    refine g_iadd (pc := 35) dX6_keep_35 ?_
    refine pf_X6_22 (pc := 36) ht.1 dX6_keep_36 ?_
    exact retV (pc := 39) hR dX6_keep_39 (by rw [gI_scBz _ _ _ _ _ _ (by decide) (by decide)]; show sI _ 194 t (gI (sI _ 194 t 7) 194 t + 1) = _; rw [gI_sI, if_pos ⟨rfl, rfl⟩, keD, if_pos hk9]; rfl)
theorem c_X6_goBack {l : Launch} {G : mG} {Z : mZ} {d : mD} {t sc pa k : Nat} (ht : sty Z t sc pa) (hp : pst Z d pa) (hk : gI d 194 t = nI k) (hk8 : k ≤ 8) (hk0 : 0 < k) : CtV l G yX6_goBack cX6_goBack 1 3 102 [.ref t] Z d (gbD Z d t sc pa k) := by
  have e1 : gI d 194 t - 1 = nI (k - 1) := by rw [hk]; obtain ⟨j, rfl⟩ : ∃ j, k = j + 1 := ⟨k - 1, by omega⟩; exact nI_pred j
  refine enterV RX6 0 [some (.ref t)] (by decide) rfl rfl rfl (fun X hR => ?_)
  refine al0 (pc := 0) dX6_goBack_0 ?_
  refine gf_X6_22 (pc := 1) ht.1 dX6_goBack_1 ?_
  refine g_ifle 33 (pc := 4) dX6_goBack_4 (by decide) (fun c4 => absurd c4 (by rw [hk]; exact nI_nle hk0 (by omega))) (fun c4 => ?_)
  refine al0 (pc := 7) dX6_goBack_7 ?_
  refine g_dupR (pc := 8) dX6_goBack_8 ?_
  refine gf_X6_22 (pc := 9) ht.1 dX6_goBack_9 ?_
  refine g_iconst (pc := 12) dX6_goBack_12 kc1 ?_
  refine g_isub (pc := 13) dX6_goBack_13 ?_
  refine pf_X6_22 (pc := 14) ht.1 dX6_goBack_14 ?_
  rw [e1]
  refine al0 (pc := 17) dX6_goBack_17 ?_
  refine gf_X6_12 (pc := 18) ht.1 ht.2.1 dX6_goBack_18 ?_
  refine al0 (pc := 21) dX6_goBack_21 ?_
  refine gf_X6_18 (pc := 22) ht.1 ht.2.2.1 dX6_goBack_22 ?_
  refine al0 (pc := 25) dX6_goBack_25 ?_
  refine gf_X6_22 (pc := 26) ht.1 dX6_goBack_26 ?_
  refine g_aldS (pc := 29) (k - 1) ht.2.2.2.2 (by omega) (by rw [gI_sI, if_pos ⟨rfl, rfl⟩]) (by decide) ((hp (k - 1) (by omega)).1) dX6_goBack_29 ?_
  refine cl_X6_29 (pc := 30) (cz_X3_become ht.2.2.2.1 (hp (k - 1) (by omega)).2) ht.2.2.2.1.ob (by decide) ⟨Nat.zero_le _, Nat.zero_le _⟩ (Nat.le_of_ble_eq_true rfl) dX6_goBack_30 ?_
  exact retV (pc := 33) hR dX6_goBack_33 (rfl)
theorem c_X6_become {l : Launch} {G : mG} {Z : mZ} {d : mD} {t sc pa t2 sc2 pb k : Nat} (ht : sty Z t sc pa) (hu : sty Z t2 sc2 pb) (hp : pst Z d pa) (hq : pst Z d pb) (hk : gI d 194 t2 = nI k) (hk8 : k ≤ 8) : CtV l G yX6_become cX6_become 3 3 102 [.ref t, .ref t2] Z d (stB Z pa pb k 0 (sI (scBz Z d sc sc2) 194 t (nI k))) := by
  refine enterV RX6 1 [some (.ref t), some (.ref t2), none] (by decide) rfl rfl rfl (fun X hR => ?_)
  refine al0 (pc := 0) dX6_become_0 ?_
  refine gf_X6_12 (pc := 1) ht.1 ht.2.1 dX6_become_1 ?_
  refine al1 (pc := 4) dX6_become_4 ?_
  refine gf_X6_12 (pc := 5) hu.1 hu.2.1 dX6_become_5 ?_
  refine cl_X6_29 (pc := 8) (cz_X3_become ht.2.2.2.1 hu.2.2.2.1) ht.2.2.2.1.ob (by decide) ⟨Nat.zero_le _, Nat.zero_le _⟩ (Nat.le_of_ble_eq_true rfl) dX6_become_8 ?_
  refine al0 (pc := 11) dX6_become_11 ?_
  refine al1 (pc := 12) dX6_become_12 ?_
  refine gf_X6_22 (pc := 13) hu.1 dX6_become_13 ?_
  refine pf_X6_22 (pc := 16) ht.1 dX6_become_16 ?_
  rw [gI_scBz _ _ _ _ _ _ (by decide) (by decide), hk]
  refine g_iconst (pc := 19) dX6_become_19 kc0 ?_
  refine is2 (pc := 20) dX6_become_20 rfl ?_
  have L21 : ∀ (n i : Nat) (e : mD), i + n = k → (pst Z e pa) → (pst Z e pb) → (gI e 194 t = nI k) → (stB Z pa pb n i e = stB Z pa pb k 0 (sI (scBz Z d sc sc2) 194 t (nI k))) → mGo l G (mRm 3 102) X RX6 cX6_become 3 0 0 Z 21 [some (.ref t), some (.ref t2), some (.int (nI i))] [] e := by
    intro n; induction n with
    | zero =>
      intro i e hin21 hp2 hq2 hek hF
      refine il2 (pc := 21) dX6_become_21 ?_
      refine al0 (pc := 22) dX6_become_22 ?_
      refine gf_X6_22 (pc := 23) ht.1 dX6_become_23 ?_
      refine g_icmpge 50 (pc := 26) dX6_become_26 (by decide) (fun c26 => ?_) (fun c26 => absurd (by rw [hek]; exact nI_le (by omega) (by omega)) c26)
      exact retV (pc := 50) hR dX6_become_50 (hF)
    | succ n ih21 =>
      intro i e hin21 hp2 hq2 hek hF
      refine il2 (pc := 21) dX6_become_21 ?_
      refine al0 (pc := 22) dX6_become_22 ?_
      refine gf_X6_22 (pc := 23) ht.1 dX6_become_23 ?_
      refine g_icmpge 50 (pc := 26) dX6_become_26 (by decide) (fun c26 => absurd c26 (by rw [hek]; exact nI_ge (by omega) (by omega))) (fun c26 => ?_)
      refine al0 (pc := 29) dX6_become_29 ?_
      refine gf_X6_18 (pc := 30) ht.1 ht.2.2.1 dX6_become_30 ?_
      refine il2 (pc := 33) dX6_become_33 ?_
      refine g_aldS (pc := 34) i ht.2.2.2.2 (by omega) (rfl) (by decide) ((hp2 i (by omega)).1) dX6_become_34 ?_
      refine al1 (pc := 35) dX6_become_35 ?_
      refine gf_X6_18 (pc := 36) hu.1 hu.2.2.1 dX6_become_36 ?_
      refine il2 (pc := 39) dX6_become_39 ?_
      refine g_aldS (pc := 40) i hu.2.2.2.2 (by omega) (rfl) (by decide) ((hq2 i (by omega)).1) dX6_become_40 ?_
      refine cl_X6_29 (pc := 41) (cz_X3_become (hp2 i (by omega)).2 (hq2 i (by omega)).2) (hp2 i (by omega)).2.ob (by decide) ⟨Nat.zero_le _, Nat.zero_le _⟩ (Nat.le_of_ble_eq_true rfl) dX6_become_41 ?_
      refine ic2 (pc := 44) dX6_become_44 kc1 rfl ?_
      refine g_goto 21 (pc := 47) dX6_become_47 (by decide) ?_
      rw [nI_1]
      exact ih21 (i + 1) _ (by omega) (hp2.scBz _ _) (hq2.scBz _ _) (by rw [gI_scBz _ _ _ _ _ _ (by decide) (by decide)]; exact hek) hF
  exact L21 k 0 _ (by omega) ((hp.scBz _ _).sI _ _ _) ((hq.scBz _ _).sI _ _ _) (by rw [gI_sI, if_pos ⟨rfl, rfl⟩]) rfl
theorem c_X7_add {l : Launch} {G : mG} {Z : mZ} {d : mD} {t le dt n : Nat} {c : Int32} (ht : tap Z t le dt) (hn : gI d 225 t = nI n) (hn2 : n ≤ 120) : CtI l G yX7_add cX7_add 2 .boolean 0 0 [.ref t, .int c] Z d (mB (n < 120)) (adD d t le n c) := by
  refine enterI RX7 0 [some (.ref t), some (.int c)] (by decide) rfl (narB _) rfl rfl (fun X hR => ?_)
  refine al0 (pc := 0) dX7_add_0 ?_
  refine gf_X7_15 (pc := 1) ht.1 dX7_add_1 ?_
  refine g_bipush (pc := 4) dX7_add_4 kb120 ?_
  refine g_icmplt 11 (pc := 6) dX7_add_6 (by decide) (fun c6 => ?_) (fun c6 => ?_)
  · skip
    have hlt : n < 120 := by
      rw [hn] at c6; exact (nI_ltI (b := 120) (by omega) (by decide)).mp c6
    refine al0 (pc := 11) dX7_add_11 ?_
    refine gf_X7_9 (pc := 12) ht.1 ht.2.1 dX7_add_12 ?_
    refine al0 (pc := 15) dX7_add_15 ?_
    refine gf_X7_15 (pc := 16) ht.1 dX7_add_16 ?_
    refine il1 (pc := 19) dX7_add_19 ?_
    refine g_iast (pc := 20) n ht.2.2.2.1 (hlt) (hn) (by decide) dX7_add_20 ?_
    refine al0 (pc := 21) dX7_add_21 ?_
    refine g_dupR (pc := 22) dX7_add_22 ?_
    refine gf_X7_15 (pc := 23) ht.1 dX7_add_23 ?_
    refine g_iconst (pc := 26) dX7_add_26 kc1 ?_
    refine g_iadd (pc := 27) dX7_add_27 ?_
    refine pf_X7_15 (pc := 28) ht.1 dX7_add_28 ?_
    refine g_iconst (pc := 31) dX7_add_31 kc1 ?_
    exact retI (pc := 32) hR dX7_add_32 ((mB_1 hlt).symm) (by rw [gI_tA, hn, nI_1, adD, if_pos hlt])
  · skip
    have hlt : ¬ n < 120 := fun h => c6 (by rw [hn]; exact nI_lt (b := 120) h (by decide))
    refine g_iconst (pc := 9) dX7_add_9 kc0 ?_
    exact retI (pc := 10) hR dX7_add_10 ((mB_0 hlt).symm) (by rw [adD, if_neg hlt])
set_option maxHeartbeats 1000000 in
theorem c_X7_canStand {l : Launch} {G : mG} {Z : mZ} {d : mD} {t le dt : Nat} {c rn : Int32} (ht : tap Z t le dt) : CtI l G yX7_canStand cX7_canStand 4 .boolean 0 0 [.ref t, .int c, .int rn] Z d (mB (canP (gI d 228 t) (gI d 227 t) c rn)) d := by
  refine enterI RX7 1 [some (.ref t), some (.int c), some (.int rn), none] (by decide) rfl (narB _) rfl rfl (fun X hR => ?_)
  refine al0 (pc := 0) dX7_canStand_0 ?_
  refine gf_X7_25 (pc := 1) ht.1 dX7_canStand_1 ?_
  refine g_ifne 31 (pc := 4) dX7_canStand_4 (by decide) (fun c4 => ?_) (fun c4 => ?_)
  · skip
    refine il1 (pc := 31) dX7_canStand_31 ?_
    refine g_bipush (pc := 32) dX7_canStand_32 kb48 ?_
    refine g_icmplt 47 (pc := 34) dX7_canStand_34 (by decide) (fun c34 => ?_) (fun c34 => ?_)
    · skip
      refine g_iconst (pc := 47) dX7_canStand_47 kc0 ?_
      refine is3 (pc := 48) dX7_canStand_48 rfl ?_
      refine al0 (pc := 49) dX7_canStand_49 ?_
      refine gf_X7_22 (pc := 50) ht.1 dX7_canStand_50 ?_
      refine g_bipush (pc := 53) dX7_canStand_53 kb96 ?_
      refine g_icmpge 76 (pc := 55) dX7_canStand_55 (by decide) (fun c55 => ?_) (fun c55 => ?_)
      · skip
        refine g_iconst (pc := 76) dX7_canStand_76 kc0 ?_
        exact retI (pc := 77) hR dX7_canStand_77 (by (try simp only [← Int32.not_lt, Decidable.not_not] at c4 c34 c55); simp [mB, canP, ← Int32.not_lt, c4, c34, c55]) (rfl)
      · skip
        refine il3 (pc := 58) dX7_canStand_58 ?_
        refine g_ifne 72 (pc := 59) dX7_canStand_59 (by decide) (fun c59 => absurd (by decide) c59) (fun c59 => ?_)
        refine il1 (pc := 62) dX7_canStand_62 ?_
        refine g_bipush (pc := 63) dX7_canStand_63 kb114 ?_
        refine g_icmpne 76 (pc := 65) dX7_canStand_65 (by decide) (fun c65 => ?_) (fun c65 => ?_)
        · skip
          refine g_iconst (pc := 76) dX7_canStand_76 kc0 ?_
          exact retI (pc := 77) hR dX7_canStand_77 (by (try simp only [← Int32.not_lt, Decidable.not_not] at c4 c34 c55 c59 c65); simp [mB, canP, ← Int32.not_lt, c4, c34, c55, c59, c65]) (rfl)
        · skip
          refine il2 (pc := 68) dX7_canStand_68 ?_
          refine g_ifne 76 (pc := 69) dX7_canStand_69 (by decide) (fun c69 => ?_) (fun c69 => ?_)
          · skip
            refine g_iconst (pc := 76) dX7_canStand_76 kc0 ?_
            exact retI (pc := 77) hR dX7_canStand_77 (by (try simp only [← Int32.not_lt, Decidable.not_not] at c4 c34 c55 c59 c65 c69); simp [mB, canP, ← Int32.not_lt, c4, c34, c55, c59, c65, c69]) (rfl)
          · skip
            refine g_iconst (pc := 72) dX7_canStand_72 kc1 ?_
            refine g_goto 77 (pc := 73) dX7_canStand_73 (by decide) ?_
            exact retI (pc := 77) hR dX7_canStand_77 (by (try simp only [← Int32.not_lt, Decidable.not_not] at c4 c34 c55 c59 c65 c69); simp [mB, canP, ← Int32.not_lt, c4, c34, c55, c59, c65, c69]) (rfl)
    · skip
      refine il1 (pc := 37) dX7_canStand_37 ?_
      refine g_bipush (pc := 38) dX7_canStand_38 kb57 ?_
      refine g_icmpgt 47 (pc := 40) dX7_canStand_40 (by decide) (fun c40 => ?_) (fun c40 => ?_)
      · skip
        refine g_iconst (pc := 47) dX7_canStand_47 kc0 ?_
        refine is3 (pc := 48) dX7_canStand_48 rfl ?_
        refine al0 (pc := 49) dX7_canStand_49 ?_
        refine gf_X7_22 (pc := 50) ht.1 dX7_canStand_50 ?_
        refine g_bipush (pc := 53) dX7_canStand_53 kb96 ?_
        refine g_icmpge 76 (pc := 55) dX7_canStand_55 (by decide) (fun c55 => ?_) (fun c55 => ?_)
        · skip
          refine g_iconst (pc := 76) dX7_canStand_76 kc0 ?_
          exact retI (pc := 77) hR dX7_canStand_77 (by (try simp only [← Int32.not_lt, Decidable.not_not] at c4 c34 c40 c55); simp [mB, canP, ← Int32.not_lt, c4, c34, c40, c55]) (rfl)
        · skip
          refine il3 (pc := 58) dX7_canStand_58 ?_
          refine g_ifne 72 (pc := 59) dX7_canStand_59 (by decide) (fun c59 => absurd (by decide) c59) (fun c59 => ?_)
          refine il1 (pc := 62) dX7_canStand_62 ?_
          refine g_bipush (pc := 63) dX7_canStand_63 kb114 ?_
          refine g_icmpne 76 (pc := 65) dX7_canStand_65 (by decide) (fun c65 => ?_) (fun c65 => ?_)
          · skip
            refine g_iconst (pc := 76) dX7_canStand_76 kc0 ?_
            exact retI (pc := 77) hR dX7_canStand_77 (by (try simp only [← Int32.not_lt, Decidable.not_not] at c4 c34 c40 c55 c59 c65); simp [mB, canP, ← Int32.not_lt, c4, c34, c40, c55, c59, c65]) (rfl)
          · skip
            refine il2 (pc := 68) dX7_canStand_68 ?_
            refine g_ifne 76 (pc := 69) dX7_canStand_69 (by decide) (fun c69 => ?_) (fun c69 => ?_)
            · skip
              refine g_iconst (pc := 76) dX7_canStand_76 kc0 ?_
              exact retI (pc := 77) hR dX7_canStand_77 (by (try simp only [← Int32.not_lt, Decidable.not_not] at c4 c34 c40 c55 c59 c65 c69); simp [mB, canP, ← Int32.not_lt, c4, c34, c40, c55, c59, c65, c69]) (rfl)
            · skip
              refine g_iconst (pc := 72) dX7_canStand_72 kc1 ?_
              refine g_goto 77 (pc := 73) dX7_canStand_73 (by decide) ?_
              exact retI (pc := 77) hR dX7_canStand_77 (by (try simp only [← Int32.not_lt, Decidable.not_not] at c4 c34 c40 c55 c59 c65 c69); simp [mB, canP, ← Int32.not_lt, c4, c34, c40, c55, c59, c65, c69]) (rfl)
      · skip
        refine g_iconst (pc := 43) dX7_canStand_43 kc1 ?_
        refine g_goto 48 (pc := 44) dX7_canStand_44 (by decide) ?_
        refine is3 (pc := 48) dX7_canStand_48 rfl ?_
        refine al0 (pc := 49) dX7_canStand_49 ?_
        refine gf_X7_22 (pc := 50) ht.1 dX7_canStand_50 ?_
        refine g_bipush (pc := 53) dX7_canStand_53 kb96 ?_
        refine g_icmpge 76 (pc := 55) dX7_canStand_55 (by decide) (fun c55 => ?_) (fun c55 => ?_)
        · skip
          refine g_iconst (pc := 76) dX7_canStand_76 kc0 ?_
          exact retI (pc := 77) hR dX7_canStand_77 (by (try simp only [← Int32.not_lt, Decidable.not_not] at c4 c34 c40 c55); simp [mB, canP, ← Int32.not_lt, c4, c34, c40, c55]) (rfl)
        · skip
          refine il3 (pc := 58) dX7_canStand_58 ?_
          refine g_ifne 72 (pc := 59) dX7_canStand_59 (by decide) (fun c59 => ?_) (fun c59 => absurd c59 (by decide))
          refine g_iconst (pc := 72) dX7_canStand_72 kc1 ?_
          refine g_goto 77 (pc := 73) dX7_canStand_73 (by decide) ?_
          exact retI (pc := 77) hR dX7_canStand_77 (by (try simp only [← Int32.not_lt, Decidable.not_not] at c4 c34 c40 c55 c59); simp [mB, canP, ← Int32.not_lt, c4, c34, c40, c55, c59]) (rfl)
  · skip
    refine il1 (pc := 7) dX7_canStand_7 ?_
    refine g_bipush (pc := 8) dX7_canStand_8 kb111 ?_
    refine g_icmpeq 25 (pc := 10) dX7_canStand_10 (by decide) (fun c10 => ?_) (fun c10 => ?_)
    · skip
      refine g_iconst (pc := 25) dX7_canStand_25 kc1 ?_
      refine g_goto 30 (pc := 26) dX7_canStand_26 (by decide) ?_
      exact retI (pc := 30) hR dX7_canStand_30 (by (try simp only [← Int32.not_lt, Decidable.not_not] at c4 c10); simp [mB, canP, ← Int32.not_lt, c4, c10]) (rfl)
    · skip
      refine il1 (pc := 13) dX7_canStand_13 ?_
      refine g_bipush (pc := 14) dX7_canStand_14 kb110 ?_
      refine g_icmpeq 25 (pc := 16) dX7_canStand_16 (by decide) (fun c16 => ?_) (fun c16 => ?_)
      · skip
        refine g_iconst (pc := 25) dX7_canStand_25 kc1 ?_
        refine g_goto 30 (pc := 26) dX7_canStand_26 (by decide) ?_
        exact retI (pc := 30) hR dX7_canStand_30 (by (try simp only [← Int32.not_lt, Decidable.not_not] at c4 c10 c16); simp [mB, canP, ← Int32.not_lt, c4, c10, c16]) (rfl)
      · skip
        refine il1 (pc := 19) dX7_canStand_19 ?_
        refine g_bipush (pc := 20) dX7_canStand_20 kb98 ?_
        refine g_icmpne 29 (pc := 22) dX7_canStand_22 (by decide) (fun c22 => ?_) (fun c22 => ?_)
        · skip
          refine g_iconst (pc := 29) dX7_canStand_29 kc0 ?_
          exact retI (pc := 30) hR dX7_canStand_30 (by (try simp only [← Int32.not_lt, Decidable.not_not] at c4 c10 c16 c22); simp [mB, canP, ← Int32.not_lt, c4, c10, c16, c22]) (rfl)
        · skip
          refine g_iconst (pc := 25) dX7_canStand_25 kc1 ?_
          refine g_goto 30 (pc := 26) dX7_canStand_26 (by decide) ?_
          exact retI (pc := 30) hR dX7_canStand_30 (by (try simp only [← Int32.not_lt, Decidable.not_not] at c4 c10 c16 c22); simp [mB, canP, ← Int32.not_lt, c4, c10, c16, c22]) (rfl)
theorem c_X7_tell {l : Launch} {G : mG} {Z : mZ} {d : mD} {t le dt td : Nat} {fg rn : Int32} (ht : tap Z t le dt) (htd : gI d 227 t = nI td) (hlt : td < 96) : CtV l G yX7_tell cX7_tell 5 0 0 [.ref t, .int fg, .int rn] Z d (teD d t dt td fg rn) := by
  have hgt := endN_gt td rn
  have hle := endN_le rn hlt
  have hend := endN_nI rn hlt
  rw [← htd] at hend
  refine enterV RX7 2 [some (.ref t), some (.int fg), some (.int rn), none, none] (by decide) rfl rfl rfl (fun X hR => ?_)
  refine il2 (pc := 0) dX7_tell_0 ?_
  refine g_ifeq 19 (pc := 1) dX7_tell_1 (by decide) (fun c1 => ?_) (fun c1 => ?_)
  · skip
    rw [if_pos c1] at hend
    refine al0 (pc := 19) dX7_tell_19 ?_
    refine gf_X7_22 (pc := 20) ht.1 dX7_tell_20 ?_
    refine g_iconst (pc := 23) dX7_tell_23 kc1 ?_
    refine g_iadd (pc := 24) dX7_tell_24 ?_
    rw [hend]
    refine is3 (pc := 25) dX7_tell_25 rfl ?_
    refine al0 (pc := 26) dX7_tell_26 ?_
    refine gf_X7_22 (pc := 27) ht.1 dX7_tell_27 ?_
    rw [htd]
    refine is4 (pc := 30) dX7_tell_30 rfl ?_
    have L32 : ∀ (n i : Nat) (f : Nat → Int32), i + n = (endN td rn - td) → (filI fg n (td + i) f = filI fg (endN td rn - td) td (gA d dt)) → mGo l G (mRm 0 0) X RX7 cX7_tell 5 0 0 Z 32 [some (.ref t), some (.int fg), some (.int rn), some (.int (nI (endN td rn))), some (.int (nI (td + i)))] [] (tA d dt f) := by
      intro n; induction n with
      | zero =>
        intro i f hin32 hF
        refine il4 (pc := 32) dX7_tell_32 ?_
        refine il3 (pc := 34) dX7_tell_34 ?_
        refine g_icmpge 59 (pc := 35) dX7_tell_35 (by decide) (fun c35 => ?_) (fun c35 => absurd (nI_le (by omega) (by omega)) c35)
        refine al0 (pc := 59) dX7_tell_59 ?_
        refine il3 (pc := 60) dX7_tell_60 ?_
        refine pf_X7_22 (pc := 61) ht.1 dX7_tell_61 ?_
        exact retV (pc := 64) hR dX7_tell_64 (by rw [teD, ← hF]; rfl)
      | succ n ih32 =>
        intro i f hin32 hF
        refine il4 (pc := 32) dX7_tell_32 ?_
        refine il3 (pc := 34) dX7_tell_34 ?_
        refine g_icmpge 59 (pc := 35) dX7_tell_35 (by decide) (fun c35 => absurd c35 (nI_ge (by omega) (by omega))) (fun c35 => ?_)
        refine il4 (pc := 38) dX7_tell_38 ?_
        refine g_bipush (pc := 40) dX7_tell_40 kb96 ?_
        refine g_icmpge 59 (pc := 42) dX7_tell_42 (by decide) (fun c42 => absurd c42 (nI_ge (b := 96) (by omega) (by omega))) (fun c42 => ?_)
        refine al0 (pc := 45) dX7_tell_45 ?_
        refine gf_X7_19 (pc := 46) ht.1 ht.2.2.1 dX7_tell_46 ?_
        refine il4 (pc := 49) dX7_tell_49 ?_
        refine il1 (pc := 51) dX7_tell_51 ?_
        refine g_iast (pc := 52) (td + i) ht.2.2.2.2 (by omega) (rfl) (by decide) dX7_tell_52 ?_
        refine ic4 (pc := 53) dX7_tell_53 kc1 rfl ?_
        refine g_goto 32 (pc := 56) dX7_tell_56 (by decide) ?_
        rw [nI_1, gA_tA, if_pos rfl, tA_tA]
        exact ih32 (i + 1) _ (by omega) hF
    rw [← tA_self d dt]
    exact L32 (endN td rn - td) 0 _ (by omega) rfl
  · skip
    rw [if_neg c1] at hend
    refine al0 (pc := 4) dX7_tell_4 ?_
    refine gf_X7_22 (pc := 5) ht.1 dX7_tell_5 ?_
    refine g_bipush (pc := 8) dX7_tell_8 kb12 ?_
    refine g_idiv (pc := 10) dX7_tell_10 (by decide) ?_
    refine g_iconst (pc := 11) dX7_tell_11 kc1 ?_
    refine g_iadd (pc := 12) dX7_tell_12 ?_
    refine g_bipush (pc := 13) dX7_tell_13 kb12 ?_
    refine g_imul (pc := 15) dX7_tell_15 ?_
    refine g_goto 25 (pc := 16) dX7_tell_16 (by decide) ?_
    rw [hend]
    refine is3 (pc := 25) dX7_tell_25 rfl ?_
    refine al0 (pc := 26) dX7_tell_26 ?_
    refine gf_X7_22 (pc := 27) ht.1 dX7_tell_27 ?_
    rw [htd]
    refine is4 (pc := 30) dX7_tell_30 rfl ?_
    have L32 : ∀ (n i : Nat) (f : Nat → Int32), i + n = (endN td rn - td) → (filI fg n (td + i) f = filI fg (endN td rn - td) td (gA d dt)) → mGo l G (mRm 0 0) X RX7 cX7_tell 5 0 0 Z 32 [some (.ref t), some (.int fg), some (.int rn), some (.int (nI (endN td rn))), some (.int (nI (td + i)))] [] (tA d dt f) := by
      intro n; induction n with
      | zero =>
        intro i f hin32 hF
        refine il4 (pc := 32) dX7_tell_32 ?_
        refine il3 (pc := 34) dX7_tell_34 ?_
        refine g_icmpge 59 (pc := 35) dX7_tell_35 (by decide) (fun c35 => ?_) (fun c35 => absurd (nI_le (by omega) (by omega)) c35)
        refine al0 (pc := 59) dX7_tell_59 ?_
        refine il3 (pc := 60) dX7_tell_60 ?_
        refine pf_X7_22 (pc := 61) ht.1 dX7_tell_61 ?_
        exact retV (pc := 64) hR dX7_tell_64 (by rw [teD, ← hF]; rfl)
      | succ n ih32 =>
        intro i f hin32 hF
        refine il4 (pc := 32) dX7_tell_32 ?_
        refine il3 (pc := 34) dX7_tell_34 ?_
        refine g_icmpge 59 (pc := 35) dX7_tell_35 (by decide) (fun c35 => absurd c35 (nI_ge (by omega) (by omega))) (fun c35 => ?_)
        refine il4 (pc := 38) dX7_tell_38 ?_
        refine g_bipush (pc := 40) dX7_tell_40 kb96 ?_
        refine g_icmpge 59 (pc := 42) dX7_tell_42 (by decide) (fun c42 => absurd c42 (nI_ge (b := 96) (by omega) (by omega))) (fun c42 => ?_)
        refine al0 (pc := 45) dX7_tell_45 ?_
        refine gf_X7_19 (pc := 46) ht.1 ht.2.2.1 dX7_tell_46 ?_
        refine il4 (pc := 49) dX7_tell_49 ?_
        refine il1 (pc := 51) dX7_tell_51 ?_
        refine g_iast (pc := 52) (td + i) ht.2.2.2.2 (by omega) (rfl) (by decide) dX7_tell_52 ?_
        refine ic4 (pc := 53) dX7_tell_53 kc1 rfl ?_
        refine g_goto 32 (pc := 56) dX7_tell_56 (by decide) ?_
        rw [nI_1, gA_tA, if_pos rfl, tA_tA]
        exact ih32 (i + 1) _ (by omega) hF
    rw [← tA_self d dt]
    exact L32 (endN td rn - td) 0 _ (by omega) rfl
theorem c_X7_read {l : Launch} {G : mG} {Z : mZ} {d : mD} {t le dt n9 : Nat} (ht : tap Z t le dt) (hsz : gI d 225 t = nI n9) (hn2 : n9 ≤ 120) (hne : le ≠ dt) : CtI l G yX7_read cX7_read 4 .int 1 24 [.ref t] Z d (rdL (gA d le) n9 n9 0 (gA d dt) 0 0 0).1 (tpD d t dt (rdL (gA d le) n9 n9 0 (gA d dt) 0 0 0).2.1 (rdL (gA d le) n9 n9 0 (gA d dt) 0 0 0).2.2.1 (nI (rdL (gA d le) n9 n9 0 (gA d dt) 0 0 0).2.2.2)) := by
  refine enterI RX7 3 [some (.ref t), none, none, none] (by decide) rfl (rfl) rfl rfl (fun X hR => ?_)
  refine al0 (pc := 0) dX7_read_0 ?_
  refine g_iconst (pc := 1) dX7_read_1 kc0 ?_
  refine pf_X7_25 (pc := 2) ht.1 dX7_read_2 ?_
  refine al0 (pc := 5) dX7_read_5 ?_
  refine g_iconst (pc := 6) dX7_read_6 kc0 ?_
  refine pf_X7_22 (pc := 7) ht.1 dX7_read_7 ?_
  refine g_iconst (pc := 10) dX7_read_10 kc0 ?_
  refine is1 (pc := 11) dX7_read_11 rfl ?_
  refine g_iconst (pc := 12) dX7_read_12 kc0 ?_
  refine is2 (pc := 13) dX7_read_13 rfl ?_
  have L14 : ∀ (n i : Nat) (f : Nat → Int32) (tg : Int32) (td : Nat) (rn : Int32), i + n = n9 → (td ≤ 96) → (rdL (gA d le) n9 n i f tg td rn = rdL (gA d le) n9 n9 0 (gA d dt) 0 0 0) → mGo l G (mRm 1 24) X RX7 cX7_read 4 0 0 Z 14 [some (.ref t), some (.int rn), some (.int (nI i)), none] [] (tpD d t dt f tg (nI td)) := by
    intro n; induction n with
    | zero =>
      intro i f tg td rn hin14 htd hF
      refine il2 (pc := 14) dX7_read_14 ?_
      refine al0 (pc := 15) dX7_read_15 ?_
      refine gf_X7_15 (pc := 16) ht.1 dX7_read_16 ?_
      refine g_icmpge 95 (pc := 19) dX7_read_19 (by decide) (fun c19 => ?_) (fun c19 => absurd (by rw [gI_tp225, hsz]; exact nI_le (by omega) (by omega)) c19)
      refine al0 (pc := 95) dX7_read_95 ?_
      refine gf_X7_25 (pc := 96) ht.1 dX7_read_96 ?_
      rw [gI_tp228]
      refine g_ifeq 106 (pc := 99) dX7_read_99 (by decide) (fun c99 => ?_) (fun c99 => ?_)
      · skip
        refine g_ldc (pc := 106) dX7_read_106 wk_X7_32 ?_
        refine al0 (pc := 108) dX7_read_108 ?_
        refine gf_X7_15 (pc := 109) ht.1 dX7_read_109 ?_
        refine g_isub (pc := 112) dX7_read_112 ?_
        exact retI (pc := 113) hR dX7_read_113 (by rw [gI_tp225, hsz, ← hF, rdL, if_pos (Or.inl c99)]) (by rw [← hF, rdL, if_pos (Or.inl c99)])
      · skip
        refine il1 (pc := 102) dX7_read_102 ?_
        refine g_ifeq 114 (pc := 103) dX7_read_103 (by decide) (fun c103 => ?_) (fun c103 => ?_)
        · skip
          refine al0 (pc := 114) dX7_read_114 ?_
          refine gf_X7_22 (pc := 115) ht.1 dX7_read_115 ?_
          rw [gI_tp227]
          refine is2 (pc := 118) dX7_read_118 rfl ?_
          have L119 : ∀ (n2 i2 : Nat) (g : Nat → Int32), i2 + n2 = (96 - td) → (filI 0 n2 (td + i2) g = filI 0 (96 - td) td f) → mGo l G (mRm 1 24) X RX7 cX7_read 4 0 0 Z 119 [some (.ref t), some (.int rn), some (.int (nI (td + i2))), none] [] (tpD d t dt g tg (nI td)) := by
            intro n2; induction n2 with
            | zero =>
              intro i2 g hin119 hG
              refine il2 (pc := 119) dX7_read_119 ?_
              refine g_bipush (pc := 120) dX7_read_120 kb96 ?_
              refine g_icmpge 138 (pc := 122) dX7_read_122 (by decide) (fun c122 => ?_) (fun c122 => absurd (nI_le (a := 96) (by omega) (by omega)) c122)
              refine al0 (pc := 138) dX7_read_138 ?_
              refine gf_X7_22 (pc := 139) ht.1 dX7_read_139 ?_
              exact retI (pc := 142) hR dX7_read_142 (by rw [gI_tp227, ← hF, rdL, if_neg (fun h => h.elim c99 (fun h2 => h2 c103))]) (by rw [← hF, rdL, if_neg (fun h => h.elim c99 (fun h2 => h2 c103)), show g = _ from hG])
            | succ n2 ih119 =>
              intro i2 g hin119 hG
              refine il2 (pc := 119) dX7_read_119 ?_
              refine g_bipush (pc := 120) dX7_read_120 kb96 ?_
              refine g_icmpge 138 (pc := 122) dX7_read_122 (by decide) (fun c122 => absurd c122 (nI_ge (b := 96) (by omega) (by omega))) (fun c122 => ?_)
              refine al0 (pc := 125) dX7_read_125 ?_
              refine gf_X7_19 (pc := 126) ht.1 ht.2.2.1 dX7_read_126 ?_
              refine il2 (pc := 129) dX7_read_129 ?_
              refine g_iconst (pc := 130) dX7_read_130 kc0 ?_
              refine g_iast (pc := 131) (td + i2) ht.2.2.2.2 (by omega) (rfl) (by decide) dX7_read_131 ?_
              refine ic2 (pc := 132) dX7_read_132 kc1 rfl ?_
              refine g_goto 119 (pc := 135) dX7_read_135 (by decide) ?_
              rw [nI_1, gA_tp, tp_fill]
              exact ih119 (i2 + 1) _ (by omega) hG
          exact L119 (96 - td) 0 f (by omega) rfl
        · skip
          refine g_ldc (pc := 106) dX7_read_106 wk_X7_32 ?_
          refine al0 (pc := 108) dX7_read_108 ?_
          refine gf_X7_15 (pc := 109) ht.1 dX7_read_109 ?_
          refine g_isub (pc := 112) dX7_read_112 ?_
          exact retI (pc := 113) hR dX7_read_113 (by rw [gI_tp225, hsz, ← hF, rdL, if_pos (Or.inr c103)]) (by rw [← hF, rdL, if_pos (Or.inr c103)])
    | succ n ih14 =>
      intro i f tg td rn hin14 htd hF
      refine il2 (pc := 14) dX7_read_14 ?_
      refine al0 (pc := 15) dX7_read_15 ?_
      refine gf_X7_15 (pc := 16) ht.1 dX7_read_16 ?_
      refine g_icmpge 95 (pc := 19) dX7_read_19 (by decide) (fun c19 => absurd c19 (by rw [gI_tp225, hsz]; exact nI_ge (by omega) (by omega))) (fun c19 => ?_)
      refine al0 (pc := 22) dX7_read_22 ?_
      refine gf_X7_9 (pc := 23) ht.1 ht.2.1 dX7_read_23 ?_
      refine il2 (pc := 26) dX7_read_26 ?_
      refine g_iald (pc := 27) i ht.2.2.2.1 (by omega) (rfl) (by decide) dX7_read_27 ?_
      rw [gA_tpo _ _ _ _ _ _ _ hne]
      refine is3 (pc := 28) dX7_read_28 rfl ?_
      refine il3 (pc := 29) dX7_read_29 ?_
      refine g_bipush (pc := 30) dX7_read_30 kb32 ?_
      refine g_icmpne 38 (pc := 32) dX7_read_32 (by decide) (fun c32 => ?_) (fun c32 => ?_)
      · skip
        refine al0 (pc := 38) dX7_read_38 ?_
        refine il3 (pc := 39) dX7_read_39 ?_
        refine il1 (pc := 40) dX7_read_40 ?_
        refine cl_X7_28 (pc := 41) (c_X7_canStand ht) ht.1 (by decide) ⟨Nat.zero_le _, Nat.zero_le _⟩ (Nat.le_of_ble_eq_true rfl) dX7_read_41 ?_
        rw [gI_tp228, gI_tp227]
        refine g_ifne 52 (pc := 44) dX7_read_44 (by decide) (fun c44 => ?_) (fun c44 => ?_)
        · skip
          rw [mB_ne0] at c44
          refine al0 (pc := 52) dX7_read_52 ?_
          refine gf_X7_25 (pc := 53) ht.1 dX7_read_53 ?_
          rw [gI_tp228]
          refine g_ifne 67 (pc := 56) dX7_read_56 (by decide) (fun c56 => ?_) (fun c56 => ?_)
          · skip
            refine il3 (pc := 67) dX7_read_67 ?_
            refine g_bipush (pc := 68) dX7_read_68 kb114 ?_
            refine g_icmpne 78 (pc := 70) dX7_read_70 (by decide) (fun c70 => ?_) (fun c70 => ?_)
            · skip
              refine al0 (pc := 78) dX7_read_78 ?_
              refine il3 (pc := 79) dX7_read_79 ?_
              refine g_bipush (pc := 80) dX7_read_80 kb48 ?_
              refine g_isub (pc := 82) dX7_read_82 ?_
              refine il1 (pc := 83) dX7_read_83 ?_
              have hlt : td < 96 := by
                rcases c44 with ⟨h, _⟩ | ⟨_, h, _⟩
                · exact absurd h c56
                · exact (nI_ltI (b := 96) (by omega) (by decide)).mp h
              refine cl_X7_33 (pc := 84) (c_X7_tell ht (gI_tp227 _ _ _ _ _ _) hlt) ht.1 (by decide) ⟨Nat.zero_le _, Nat.zero_le _⟩ (Nat.le_of_ble_eq_true rfl) dX7_read_84 ?_
              rw [tp_tell]
              refine g_iconst (pc := 87) dX7_read_87 kc0 ?_
              refine is1 (pc := 88) dX7_read_88 rfl ?_
              refine ic2 (pc := 89) dX7_read_89 kc1 rfl ?_
              refine g_goto 14 (pc := 92) dX7_read_92 (by decide) ?_
              rw [nI_1]
              refine dr3 ?_
              exact ih14 (i + 1) _ _ _ _ (by omega) (endN_le rn hlt) (by rw [← hF, rdL, if_neg c32, if_neg (fun h => h c44), if_neg c56, if_neg c70])
            · skip
              refine g_iconst (pc := 73) dX7_read_73 kc1 ?_
              refine is1 (pc := 74) dX7_read_74 rfl ?_
              refine g_goto 89 (pc := 75) dX7_read_75 (by decide) ?_
              refine ic2 (pc := 89) dX7_read_89 kc1 rfl ?_
              refine g_goto 14 (pc := 92) dX7_read_92 (by decide) ?_
              rw [nI_1]
              refine dr3 ?_
              exact ih14 (i + 1) _ _ _ _ (by omega) htd (by rw [← hF, rdL, if_neg c32, if_neg (fun h => h c44), if_neg c56, if_pos c70])
          · skip
            refine al0 (pc := 59) dX7_read_59 ?_
            refine il3 (pc := 60) dX7_read_60 ?_
            refine pf_X7_25 (pc := 61) ht.1 dX7_read_61 ?_
            rw [tp_228]
            refine g_goto 89 (pc := 64) dX7_read_64 (by decide) ?_
            refine ic2 (pc := 89) dX7_read_89 kc1 rfl ?_
            refine g_goto 14 (pc := 92) dX7_read_92 (by decide) ?_
            rw [nI_1]
            refine dr3 ?_
            exact ih14 (i + 1) _ _ _ _ (by omega) htd (by rw [← hF, rdL, if_neg c32, if_neg (fun h => h c44), if_pos c56])
        · skip
          rw [mB_eq0] at c44
          refine g_ldc (pc := 47) dX7_read_47 wk_X7_32 ?_
          refine il2 (pc := 49) dX7_read_49 ?_
          refine g_isub (pc := 50) dX7_read_50 ?_
          exact retI (pc := 51) hR dX7_read_51 (by rw [← hF, rdL, if_neg c32, if_pos c44]) (by rw [← hF, rdL, if_neg c32, if_pos c44])
      · skip
        refine g_goto 89 (pc := 35) dX7_read_35 (by decide) ?_
        refine ic2 (pc := 89) dX7_read_89 kc1 rfl ?_
        refine g_goto 14 (pc := 92) dX7_read_92 (by decide) ?_
        rw [nI_1]
        refine dr3 ?_
        exact ih14 (i + 1) _ _ _ _ (by omega) htd (by rw [← hF, rdL, if_pos c32])
  have q9 := L14 n9 0 (gA d dt) 0 0 0 (by omega) (by omega) rfl
  rw [show tpD d t dt (gA d dt) 0 (nI 0) = sI (sI d 228 t 0) 227 t 0 from tA_self (sI (sI d 228 t 0) 227 t 0) dt] at q9
  refine dr3 ?_
  exact q9
