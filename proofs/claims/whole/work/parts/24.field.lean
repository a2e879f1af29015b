def btwI (fo : Nat → Int32) (c r h v : Int32) : Int32 := if h = 0 ∧ v = 0 then pix fo c r else if h = 0 ∨ v = 0 then (pix fo c r + pix fo (c + h) (r + v)) / 2 else (pix fo c r + pix fo (c + h) r + pix fo c (r + v) + pix fo (c + h) (r + v)) / 4
def hcI (fo fn : Nat → Int32) (b m h v i : Int32) : Int32 := mAbs (pix fn (colI b + mRem i 4) (rowI b + i / 4) - btwI fo (colI b + mRem i 4 + xOfI m) (rowI b + i / 4 + yOfI m) h v)
/-- half dots around a move: the number that tells them, what they cost -/
def haL (fo fn : Nat → Int32) (b m : Int32) : Nat → Nat → Int32 → Int32 → Int32 × Int32
  | 0, _, fd, co => (fd, co)
  | n + 1, i, fd, co => if accL (hcI fo fn b m (mRem (nI i) 3 - 1) (nI i / 3 - 1)) 16 0 0 < co then haL fo fn b m n (i + 1) (nI i) (accL (hcI fo fn b m (mRem (nI i) 3 - 1) (nI i / 3 - 1)) 16 0 0) else haL fo fn b m n (i + 1) fd co
def haD (d : mD) (h : Nat) (fd co : Int32) : mD := sI (sI d 32 h fd) 33 h co
theorem ha_33 (d : mD) (h : Nat) (fd co v : Int32) : sI (haD d h fd co) 33 h v = haD d h fd v := sI_sI _ _ _ _ _
theorem ha_32 (d : mD) (h : Nat) (fd co v : Int32) : sI (haD d h fd co) 32 h v = haD d h v co := by
  refine mD_ext (fun f a => ?_) (fun _ => rfl) (fun _ => rfl) (fun _ => rfl)
  simp only [haD, gI_sI]
  by_cases h0 : a = h <;> by_cases h1 : f = 32 <;> by_cases h2 : f = 33 <;> simp_all
theorem gha_33 (d : mD) (h : Nat) (fd co : Int32) : gI (haD d h fd co) 33 h = co := gI_eq _ _ _ _
theorem gha_32 (d : mD) (h : Nat) (fd co : Int32) : gI (haD d h fd co) 32 h = fd := by rw [haD, gI_ne (by decide), gI_eq]
theorem gA_ha (d : mD) (h : Nat) (fd co : Int32) (b : Nat) : gA (haD d h fd co) b = gA d b := rfl
theorem ha_0 (d : mD) (h : Nat) (v : Int32) : sI d 33 h v = haD d h (gI d 32 h) v := by rw [haD, sI_self]
def fld (Z : mZ) (f mo ne : Nat) : Prop := ob Z 0 f ∧ rf Z 0 f = some mo ∧ rf Z 1 f = some ne ∧ ar Z 10 mo 6 ∧ ar Z 10 ne 3
def ptI (v x : Int32) : Int32 := if x = 0 then yOfI v else xOfI v
def midI (f : Nat → Int32) (n : Int32) : Int32 := if n = 0 then 0 else if n = 1 then f 0 else if n = 2 then mMin (f 0) (f 1) else mMax (mMin (f 0) (f 1)) (mMin (mMax (f 0) (f 1)) (f 2))
def foF (mv : Nat → Int32) (x : Int32) (f : Nat → Int32) : Nat → (Nat → Int32)
  | 1 => upd f 0 (ptI (mv 0) x)
  | 2 => upd f 0 (ptI (mv 1) x)
  | 3 => upd (upd f 0 (ptI (mv 0) x)) 1 (ptI (mv 1) x)
  | 4 => upd (upd (upd f 0 (ptI (mv 3) x)) 1 (ptI (mv 1) x)) 2 (ptI (mv 2) x)
  | 5 => upd (upd f 0 (ptI (mv 4) x)) 1 (ptI (mv 2) x)
  | _ => f
def foI (mv : Nat → Int32) (x : Int32) : Nat → Int32
  | 1 => ptI (mv 0) x
  | 2 => ptI (mv 1) x
  | 3 => mMin (ptI (mv 0) x) (ptI (mv 1) x)
  | 4 => mMax (mMin (ptI (mv 3) x) (ptI (mv 1) x)) (mMin (mMax (ptI (mv 3) x) (ptI (mv 1) x)) (ptI (mv 2) x))
  | 5 => mMin (ptI (mv 4) x) (ptI (mv 2) x)
  | _ => 0
def bitL (w : Int32) : Nat → Nat → Int32 → Int32
  | 0, _, a => a
  | n + 1, i, a => bitL w n (i + 1) (if w >>> (nI i &&& 31) ≤ 0 then a else a + 2)
def bitI (e : Int32) : Int32 := bitL (mAbs e) 31 0 1
def lenL (mv : Nat → Int32) : Nat → Nat → Int32 → Int32
  | 0, _, a => a
  | n + 1, b, a => lenL mv n (b + 1) (a + bitI (xOfI (mv b) - foI mv 1 b) + bitI (yOfI (mv b) - foI mv 0 b))
def neL (mv : Nat → Int32) : Nat → Nat → (Nat → Int32) → (Nat → Int32)
  | 0, _, f => f
  | n + 1, b, f => neL mv n (b + 1) (foF mv 0 (foF mv 1 f b) b)
def bN (i : Nat) : Nat := i / 12 / 4 * 3 + i % 12 / 4
theorem bN_lt {i : Nat} (h : i < 96) : bN i < 6 := by unfold bN; omega
theorem rem_nI {a : Nat} (m : Nat) (ha : a < 2 ^ 31) (h0 : 0 < m) (hm : m < 2 ^ 31) : mRem (nI a) (nI m) = nI (a % m) := pk_rem ha h0 hm
theorem bN_ix {i : Nat} (h : i < 96) : blkI (mRem (nI i) 12) (nI i / 12) = nI (bN i) := by
  have e1 : mRem (nI i) 12 = nI (i % 12) := rem_nI 12 (by omega) (by decide) (by decide)
  have e2 : nI i / 12 = nI (i / 12) := pk_div (d := 12) (by omega) (by decide) (by decide)
  rw [e1, e2, blkI, show (4 : Int32) = nI 4 from rfl, show (3 : Int32) = nI 3 from rfl, pk_div (by omega) (by decide) (by decide), pk_div (by omega) (by decide) (by decide), pk_mul, nI_add]
  rfl
def lkP (mv fo fn : Nat → Int32) (i : Nat) : Bool := decide (¬ pix fo (mRem (nI i) 12 + xOfI (mv (bN i))) (nI i / 12 + yOfI (mv (bN i))) = pix fn (mRem (nI i) 12) (nI i / 12))
def fiL (k : Int32) (fo fn : Nat → Int32) : Nat → Nat → (Nat → Int32) → Int32 × Int32 × Int32 × Int32 → (Nat → Int32) × (Int32 × Int32 × Int32 × Int32)
  | 0, _, g, q => (g, q)
  | n + 1, b, g, _ => fiL k fo fn n (b + 1) (upd g b (beT k fo fn (nI b)).1) (beT k fo fn (nI b))
def fiD (d : mD) (sr mo : Nat) (q : (Nat → Int32) × (Int32 × Int32 × Int32 × Int32)) : mD := tA (seT d sr q.2) mo q.1
theorem c_X1_between {l : Launch} {G : mG} {Z : mZ} {d : mD} {p a : Nat} {c r h v : Int32} (hp : pic Z p a) : CtI l G yX1_between cX1_between 6 .int 2 45 [.ref p, .int c, .int r, .int h, .int v] Z d (btwI (gA d a) c r h v) d := by
  refine enterI RX1 1 [some (.ref p), some (.int c), some (.int r), some (.int h), some (.int v), none] (by decide) rfl (rfl) rfl rfl (fun X hR => ?_)
  refine al0 (pc := 0) dX1_between_0 ?_
  refine il1 (pc := 1) dX1_between_1 ?_
  refine il2 (pc := 2) dX1_between_2 ?_
  refine cl_X1_49 (pc := 3) (c_X2_at hp) hp.1 (by decide) ⟨Nat.zero_le _, Nat.zero_le _⟩ (Nat.le_of_ble_eq_true rfl) dX1_between_3 ?_
  refine is5 (pc := 6) dX1_between_6 rfl ?_
  refine il3 (pc := 8) dX1_between_8 ?_
  refine g_ifne 20 (pc := 9) dX1_between_9 (by decide) (fun c9 => ?_) (fun c9 => ?_)
  · skip
    refine il3 (pc := 20) dX1_between_20 ?_
    refine g_ifeq 29 (pc := 21) dX1_between_21 (by decide) (fun c21 => absurd c21 c9) (fun c21 => ?_)
    refine il4 (pc := 24) dX1_between_24 ?_
    refine g_ifne 46 (pc := 26) dX1_between_26 (by decide) (fun c26 => ?_) (fun c26 => ?_)
    · skip
      refine il5 (pc := 46) dX1_between_46 ?_
      refine al0 (pc := 48) dX1_between_48 ?_
      refine il1 (pc := 49) dX1_between_49 ?_
      refine il3 (pc := 50) dX1_between_50 ?_
      refine g_iadd (pc := 51) dX1_between_51 ?_
      refine il2 (pc := 52) dX1_between_52 ?_
      refine cl_X1_49 (pc := 53) (c_X2_at hp) hp.1 (by decide) ⟨Nat.zero_le _, Nat.zero_le _⟩ (Nat.le_of_ble_eq_true rfl) dX1_between_53 ?_
      refine g_iadd (pc := 56) dX1_between_56 ?_
      refine al0 (pc := 57) dX1_between_57 ?_
      refine il1 (pc := 58) dX1_between_58 ?_
      refine il2 (pc := 59) dX1_between_59 ?_
      refine il4 (pc := 60) dX1_between_60 ?_
      refine g_iadd (pc := 62) dX1_between_62 ?_
      refine cl_X1_49 (pc := 63) (c_X2_at hp) hp.1 (by decide) ⟨Nat.zero_le _, Nat.zero_le _⟩ (Nat.le_of_ble_eq_true rfl) dX1_between_63 ?_
      refine g_iadd (pc := 66) dX1_between_66 ?_
      refine al0 (pc := 67) dX1_between_67 ?_
      refine il1 (pc := 68) dX1_between_68 ?_
      refine il3 (pc := 69) dX1_between_69 ?_
      refine g_iadd (pc := 70) dX1_between_70 ?_
      refine il2 (pc := 71) dX1_between_71 ?_
      refine il4 (pc := 72) dX1_between_72 ?_
      refine g_iadd (pc := 74) dX1_between_74 ?_
      refine cl_X1_49 (pc := 75) (c_X2_at hp) hp.1 (by decide) ⟨Nat.zero_le _, Nat.zero_le _⟩ (Nat.le_of_ble_eq_true rfl) dX1_between_75 ?_
      refine g_iadd (pc := 78) dX1_between_78 ?_
      refine g_iconst (pc := 79) dX1_between_79 kc4 ?_
      refine g_idiv (pc := 80) dX1_between_80 (by decide) ?_
      exact retI (pc := 81) hR dX1_between_81 (by simp [btwI, c9, c21, c26]) (rfl)
    · skip
      refine il5 (pc := 29) dX1_between_29 ?_
      refine al0 (pc := 31) dX1_between_31 ?_
      refine il1 (pc := 32) dX1_between_32 ?_
      refine il3 (pc := 33) dX1_between_33 ?_
      refine g_iadd (pc := 34) dX1_between_34 ?_
      refine il2 (pc := 35) dX1_between_35 ?_
      refine il4 (pc := 36) dX1_between_36 ?_
      refine g_iadd (pc := 38) dX1_between_38 ?_
      refine cl_X1_49 (pc := 39) (c_X2_at hp) hp.1 (by decide) ⟨Nat.zero_le _, Nat.zero_le _⟩ (Nat.le_of_ble_eq_true rfl) dX1_between_39 ?_
      refine g_iadd (pc := 42) dX1_between_42 ?_
      refine g_iconst (pc := 43) dX1_between_43 kc2 ?_
      refine g_idiv (pc := 44) dX1_between_44 (by decide) ?_
      exact retI (pc := 45) hR dX1_between_45 (by simp [btwI, c9, c21, c26]) (rfl)
  · skip
    refine il4 (pc := 12) dX1_between_12 ?_
    refine g_ifne 20 (pc := 14) dX1_between_14 (by decide) (fun c14 => ?_) (fun c14 => ?_)
    · skip
      refine il3 (pc := 20) dX1_between_20 ?_
      refine g_ifeq 29 (pc := 21) dX1_between_21 (by decide) (fun c21 => ?_) (fun c21 => absurd c9 c21)
      refine il5 (pc := 29) dX1_between_29 ?_
      refine al0 (pc := 31) dX1_between_31 ?_
      refine il1 (pc := 32) dX1_between_32 ?_
      refine il3 (pc := 33) dX1_between_33 ?_
      refine g_iadd (pc := 34) dX1_between_34 ?_
      refine il2 (pc := 35) dX1_between_35 ?_
      refine il4 (pc := 36) dX1_between_36 ?_
      refine g_iadd (pc := 38) dX1_between_38 ?_
      refine cl_X1_49 (pc := 39) (c_X2_at hp) hp.1 (by decide) ⟨Nat.zero_le _, Nat.zero_le _⟩ (Nat.le_of_ble_eq_true rfl) dX1_between_39 ?_
      refine g_iadd (pc := 42) dX1_between_42 ?_
      refine g_iconst (pc := 43) dX1_between_43 kc2 ?_
      refine g_idiv (pc := 44) dX1_between_44 (by decide) ?_
      exact retI (pc := 45) hR dX1_between_45 (by simp [btwI, c9, c14, c21]) (rfl)
    · skip
      refine il5 (pc := 17) dX1_between_17 ?_
      exact retI (pc := 19) hR dX1_between_19 (by simp [btwI, c9, c14]) (rfl)
theorem c_X1_costBy {l : Launch} {G : mG} {Z : mZ} {d : mD} {s p q a b : Nat} {bk m h v : Int32} (hs : scn Z s p q a b) : CtI l G yX1_costBy cX1_costBy 10 .int 3 70 [.ref s, .int bk, .int m, .int h, .int v] Z d (accL (hcI (gA d a) (gA d b) bk m h v) 16 0 0) d := by
  refine enterI RX1 5 [some (.ref s), some (.int bk), some (.int m), some (.int h), some (.int v), none, none, none, none, none] (by decide) rfl (rfl) rfl rfl (fun X hR => ?_)
  refine g_iconst (pc := 0) dX1_costBy_0 kc0 ?_
  refine is5 (pc := 1) dX1_costBy_1 rfl ?_
  refine g_iconst (pc := 3) dX1_costBy_3 kc0 ?_
  refine is6 (pc := 4) dX1_costBy_4 rfl ?_
  have L6 : ∀ (n i : Nat) (acc : Int32), i + n = 16 → (accL (hcI (gA d a) (gA d b) bk m h v) n i acc = accL (hcI (gA d a) (gA d b) bk m h v) 16 0 0) → mGo l G (mRm 3 70) X RX1 cX1_costBy 10 0 0 Z 6 [some (.ref s), some (.int bk), some (.int m), some (.int h), some (.int v), some (.int acc), some (.int (nI i)), none, none, none] [] d := by
    intro n; induction n with
    | zero =>
      intro i acc hin6 hF
      refine il6 (pc := 6) dX1_costBy_6 ?_
      refine g_bipush (pc := 8) dX1_costBy_8 kb16 ?_
      refine g_icmpge 89 (pc := 10) dX1_costBy_10 (by decide) (fun c10 => ?_) (fun c10 => absurd (nI_le (a := 16) (by omega) (by omega)) c10)
      refine il5 (pc := 89) dX1_costBy_89 ?_
      exact retI (pc := 91) hR dX1_costBy_91 (hF) (rfl)
    | succ n ih6 =>
      intro i acc hin6 hF
      refine il6 (pc := 6) dX1_costBy_6 ?_
      refine g_bipush (pc := 8) dX1_costBy_8 kb16 ?_
      refine g_icmpge 89 (pc := 10) dX1_costBy_10 (by decide) (fun c10 => absurd c10 (nI_ge (b := 16) (by omega) (by omega))) (fun c10 => ?_)
      refine il1 (pc := 13) dX1_costBy_13 ?_
      refine cl_X1_23 (pc := 14) (c_X8_firstColumn) (by decide) ⟨Nat.zero_le _, Nat.zero_le _⟩ (Nat.le_of_ble_eq_true rfl) dX1_costBy_14 ?_
      refine il6 (pc := 17) dX1_costBy_17 ?_
      refine g_iconst (pc := 19) dX1_costBy_19 kc4 ?_
      refine g_irem (pc := 20) dX1_costBy_20 (by decide) ?_
      refine g_iadd (pc := 21) dX1_costBy_21 ?_
      refine is7 (pc := 22) dX1_costBy_22 rfl ?_
      refine il1 (pc := 24) dX1_costBy_24 ?_
      refine cl_X1_27 (pc := 25) (c_X8_firstRow) (by decide) ⟨Nat.zero_le _, Nat.zero_le _⟩ (Nat.le_of_ble_eq_true rfl) dX1_costBy_25 ?_
      refine il6 (pc := 28) dX1_costBy_28 ?_
      refine g_iconst (pc := 30) dX1_costBy_30 kc4 ?_
      refine g_idiv (pc := 31) dX1_costBy_31 (by decide) ?_
      refine g_iadd (pc := 32) dX1_costBy_32 ?_
      refine is8 (pc := 33) dX1_costBy_33 rfl ?_
      refine al0 (pc := 35) dX1_costBy_35 ?_
      refine gf_X1_30 (pc := 36) hs.1 hs.2.1 dX1_costBy_36 ?_
      refine il7 (pc := 39) dX1_costBy_39 ?_
      refine il2 (pc := 41) dX1_costBy_41 ?_
      refine cl_X1_36 (pc := 42) (c_X8_xOf) (by decide) ⟨Nat.zero_le _, Nat.zero_le _⟩ (Nat.le_of_ble_eq_true rfl) dX1_costBy_42 ?_
      refine g_iadd (pc := 45) dX1_costBy_45 ?_
      refine il8 (pc := 46) dX1_costBy_46 ?_
      refine il2 (pc := 48) dX1_costBy_48 ?_
      refine cl_X1_39 (pc := 49) (c_X8_yOf) (by decide) ⟨Nat.zero_le _, Nat.zero_le _⟩ (Nat.le_of_ble_eq_true rfl) dX1_costBy_49 ?_
      refine g_iadd (pc := 52) dX1_costBy_52 ?_
      refine il3 (pc := 53) dX1_costBy_53 ?_
      refine il4 (pc := 54) dX1_costBy_54 ?_
      refine cl_X1_42 (pc := 56) (c_X1_between hs.2.2.2.1) (by decide) ⟨Nat.zero_le _, Nat.zero_le _⟩ (Nat.le_of_ble_eq_true rfl) dX1_costBy_56 ?_
      refine is9 (pc := 59) dX1_costBy_59 rfl ?_
      refine il5 (pc := 61) dX1_costBy_61 ?_
      refine al0 (pc := 63) dX1_costBy_63 ?_
      refine gf_X1_46 (pc := 64) hs.1 hs.2.2.1 dX1_costBy_64 ?_
      refine il7 (pc := 67) dX1_costBy_67 ?_
      refine il8 (pc := 69) dX1_costBy_69 ?_
      refine cl_X1_49 (pc := 71) (c_X2_at hs.2.2.2.2) hs.2.2.2.2.1 (by decide) ⟨Nat.zero_le _, Nat.zero_le _⟩ (Nat.le_of_ble_eq_true rfl) dX1_costBy_71 ?_
      refine il9 (pc := 74) dX1_costBy_74 ?_
      refine g_isub (pc := 76) dX1_costBy_76 ?_
      refine cl_X1_55 (pc := 77) (by decide) (Nat.le_of_ble_eq_true rfl) ⟨Nat.zero_le _, Nat.zero_le _⟩ dX1_costBy_77 ?_
      refine g_iadd (pc := 80) dX1_costBy_80 ?_
      refine is5 (pc := 81) dX1_costBy_81 rfl ?_
      refine ic6 (pc := 83) dX1_costBy_83 kc1 rfl ?_
      refine g_goto 6 (pc := 86) dX1_costBy_86 (by decide) ?_
      rw [nI_1]
      refine dr7 ?_
      refine dr8 ?_
      refine dr9 ?_
      exact ih6 (i + 1) _ (by omega) hF
  exact L6 16 0 0 (by omega) rfl
theorem c_X1_look {l : Launch} {G : mG} {Z : mZ} {d : mD} {hv s p q a b : Nat} {bk m : Int32} (hh : ob Z 1 hv) (hs : scn Z s p q a b) : CtV l G yX1_look cX1_look 6 4 99 [.ref hv, .ref s, .int bk, .int m] Z d (haD d hv (haL (gA d a) (gA d b) bk m 9 0 (gI d 32 hv) 1000000).1 (haL (gA d a) (gA d b) bk m 9 0 (gI d 32 hv) 1000000).2) := by
  refine enterV RX1 2 [some (.ref hv), some (.ref s), some (.int bk), some (.int m), none, none] (by decide) rfl rfl rfl (fun X hR => ?_)
  refine al0 (pc := 0) dX1_look_0 ?_
  refine g_ldc (pc := 1) dX1_look_1 wk_X1_18 ?_
  refine pf_X1_15 (pc := 3) hh dX1_look_3 ?_
  rw [ha_0]
  refine g_iconst (pc := 6) dX1_look_6 kc0 ?_
  refine is4 (pc := 7) dX1_look_7 rfl ?_
  have L9 : ∀ (n i : Nat) (fd : Int32) (co : Int32), i + n = 9 → (haL (gA d a) (gA d b) bk m n i fd co = haL (gA d a) (gA d b) bk m 9 0 (gI d 32 hv) 1000000) → mGo l G (mRm 4 99) X RX1 cX1_look 6 0 0 Z 9 [some (.ref hv), some (.ref s), some (.int bk), some (.int m), some (.int (nI i)), none] [] (haD d hv fd co) := by
    intro n; induction n with
    | zero =>
      intro i fd co hin9 hF
      refine il4 (pc := 9) dX1_look_9 ?_
      refine g_bipush (pc := 11) dX1_look_11 kb9 ?_
      refine g_icmpge 63 (pc := 13) dX1_look_13 (by decide) (fun c13 => ?_) (fun c13 => absurd (nI_le (a := 9) (by omega) (by omega)) c13)
      exact retV (pc := 63) hR dX1_look_63 (by rw [← hF]; rfl)
    | succ n ih9 =>
      intro i fd co hin9 hF
      refine il4 (pc := 9) dX1_look_9 ?_
      refine g_bipush (pc := 11) dX1_look_11 kb9 ?_
      refine g_icmpge 63 (pc := 13) dX1_look_13 (by decide) (fun c13 => absurd c13 (nI_ge (b := 9) (by omega) (by omega))) (fun c13 => ?_)
      refine al1 (pc := 16) dX1_look_16 ?_
      refine il2 (pc := 17) dX1_look_17 ?_
      refine il3 (pc := 18) dX1_look_18 ?_
      refine il4 (pc := 19) dX1_look_19 ?_
      refine g_iconst (pc := 21) dX1_look_21 kc3 ?_
      refine g_irem (pc := 22) dX1_look_22 (by decide) ?_
      refine g_iconst (pc := 23) dX1_look_23 kc1 ?_
      refine g_isub (pc := 24) dX1_look_24 ?_
      refine il4 (pc := 25) dX1_look_25 ?_
      refine g_iconst (pc := 27) dX1_look_27 kc3 ?_
      refine g_idiv (pc := 28) dX1_look_28 (by decide) ?_
      refine g_iconst (pc := 29) dX1_look_29 kc1 ?_
      refine g_isub (pc := 30) dX1_look_30 ?_
      refine cl_X1_19 (pc := 31) (c_X1_costBy hs) (by decide) ⟨Nat.zero_le _, Nat.zero_le _⟩ (Nat.le_of_ble_eq_true rfl) dX1_look_31 ?_
      rw [gA_ha, gA_ha]
      refine is5 (pc := 34) dX1_look_34 rfl ?_
      refine il5 (pc := 36) dX1_look_36 ?_
      refine al0 (pc := 38) dX1_look_38 ?_
      refine gf_X1_15 (pc := 39) hh dX1_look_39 ?_
      rw [gha_33]
      refine g_icmpge 57 (pc := 42) dX1_look_42 (by decide) (fun c42 => ?_) (fun c42 => ?_)
      · skip
        refine ic4 (pc := 57) dX1_look_57 kc1 rfl ?_
        refine g_goto 9 (pc := 60) dX1_look_60 (by decide) ?_
        rw [nI_1]
        refine dr5 ?_
        exact ih9 (i + 1) _ _ (by omega) (by rw [← hF, haL, if_neg (Int32.not_lt.mpr c42)])
      · skip
        refine al0 (pc := 45) dX1_look_45 ?_
        refine il5 (pc := 46) dX1_look_46 ?_
        refine pf_X1_15 (pc := 48) hh dX1_look_48 ?_
        rw [ha_33]
        refine al0 (pc := 51) dX1_look_51 ?_
        refine il4 (pc := 52) dX1_look_52 ?_
        refine pf_X1_9 (pc := 54) hh dX1_look_54 ?_
        rw [ha_32]
        refine ic4 (pc := 57) dX1_look_57 kc1 rfl ?_
        refine g_goto 9 (pc := 60) dX1_look_60 (by decide) ?_
        rw [nI_1]
        refine dr5 ?_
        exact ih9 (i + 1) _ _ (by omega) (by rw [← hF, haL, if_pos (Int32.not_le.mp c42)])
  exact L9 9 0 _ _ (by omega) rfl
theorem c_X0_partOf {l : Launch} {G : mG} {Z : mZ} {d : mD} {f mo ne b : Nat} {x : Int32} (hf : fld Z f mo ne) (hb : b < 6) : CtI l G yX0_partOf cX0_partOf 3 .int 1 20 [.ref f, .int (nI b), .int x] Z d (ptI (gA d mo b) x) d := by
  refine enterI RX0 0 [some (.ref f), some (.int (nI b)), some (.int x)] (by decide) rfl (rfl) rfl rfl (fun X hR => ?_)
  refine il2 (pc := 0) dX0_partOf_0 ?_
  refine g_ifeq 16 (pc := 1) dX0_partOf_1 (by decide) (fun c1 => ?_) (fun c1 => ?_)
  · skip
    refine al0 (pc := 16) dX0_partOf_16 ?_
    refine gf_X0_9 (pc := 17) hf.1 hf.2.1 dX0_partOf_17 ?_
    refine il1 (pc := 20) dX0_partOf_20 ?_
    refine g_iald (pc := 21) b hf.2.2.2.1 (hb) (rfl) (by decide) dX0_partOf_21 ?_
    refine cl_X0_42 (pc := 22) (c_X8_yOf) (by decide) ⟨Nat.zero_le _, Nat.zero_le _⟩ (Nat.le_of_ble_eq_true rfl) dX0_partOf_22 ?_
    exact retI (pc := 25) hR dX0_partOf_25 (by simp [ptI, c1]) (rfl)
  · skip
    refine al0 (pc := 4) dX0_partOf_4 ?_
    refine gf_X0_9 (pc := 5) hf.1 hf.2.1 dX0_partOf_5 ?_
    refine il1 (pc := 8) dX0_partOf_8 ?_
    refine g_iald (pc := 9) b hf.2.2.2.1 (hb) (rfl) (by decide) dX0_partOf_9 ?_
    refine cl_X0_38 (pc := 10) (c_X8_xOf) (by decide) ⟨Nat.zero_le _, Nat.zero_le _⟩ (Nat.le_of_ble_eq_true rfl) dX0_partOf_10 ?_
    refine g_goto 25 (pc := 13) dX0_partOf_13 (by decide) ?_
    exact retI (pc := 25) hR dX0_partOf_25 (by simp [ptI, c1]) (rfl)
theorem c_X0_middle {l : Launch} {G : mG} {Z : mZ} {d : mD} {f mo ne : Nat} {n : Int32} (hf : fld Z f mo ne) : CtI l G yX0_middle cX0_middle 4 .int 1 21 [.ref f, .int n] Z d (midI (gA d ne) n) d := by
  refine enterI RX0 2 [some (.ref f), some (.int n), none, none] (by decide) rfl (rfl) rfl rfl (fun X hR => ?_)
  refine il1 (pc := 0) dX0_middle_0 ?_
  by_cases c1_0 : n = 0
  · skip
    refine g_tblIn (pc := 1) 28 dX0_middle_1 (by rw [c1_0]; decide) (by rw [c1_0]; decide) (by rw [c1_0]; rfl) (by decide) ?_
    refine g_iconst (pc := 28) dX0_middle_28 kc0 ?_
    exact retI (pc := 29) hR dX0_middle_29 (by simp [midI, c1_0]) (rfl)
  by_cases c1_1 : n = 1
  · skip
    refine g_tblIn (pc := 1) 30 dX0_middle_1 (by rw [c1_1]; decide) (by rw [c1_1]; decide) (by rw [c1_1]; rfl) (by decide) ?_
    refine al0 (pc := 30) dX0_middle_30 ?_
    refine gf_X0_15 (pc := 31) hf.1 hf.2.2.1 dX0_middle_31 ?_
    refine g_iconst (pc := 34) dX0_middle_34 kc0 ?_
    refine g_iald (pc := 35) 0 hf.2.2.2.2 (by decide) (rfl) (by decide) dX0_middle_35 ?_
    exact retI (pc := 36) hR dX0_middle_36 (by simp [midI, c1_1]) (rfl)
  by_cases c1_2 : n = 2
  · skip
    refine g_tblIn (pc := 1) 37 dX0_middle_1 (by rw [c1_2]; decide) (by rw [c1_2]; decide) (by rw [c1_2]; rfl) (by decide) ?_
    refine al0 (pc := 37) dX0_middle_37 ?_
    refine gf_X0_15 (pc := 38) hf.1 hf.2.2.1 dX0_middle_38 ?_
    refine g_iconst (pc := 41) dX0_middle_41 kc0 ?_
    refine g_iald (pc := 42) 0 hf.2.2.2.2 (by decide) (rfl) (by decide) dX0_middle_42 ?_
    refine al0 (pc := 43) dX0_middle_43 ?_
    refine gf_X0_15 (pc := 44) hf.1 hf.2.2.1 dX0_middle_44 ?_
    refine g_iconst (pc := 47) dX0_middle_47 kc1 ?_
    refine g_iald (pc := 48) 1 hf.2.2.2.2 (by decide) (rfl) (by decide) dX0_middle_48 ?_
    refine cl_X0_66 (pc := 49) (by decide) (Nat.le_of_ble_eq_true rfl) ⟨Nat.zero_le _, Nat.zero_le _⟩ dX0_middle_49 ?_
    exact retI (pc := 52) hR dX0_middle_52 (by simp [midI, c1_2]) (rfl)
  refine g_tblOut (pc := 1) 53 dX0_middle_1 (by have q0 := lv_neT c1_0 (k := 0) (a := 0) (by decide); have q1 := lv_neT c1_1 (k := 1) (a := 1) (by decide); have q2 := lv_neT c1_2 (k := 2) (a := 2) (by decide); omega) (by decide) ?_
  refine al0 (pc := 53) dX0_middle_53 ?_
  refine gf_X0_15 (pc := 54) hf.1 hf.2.2.1 dX0_middle_54 ?_
  refine g_iconst (pc := 57) dX0_middle_57 kc0 ?_
  refine g_iald (pc := 58) 0 hf.2.2.2.2 (by decide) (rfl) (by decide) dX0_middle_58 ?_
  refine al0 (pc := 59) dX0_middle_59 ?_
  refine gf_X0_15 (pc := 60) hf.1 hf.2.2.1 dX0_middle_60 ?_
  refine g_iconst (pc := 63) dX0_middle_63 kc1 ?_
  refine g_iald (pc := 64) 1 hf.2.2.2.2 (by decide) (rfl) (by decide) dX0_middle_64 ?_
  refine cl_X0_66 (pc := 65) (by decide) (Nat.le_of_ble_eq_true rfl) ⟨Nat.zero_le _, Nat.zero_le _⟩ dX0_middle_65 ?_
  refine is2 (pc := 68) dX0_middle_68 rfl ?_
  refine al0 (pc := 69) dX0_middle_69 ?_
  refine gf_X0_15 (pc := 70) hf.1 hf.2.2.1 dX0_middle_70 ?_
  refine g_iconst (pc := 73) dX0_middle_73 kc0 ?_
  refine g_iald (pc := 74) 0 hf.2.2.2.2 (by decide) (rfl) (by decide) dX0_middle_74 ?_
  refine al0 (pc := 75) dX0_middle_75 ?_
  refine gf_X0_15 (pc := 76) hf.1 hf.2.2.1 dX0_middle_76 ?_
  refine g_iconst (pc := 79) dX0_middle_79 kc1 ?_
  refine g_iald (pc := 80) 1 hf.2.2.2.2 (by decide) (rfl) (by decide) dX0_middle_80 ?_
  refine cl_X0_71 (pc := 81) (by decide) (Nat.le_of_ble_eq_true rfl) ⟨Nat.zero_le _, Nat.zero_le _⟩ dX0_middle_81 ?_
  refine is3 (pc := 84) dX0_middle_84 rfl ?_
  refine il2 (pc := 85) dX0_middle_85 ?_
  refine il3 (pc := 86) dX0_middle_86 ?_
  refine al0 (pc := 87) dX0_middle_87 ?_
  refine gf_X0_15 (pc := 88) hf.1 hf.2.2.1 dX0_middle_88 ?_
  refine g_iconst (pc := 91) dX0_middle_91 kc2 ?_
  refine g_iald (pc := 92) 2 hf.2.2.2.2 (by decide) (rfl) (by decide) dX0_middle_92 ?_
  refine cl_X0_66 (pc := 93) (by decide) (Nat.le_of_ble_eq_true rfl) ⟨Nat.zero_le _, Nat.zero_le _⟩ dX0_middle_93 ?_
  refine cl_X0_71 (pc := 96) (by decide) (Nat.le_of_ble_eq_true rfl) ⟨Nat.zero_le _, Nat.zero_le _⟩ dX0_middle_96 ?_
  exact retI (pc := 99) hR dX0_middle_99 (by simp [midI, c1_0, c1_1, c1_2]) (rfl)
theorem c_X0_bitsOf {l : Launch} {G : mG} {Z : mZ} {d : mD} {e : Int32} : CtI l G yX0_bitsOf cX0_bitsOf 4 .int 1 21 [.int e] Z d (bitI e) d := by
  refine enterI RX0 3 [some (.int e), none, none, none] (by decide) rfl (rfl) rfl rfl (fun X hR => ?_)
  refine il0 (pc := 0) dX0_bitsOf_0 ?_
  refine cl_X0_74 (pc := 1) (by decide) (Nat.le_of_ble_eq_true rfl) ⟨Nat.zero_le _, Nat.zero_le _⟩ dX0_bitsOf_1 ?_
  refine is1 (pc := 4) dX0_bitsOf_4 rfl ?_
  refine g_iconst (pc := 5) dX0_bitsOf_5 kc1 ?_
  refine is2 (pc := 6) dX0_bitsOf_6 rfl ?_
  refine g_iconst (pc := 7) dX0_bitsOf_7 kc0 ?_
  refine is3 (pc := 8) dX0_bitsOf_8 rfl ?_
  have L9 : ∀ (n i : Nat) (acc : Int32), i + n = 31 → (bitL (mAbs e) n i acc = bitI e) → mGo l G (mRm 1 21) X RX0 cX0_bitsOf 4 0 0 Z 9 [some (.int e), some (.int (mAbs e)), some (.int acc), some (.int (nI i))] [] d := by
    intro n; induction n with
    | zero =>
      intro i acc hin9 hF
      refine il3 (pc := 9) dX0_bitsOf_9 ?_
      refine g_bipush (pc := 10) dX0_bitsOf_10 kb31 ?_
      refine g_icmpge 30 (pc := 12) dX0_bitsOf_12 (by decide) (fun c12 => ?_) (fun c12 => absurd (nI_le (a := 31) (by omega) (by omega)) c12)
      refine il2 (pc := 30) dX0_bitsOf_30 ?_
      exact retI (pc := 31) hR dX0_bitsOf_31 (hF) (rfl)
    | succ n ih9 =>
      intro i acc hin9 hF
      refine il3 (pc := 9) dX0_bitsOf_9 ?_
      refine g_bipush (pc := 10) dX0_bitsOf_10 kb31 ?_
      refine g_icmpge 30 (pc := 12) dX0_bitsOf_12 (by decide) (fun c12 => absurd c12 (nI_ge (b := 31) (by omega) (by omega))) (fun c12 => ?_)
      refine il1 (pc := 15) dX0_bitsOf_15 ?_
      refine il3 (pc := 16) dX0_bitsOf_16 ?_
      refine g_ishr (pc := 17) dX0_bitsOf_17 ?_
      refine g_ifle 24 (pc := 18) dX0_bitsOf_18 (by decide) (fun c18 => ?_) (fun c18 => ?_)
      · skip
        refine ic3 (pc := 24) dX0_bitsOf_24 kc1 rfl ?_
        refine g_goto 9 (pc := 27) dX0_bitsOf_27 (by decide) ?_
        rw [nI_1]
        exact ih9 (i + 1) _ (by omega) (by rw [← hF, bitL, if_pos c18])
      · skip
        refine ic2 (pc := 21) dX0_bitsOf_21 kc2 rfl ?_
        refine ic3 (pc := 24) dX0_bitsOf_24 kc1 rfl ?_
        refine g_goto 9 (pc := 27) dX0_bitsOf_27 (by decide) ?_
        rw [nI_1]
        exact ih9 (i + 1) _ (by omega) (by rw [← hF, bitL, if_neg c18])
  exact L9 31 0 1 (by omega) rfl
theorem c_X0_foretold_0 {l : Launch} {G : mG} {Z : mZ} {d : mD} {f mo ne : Nat} {x : Int32} (hf : fld Z f mo ne) (hmn : mo ≠ ne) : CtI l G yX0_foretold cX0_foretold 7 .int 2 44 [.ref f, .int (nI 0), .int x] Z d (foI (gA d mo) x 0) (tA d ne (foF (gA d mo) x (gA d ne) 0)) := by
  refine enterI RX0 4 [some (.ref f), some (.int (nI 0)), some (.int x), none, none, none, none] (by decide) rfl (rfl) rfl rfl (fun X hR => ?_)
  refine il1 (pc := 0) dX0_foretold_0 ?_
  refine g_iconst (pc := 1) dX0_foretold_1 kc3 ?_
  refine g_irem (pc := 2) dX0_foretold_2 (by decide) ?_
  refine g_ifle 10 (pc := 3) dX0_foretold_3 (by decide) (fun c3 => ?_) (fun c3 => absurd (by decide) c3)
  refine g_iconst (pc := 10) dX0_foretold_10 kc0 ?_
  refine is3 (pc := 11) dX0_foretold_11 rfl ?_
  refine il1 (pc := 12) dX0_foretold_12 ?_
  refine g_iconst (pc := 13) dX0_foretold_13 kc3 ?_
  refine g_icmplt 21 (pc := 14) dX0_foretold_14 (by decide) (fun c14 => ?_) (fun c14 => absurd (by decide) c14)
  refine g_iconst (pc := 21) dX0_foretold_21 kc0 ?_
  refine is4 (pc := 22) dX0_foretold_22 rfl ?_
  refine il1 (pc := 24) dX0_foretold_24 ?_
  refine g_iconst (pc := 25) dX0_foretold_25 kc3 ?_
  refine g_irem (pc := 26) dX0_foretold_26 (by decide) ?_
  refine g_iconst (pc := 27) dX0_foretold_27 kc2 ?_
  refine g_icmpge 35 (pc := 28) dX0_foretold_28 (by decide) (fun c28 => absurd c28 (by decide)) (fun c28 => ?_)
  refine g_iconst (pc := 31) dX0_foretold_31 kc1 ?_
  refine g_goto 36 (pc := 32) dX0_foretold_32 (by decide) ?_
  refine is5 (pc := 36) dX0_foretold_36 rfl ?_
  refine g_iconst (pc := 38) dX0_foretold_38 kc0 ?_
  refine is6 (pc := 39) dX0_foretold_39 rfl ?_
  refine il3 (pc := 41) dX0_foretold_41 ?_
  refine g_ifeq 63 (pc := 42) dX0_foretold_42 (by decide) (fun c42 => ?_) (fun c42 => absurd (by decide) c42)
  refine il4 (pc := 63) dX0_foretold_63 ?_
  refine g_ifeq 86 (pc := 65) dX0_foretold_65 (by decide) (fun c65 => ?_) (fun c65 => absurd (by decide) c65)
  refine il4 (pc := 86) dX0_foretold_86 ?_
  refine g_ifeq 116 (pc := 88) dX0_foretold_88 (by decide) (fun c88 => ?_) (fun c88 => absurd (by decide) c88)
  refine al0 (pc := 116) dX0_foretold_116 ?_
  refine il6 (pc := 117) dX0_foretold_117 ?_
  refine cl_X0_63 (pc := 119) (c_X0_middle hf) hf.1 (by decide) ⟨Nat.zero_le _, Nat.zero_le _⟩ (Nat.le_of_ble_eq_true rfl) dX0_foretold_119 ?_
  exact retI (pc := 122) hR dX0_foretold_122 (rfl) (by rw [foF, tA_self]; all_goals (intro h; omega))
theorem c_X0_foretold_1 {l : Launch} {G : mG} {Z : mZ} {d : mD} {f mo ne : Nat} {x : Int32} (hf : fld Z f mo ne) (hmn : mo ≠ ne) : CtI l G yX0_foretold cX0_foretold 7 .int 2 44 [.ref f, .int (nI 1), .int x] Z d (foI (gA d mo) x 1) (tA d ne (foF (gA d mo) x (gA d ne) 1)) := by
  refine enterI RX0 4 [some (.ref f), some (.int (nI 1)), some (.int x), none, none, none, none] (by decide) rfl (rfl) rfl rfl (fun X hR => ?_)
  refine il1 (pc := 0) dX0_foretold_0 ?_
  refine g_iconst (pc := 1) dX0_foretold_1 kc3 ?_
  refine g_irem (pc := 2) dX0_foretold_2 (by decide) ?_
  refine g_ifle 10 (pc := 3) dX0_foretold_3 (by decide) (fun c3 => absurd c3 (by decide)) (fun c3 => ?_)
  refine g_iconst (pc := 6) dX0_foretold_6 kc1 ?_
  refine g_goto 11 (pc := 7) dX0_foretold_7 (by decide) ?_
  refine is3 (pc := 11) dX0_foretold_11 rfl ?_
  refine il1 (pc := 12) dX0_foretold_12 ?_
  refine g_iconst (pc := 13) dX0_foretold_13 kc3 ?_
  refine g_icmplt 21 (pc := 14) dX0_foretold_14 (by decide) (fun c14 => ?_) (fun c14 => absurd (by decide) c14)
  refine g_iconst (pc := 21) dX0_foretold_21 kc0 ?_
  refine is4 (pc := 22) dX0_foretold_22 rfl ?_
  refine il1 (pc := 24) dX0_foretold_24 ?_
  refine g_iconst (pc := 25) dX0_foretold_25 kc3 ?_
  refine g_irem (pc := 26) dX0_foretold_26 (by decide) ?_
  refine g_iconst (pc := 27) dX0_foretold_27 kc2 ?_
  refine g_icmpge 35 (pc := 28) dX0_foretold_28 (by decide) (fun c28 => absurd c28 (by decide)) (fun c28 => ?_)
  refine g_iconst (pc := 31) dX0_foretold_31 kc1 ?_
  refine g_goto 36 (pc := 32) dX0_foretold_32 (by decide) ?_
  refine is5 (pc := 36) dX0_foretold_36 rfl ?_
  refine g_iconst (pc := 38) dX0_foretold_38 kc0 ?_
  refine is6 (pc := 39) dX0_foretold_39 rfl ?_
  refine il3 (pc := 41) dX0_foretold_41 ?_
  refine g_ifeq 63 (pc := 42) dX0_foretold_42 (by decide) (fun c42 => absurd c42 (by decide)) (fun c42 => ?_)
  refine al0 (pc := 45) dX0_foretold_45 ?_
  refine gf_X0_15 (pc := 46) hf.1 hf.2.2.1 dX0_foretold_46 ?_
  refine il6 (pc := 49) dX0_foretold_49 ?_
  refine al0 (pc := 51) dX0_foretold_51 ?_
  refine il1 (pc := 52) dX0_foretold_52 ?_
  refine g_iconst (pc := 53) dX0_foretold_53 kc1 ?_
  refine g_isub (pc := 54) dX0_foretold_54 ?_
  refine il2 (pc := 55) dX0_foretold_55 ?_
  refine cl_X0_60 (pc := 56) (c_X0_partOf (b := 0) hf (by decide)) hf.1 (by decide) ⟨Nat.zero_le _, Nat.zero_le _⟩ (Nat.le_of_ble_eq_true rfl) dX0_foretold_56 ?_
  try rw [gA_tA, if_neg hmn]
  refine g_iast (pc := 59) 0 hf.2.2.2.2 (by decide) (rfl) (by decide) dX0_foretold_59 ?_
  try rw [gA_tA, if_pos rfl, tA_tA]
  refine ic6 (pc := 60) dX0_foretold_60 kc1 rfl ?_
  refine il4 (pc := 63) dX0_foretold_63 ?_
  refine g_ifeq 86 (pc := 65) dX0_foretold_65 (by decide) (fun c65 => ?_) (fun c65 => absurd (by decide) c65)
  refine il4 (pc := 86) dX0_foretold_86 ?_
  refine g_ifeq 116 (pc := 88) dX0_foretold_88 (by decide) (fun c88 => ?_) (fun c88 => absurd (by decide) c88)
  refine al0 (pc := 116) dX0_foretold_116 ?_
  refine il6 (pc := 117) dX0_foretold_117 ?_
  refine cl_X0_63 (pc := 119) (c_X0_middle hf) hf.1 (by decide) ⟨Nat.zero_le _, Nat.zero_le _⟩ (Nat.le_of_ble_eq_true rfl) dX0_foretold_119 ?_
  exact retI (pc := 122) hR dX0_foretold_122 (by simp [midI, foI, gA_tA, upd]) (rfl)
theorem c_X0_foretold_2 {l : Launch} {G : mG} {Z : mZ} {d : mD} {f mo ne : Nat} {x : Int32} (hf : fld Z f mo ne) (hmn : mo ≠ ne) : CtI l G yX0_foretold cX0_foretold 7 .int 2 44 [.ref f, .int (nI 2), .int x] Z d (foI (gA d mo) x 2) (tA d ne (foF (gA d mo) x (gA d ne) 2)) := by
  refine enterI RX0 4 [some (.ref f), some (.int (nI 2)), some (.int x), none, none, none, none] (by decide) rfl (rfl) rfl rfl (fun X hR => ?_)
  refine il1 (pc := 0) dX0_foretold_0 ?_
  refine g_iconst (pc := 1) dX0_foretold_1 kc3 ?_
  refine g_irem (pc := 2) dX0_foretold_2 (by decide) ?_
  refine g_ifle 10 (pc := 3) dX0_foretold_3 (by decide) (fun c3 => absurd c3 (by decide)) (fun c3 => ?_)
  refine g_iconst (pc := 6) dX0_foretold_6 kc1 ?_
  refine g_goto 11 (pc := 7) dX0_foretold_7 (by decide) ?_
  refine is3 (pc := 11) dX0_foretold_11 rfl ?_
  refine il1 (pc := 12) dX0_foretold_12 ?_
  refine g_iconst (pc := 13) dX0_foretold_13 kc3 ?_
  refine g_icmplt 21 (pc := 14) dX0_foretold_14 (by decide) (fun c14 => ?_) (fun c14 => absurd (by decide) c14)
  refine g_iconst (pc := 21) dX0_foretold_21 kc0 ?_
  refine is4 (pc := 22) dX0_foretold_22 rfl ?_
  refine il1 (pc := 24) dX0_foretold_24 ?_
  refine g_iconst (pc := 25) dX0_foretold_25 kc3 ?_
  refine g_irem (pc := 26) dX0_foretold_26 (by decide) ?_
  refine g_iconst (pc := 27) dX0_foretold_27 kc2 ?_
  refine g_icmpge 35 (pc := 28) dX0_foretold_28 (by decide) (fun c28 => ?_) (fun c28 => absurd (by decide) c28)
  refine g_iconst (pc := 35) dX0_foretold_35 kc0 ?_
  refine is5 (pc := 36) dX0_foretold_36 rfl ?_
  refine g_iconst (pc := 38) dX0_foretold_38 kc0 ?_
  refine is6 (pc := 39) dX0_foretold_39 rfl ?_
  refine il3 (pc := 41) dX0_foretold_41 ?_
  refine g_ifeq 63 (pc := 42) dX0_foretold_42 (by decide) (fun c42 => absurd c42 (by decide)) (fun c42 => ?_)
  refine al0 (pc := 45) dX0_foretold_45 ?_
  refine gf_X0_15 (pc := 46) hf.1 hf.2.2.1 dX0_foretold_46 ?_
  refine il6 (pc := 49) dX0_foretold_49 ?_
  refine al0 (pc := 51) dX0_foretold_51 ?_
  refine il1 (pc := 52) dX0_foretold_52 ?_
  refine g_iconst (pc := 53) dX0_foretold_53 kc1 ?_
  refine g_isub (pc := 54) dX0_foretold_54 ?_
  refine il2 (pc := 55) dX0_foretold_55 ?_
  refine cl_X0_60 (pc := 56) (c_X0_partOf (b := 1) hf (by decide)) hf.1 (by decide) ⟨Nat.zero_le _, Nat.zero_le _⟩ (Nat.le_of_ble_eq_true rfl) dX0_foretold_56 ?_
  try rw [gA_tA, if_neg hmn]
  refine g_iast (pc := 59) 0 hf.2.2.2.2 (by decide) (rfl) (by decide) dX0_foretold_59 ?_
  try rw [gA_tA, if_pos rfl, tA_tA]
  refine ic6 (pc := 60) dX0_foretold_60 kc1 rfl ?_
  refine il4 (pc := 63) dX0_foretold_63 ?_
  refine g_ifeq 86 (pc := 65) dX0_foretold_65 (by decide) (fun c65 => ?_) (fun c65 => absurd (by decide) c65)
  refine il4 (pc := 86) dX0_foretold_86 ?_
  refine g_ifeq 116 (pc := 88) dX0_foretold_88 (by decide) (fun c88 => ?_) (fun c88 => absurd (by decide) c88)
  refine al0 (pc := 116) dX0_foretold_116 ?_
  refine il6 (pc := 117) dX0_foretold_117 ?_
  refine cl_X0_63 (pc := 119) (c_X0_middle hf) hf.1 (by decide) ⟨Nat.zero_le _, Nat.zero_le _⟩ (Nat.le_of_ble_eq_true rfl) dX0_foretold_119 ?_
  exact retI (pc := 122) hR dX0_foretold_122 (by simp [midI, foI, gA_tA, upd]) (rfl)
theorem c_X0_foretold_3 {l : Launch} {G : mG} {Z : mZ} {d : mD} {f mo ne : Nat} {x : Int32} (hf : fld Z f mo ne) (hmn : mo ≠ ne) : CtI l G yX0_foretold cX0_foretold 7 .int 2 44 [.ref f, .int (nI 3), .int x] Z d (foI (gA d mo) x 3) (tA d ne (foF (gA d mo) x (gA d ne) 3)) := by
  refine enterI RX0 4 [some (.ref f), some (.int (nI 3)), some (.int x), none, none, none, none] (by decide) rfl (rfl) rfl rfl (fun X hR => ?_)
  refine il1 (pc := 0) dX0_foretold_0 ?_
  refine g_iconst (pc := 1) dX0_foretold_1 kc3 ?_
  refine g_irem (pc := 2) dX0_foretold_2 (by decide) ?_
  refine g_ifle 10 (pc := 3) dX0_foretold_3 (by decide) (fun c3 => ?_) (fun c3 => absurd (by decide) c3)
  refine g_iconst (pc := 10) dX0_foretold_10 kc0 ?_
  refine is3 (pc := 11) dX0_foretold_11 rfl ?_
  refine il1 (pc := 12) dX0_foretold_12 ?_
  refine g_iconst (pc := 13) dX0_foretold_13 kc3 ?_
  refine g_icmplt 21 (pc := 14) dX0_foretold_14 (by decide) (fun c14 => absurd c14 (by decide)) (fun c14 => ?_)
  refine g_iconst (pc := 17) dX0_foretold_17 kc1 ?_
  refine g_goto 22 (pc := 18) dX0_foretold_18 (by decide) ?_
  refine is4 (pc := 22) dX0_foretold_22 rfl ?_
  refine il1 (pc := 24) dX0_foretold_24 ?_
  refine g_iconst (pc := 25) dX0_foretold_25 kc3 ?_
  refine g_irem (pc := 26) dX0_foretold_26 (by decide) ?_
  refine g_iconst (pc := 27) dX0_foretold_27 kc2 ?_
  refine g_icmpge 35 (pc := 28) dX0_foretold_28 (by decide) (fun c28 => absurd c28 (by decide)) (fun c28 => ?_)
  refine g_iconst (pc := 31) dX0_foretold_31 kc1 ?_
  refine g_goto 36 (pc := 32) dX0_foretold_32 (by decide) ?_
  refine is5 (pc := 36) dX0_foretold_36 rfl ?_
  refine g_iconst (pc := 38) dX0_foretold_38 kc0 ?_
  refine is6 (pc := 39) dX0_foretold_39 rfl ?_
  refine il3 (pc := 41) dX0_foretold_41 ?_
  refine g_ifeq 63 (pc := 42) dX0_foretold_42 (by decide) (fun c42 => ?_) (fun c42 => absurd (by decide) c42)
  refine il4 (pc := 63) dX0_foretold_63 ?_
  refine g_ifeq 86 (pc := 65) dX0_foretold_65 (by decide) (fun c65 => absurd c65 (by decide)) (fun c65 => ?_)
  refine al0 (pc := 68) dX0_foretold_68 ?_
  refine gf_X0_15 (pc := 69) hf.1 hf.2.2.1 dX0_foretold_69 ?_
  refine il6 (pc := 72) dX0_foretold_72 ?_
  refine al0 (pc := 74) dX0_foretold_74 ?_
  refine il1 (pc := 75) dX0_foretold_75 ?_
  refine g_iconst (pc := 76) dX0_foretold_76 kc3 ?_
  refine g_isub (pc := 77) dX0_foretold_77 ?_
  refine il2 (pc := 78) dX0_foretold_78 ?_
  refine cl_X0_60 (pc := 79) (c_X0_partOf (b := 0) hf (by decide)) hf.1 (by decide) ⟨Nat.zero_le _, Nat.zero_le _⟩ (Nat.le_of_ble_eq_true rfl) dX0_foretold_79 ?_
  try rw [gA_tA, if_neg hmn]
  refine g_iast (pc := 82) 0 hf.2.2.2.2 (by decide) (rfl) (by decide) dX0_foretold_82 ?_
  try rw [gA_tA, if_pos rfl, tA_tA]
  refine ic6 (pc := 83) dX0_foretold_83 kc1 rfl ?_
  refine il4 (pc := 86) dX0_foretold_86 ?_
  refine g_ifeq 116 (pc := 88) dX0_foretold_88 (by decide) (fun c88 => absurd c88 (by decide)) (fun c88 => ?_)
  refine il5 (pc := 91) dX0_foretold_91 ?_
  refine g_ifeq 116 (pc := 93) dX0_foretold_93 (by decide) (fun c93 => absurd c93 (by decide)) (fun c93 => ?_)
  refine al0 (pc := 96) dX0_foretold_96 ?_
  refine gf_X0_15 (pc := 97) hf.1 hf.2.2.1 dX0_foretold_97 ?_
  refine il6 (pc := 100) dX0_foretold_100 ?_
  refine al0 (pc := 102) dX0_foretold_102 ?_
  refine il1 (pc := 103) dX0_foretold_103 ?_
  refine g_iconst (pc := 104) dX0_foretold_104 kc3 ?_
  refine g_isub (pc := 105) dX0_foretold_105 ?_
  refine g_iconst (pc := 106) dX0_foretold_106 kc1 ?_
  refine g_iadd (pc := 107) dX0_foretold_107 ?_
  refine il2 (pc := 108) dX0_foretold_108 ?_
  refine cl_X0_60 (pc := 109) (c_X0_partOf (b := 1) hf (by decide)) hf.1 (by decide) ⟨Nat.zero_le _, Nat.zero_le _⟩ (Nat.le_of_ble_eq_true rfl) dX0_foretold_109 ?_
  try rw [gA_tA, if_neg hmn]
  refine g_iast (pc := 112) 1 hf.2.2.2.2 (by decide) (rfl) (by decide) dX0_foretold_112 ?_
  try rw [gA_tA, if_pos rfl, tA_tA]
  refine ic6 (pc := 113) dX0_foretold_113 kc1 rfl ?_
  refine al0 (pc := 116) dX0_foretold_116 ?_
  refine il6 (pc := 117) dX0_foretold_117 ?_
  refine cl_X0_63 (pc := 119) (c_X0_middle hf) hf.1 (by decide) ⟨Nat.zero_le _, Nat.zero_le _⟩ (Nat.le_of_ble_eq_true rfl) dX0_foretold_119 ?_
  exact retI (pc := 122) hR dX0_foretold_122 (by simp [midI, foI, gA_tA, upd]) (rfl)
theorem c_X0_foretold_4 {l : Launch} {G : mG} {Z : mZ} {d : mD} {f mo ne : Nat} {x : Int32} (hf : fld Z f mo ne) (hmn : mo ≠ ne) : CtI l G yX0_foretold cX0_foretold 7 .int 2 44 [.ref f, .int (nI 4), .int x] Z d (foI (gA d mo) x 4) (tA d ne (foF (gA d mo) x (gA d ne) 4)) := by
  refine enterI RX0 4 [some (.ref f), some (.int (nI 4)), some (.int x), none, none, none, none] (by decide) rfl (rfl) rfl rfl (fun X hR => ?_)
  refine il1 (pc := 0) dX0_foretold_0 ?_
  refine g_iconst (pc := 1) dX0_foretold_1 kc3 ?_
  refine g_irem (pc := 2) dX0_foretold_2 (by decide) ?_
  refine g_ifle 10 (pc := 3) dX0_foretold_3 (by decide) (fun c3 => absurd c3 (by decide)) (fun c3 => ?_)
  refine g_iconst (pc := 6) dX0_foretold_6 kc1 ?_
  refine g_goto 11 (pc := 7) dX0_foretold_7 (by decide) ?_
  refine is3 (pc := 11) dX0_foretold_11 rfl ?_
  refine il1 (pc := 12) dX0_foretold_12 ?_
  refine g_iconst (pc := 13) dX0_foretold_13 kc3 ?_
  refine g_icmplt 21 (pc := 14) dX0_foretold_14 (by decide) (fun c14 => absurd c14 (by decide)) (fun c14 => ?_)
  refine g_iconst (pc := 17) dX0_foretold_17 kc1 ?_
  refine g_goto 22 (pc := 18) dX0_foretold_18 (by decide) ?_
  refine is4 (pc := 22) dX0_foretold_22 rfl ?_
  refine il1 (pc := 24) dX0_foretold_24 ?_
  refine g_iconst (pc := 25) dX0_foretold_25 kc3 ?_
  refine g_irem (pc := 26) dX0_foretold_26 (by decide) ?_
  refine g_iconst (pc := 27) dX0_foretold_27 kc2 ?_
  refine g_icmpge 35 (pc := 28) dX0_foretold_28 (by decide) (fun c28 => absurd c28 (by decide)) (fun c28 => ?_)
  refine g_iconst (pc := 31) dX0_foretold_31 kc1 ?_
  refine g_goto 36 (pc := 32) dX0_foretold_32 (by decide) ?_
  refine is5 (pc := 36) dX0_foretold_36 rfl ?_
  refine g_iconst (pc := 38) dX0_foretold_38 kc0 ?_
  refine is6 (pc := 39) dX0_foretold_39 rfl ?_
  refine il3 (pc := 41) dX0_foretold_41 ?_
  refine g_ifeq 63 (pc := 42) dX0_foretold_42 (by decide) (fun c42 => absurd c42 (by decide)) (fun c42 => ?_)
  refine al0 (pc := 45) dX0_foretold_45 ?_
  refine gf_X0_15 (pc := 46) hf.1 hf.2.2.1 dX0_foretold_46 ?_
  refine il6 (pc := 49) dX0_foretold_49 ?_
  refine al0 (pc := 51) dX0_foretold_51 ?_
  refine il1 (pc := 52) dX0_foretold_52 ?_
  refine g_iconst (pc := 53) dX0_foretold_53 kc1 ?_
  refine g_isub (pc := 54) dX0_foretold_54 ?_
  refine il2 (pc := 55) dX0_foretold_55 ?_
  refine cl_X0_60 (pc := 56) (c_X0_partOf (b := 3) hf (by decide)) hf.1 (by decide) ⟨Nat.zero_le _, Nat.zero_le _⟩ (Nat.le_of_ble_eq_true rfl) dX0_foretold_56 ?_
  try rw [gA_tA, if_neg hmn]
  refine g_iast (pc := 59) 0 hf.2.2.2.2 (by decide) (rfl) (by decide) dX0_foretold_59 ?_
  try rw [gA_tA, if_pos rfl, tA_tA]
  refine ic6 (pc := 60) dX0_foretold_60 kc1 rfl ?_
  refine il4 (pc := 63) dX0_foretold_63 ?_
  refine g_ifeq 86 (pc := 65) dX0_foretold_65 (by decide) (fun c65 => absurd c65 (by decide)) (fun c65 => ?_)
  refine al0 (pc := 68) dX0_foretold_68 ?_
  refine gf_X0_15 (pc := 69) hf.1 hf.2.2.1 dX0_foretold_69 ?_
  refine il6 (pc := 72) dX0_foretold_72 ?_
  refine al0 (pc := 74) dX0_foretold_74 ?_
  refine il1 (pc := 75) dX0_foretold_75 ?_
  refine g_iconst (pc := 76) dX0_foretold_76 kc3 ?_
  refine g_isub (pc := 77) dX0_foretold_77 ?_
  refine il2 (pc := 78) dX0_foretold_78 ?_
  refine cl_X0_60 (pc := 79) (c_X0_partOf (b := 1) hf (by decide)) hf.1 (by decide) ⟨Nat.zero_le _, Nat.zero_le _⟩ (Nat.le_of_ble_eq_true rfl) dX0_foretold_79 ?_
  try rw [gA_tA, if_neg hmn]
  refine g_iast (pc := 82) 1 hf.2.2.2.2 (by decide) (rfl) (by decide) dX0_foretold_82 ?_
  try rw [gA_tA, if_pos rfl, tA_tA]
  refine ic6 (pc := 83) dX0_foretold_83 kc1 rfl ?_
  refine il4 (pc := 86) dX0_foretold_86 ?_
  refine g_ifeq 116 (pc := 88) dX0_foretold_88 (by decide) (fun c88 => absurd c88 (by decide)) (fun c88 => ?_)
  refine il5 (pc := 91) dX0_foretold_91 ?_
  refine g_ifeq 116 (pc := 93) dX0_foretold_93 (by decide) (fun c93 => absurd c93 (by decide)) (fun c93 => ?_)
  refine al0 (pc := 96) dX0_foretold_96 ?_
  refine gf_X0_15 (pc := 97) hf.1 hf.2.2.1 dX0_foretold_97 ?_
  refine il6 (pc := 100) dX0_foretold_100 ?_
  refine al0 (pc := 102) dX0_foretold_102 ?_
  refine il1 (pc := 103) dX0_foretold_103 ?_
  refine g_iconst (pc := 104) dX0_foretold_104 kc3 ?_
  refine g_isub (pc := 105) dX0_foretold_105 ?_
  refine g_iconst (pc := 106) dX0_foretold_106 kc1 ?_
  refine g_iadd (pc := 107) dX0_foretold_107 ?_
  refine il2 (pc := 108) dX0_foretold_108 ?_
  refine cl_X0_60 (pc := 109) (c_X0_partOf (b := 2) hf (by decide)) hf.1 (by decide) ⟨Nat.zero_le _, Nat.zero_le _⟩ (Nat.le_of_ble_eq_true rfl) dX0_foretold_109 ?_
  try rw [gA_tA, if_neg hmn]
  refine g_iast (pc := 112) 2 hf.2.2.2.2 (by decide) (rfl) (by decide) dX0_foretold_112 ?_
  try rw [gA_tA, if_pos rfl, tA_tA]
  refine ic6 (pc := 113) dX0_foretold_113 kc1 rfl ?_
  refine al0 (pc := 116) dX0_foretold_116 ?_
  refine il6 (pc := 117) dX0_foretold_117 ?_
  refine cl_X0_63 (pc := 119) (c_X0_middle hf) hf.1 (by decide) ⟨Nat.zero_le _, Nat.zero_le _⟩ (Nat.le_of_ble_eq_true rfl) dX0_foretold_119 ?_
  exact retI (pc := 122) hR dX0_foretold_122 (by simp [midI, foI, gA_tA, upd]) (rfl)
theorem c_X0_foretold_5 {l : Launch} {G : mG} {Z : mZ} {d : mD} {f mo ne : Nat} {x : Int32} (hf : fld Z f mo ne) (hmn : mo ≠ ne) : CtI l G yX0_foretold cX0_foretold 7 .int 2 44 [.ref f, .int (nI 5), .int x] Z d (foI (gA d mo) x 5) (tA d ne (foF (gA d mo) x (gA d ne) 5)) := by
  refine enterI RX0 4 [some (.ref f), some (.int (nI 5)), some (.int x), none, none, none, none] (by decide) rfl (rfl) rfl rfl (fun X hR => ?_)
  refine il1 (pc := 0) dX0_foretold_0 ?_
  refine g_iconst (pc := 1) dX0_foretold_1 kc3 ?_
  refine g_irem (pc := 2) dX0_foretold_2 (by decide) ?_
  refine g_ifle 10 (pc := 3) dX0_foretold_3 (by decide) (fun c3 => absurd c3 (by decide)) (fun c3 => ?_)
  refine g_iconst (pc := 6) dX0_foretold_6 kc1 ?_
  refine g_goto 11 (pc := 7) dX0_foretold_7 (by decide) ?_
  refine is3 (pc := 11) dX0_foretold_11 rfl ?_
  refine il1 (pc := 12) dX0_foretold_12 ?_
  refine g_iconst (pc := 13) dX0_foretold_13 kc3 ?_
  refine g_icmplt 21 (pc := 14) dX0_foretold_14 (by decide) (fun c14 => absurd c14 (by decide)) (fun c14 => ?_)
  refine g_iconst (pc := 17) dX0_foretold_17 kc1 ?_
  refine g_goto 22 (pc := 18) dX0_foretold_18 (by decide) ?_
  refine is4 (pc := 22) dX0_foretold_22 rfl ?_
  refine il1 (pc := 24) dX0_foretold_24 ?_
  refine g_iconst (pc := 25) dX0_foretold_25 kc3 ?_
  refine g_irem (pc := 26) dX0_foretold_26 (by decide) ?_
  refine g_iconst (pc := 27) dX0_foretold_27 kc2 ?_
  refine g_icmpge 35 (pc := 28) dX0_foretold_28 (by decide) (fun c28 => ?_) (fun c28 => absurd (by decide) c28)
  refine g_iconst (pc := 35) dX0_foretold_35 kc0 ?_
  refine is5 (pc := 36) dX0_foretold_36 rfl ?_
  refine g_iconst (pc := 38) dX0_foretold_38 kc0 ?_
  refine is6 (pc := 39) dX0_foretold_39 rfl ?_
  refine il3 (pc := 41) dX0_foretold_41 ?_
  refine g_ifeq 63 (pc := 42) dX0_foretold_42 (by decide) (fun c42 => absurd c42 (by decide)) (fun c42 => ?_)
  refine al0 (pc := 45) dX0_foretold_45 ?_
  refine gf_X0_15 (pc := 46) hf.1 hf.2.2.1 dX0_foretold_46 ?_
  refine il6 (pc := 49) dX0_foretold_49 ?_
  refine al0 (pc := 51) dX0_foretold_51 ?_
  refine il1 (pc := 52) dX0_foretold_52 ?_
  refine g_iconst (pc := 53) dX0_foretold_53 kc1 ?_
  refine g_isub (pc := 54) dX0_foretold_54 ?_
  refine il2 (pc := 55) dX0_foretold_55 ?_
  refine cl_X0_60 (pc := 56) (c_X0_partOf (b := 4) hf (by decide)) hf.1 (by decide) ⟨Nat.zero_le _, Nat.zero_le _⟩ (Nat.le_of_ble_eq_true rfl) dX0_foretold_56 ?_
  try rw [gA_tA, if_neg hmn]
  refine g_iast (pc := 59) 0 hf.2.2.2.2 (by decide) (rfl) (by decide) dX0_foretold_59 ?_
  try rw [gA_tA, if_pos rfl, tA_tA]
  refine ic6 (pc := 60) dX0_foretold_60 kc1 rfl ?_
  refine il4 (pc := 63) dX0_foretold_63 ?_
  refine g_ifeq 86 (pc := 65) dX0_foretold_65 (by decide) (fun c65 => absurd c65 (by decide)) (fun c65 => ?_)
  refine al0 (pc := 68) dX0_foretold_68 ?_
  refine gf_X0_15 (pc := 69) hf.1 hf.2.2.1 dX0_foretold_69 ?_
  refine il6 (pc := 72) dX0_foretold_72 ?_
  refine al0 (pc := 74) dX0_foretold_74 ?_
  refine il1 (pc := 75) dX0_foretold_75 ?_
  refine g_iconst (pc := 76) dX0_foretold_76 kc3 ?_
  refine g_isub (pc := 77) dX0_foretold_77 ?_
  refine il2 (pc := 78) dX0_foretold_78 ?_
  refine cl_X0_60 (pc := 79) (c_X0_partOf (b := 2) hf (by decide)) hf.1 (by decide) ⟨Nat.zero_le _, Nat.zero_le _⟩ (Nat.le_of_ble_eq_true rfl) dX0_foretold_79 ?_
  try rw [gA_tA, if_neg hmn]
  refine g_iast (pc := 82) 1 hf.2.2.2.2 (by decide) (rfl) (by decide) dX0_foretold_82 ?_
  try rw [gA_tA, if_pos rfl, tA_tA]
  refine ic6 (pc := 83) dX0_foretold_83 kc1 rfl ?_
  refine il4 (pc := 86) dX0_foretold_86 ?_
  refine g_ifeq 116 (pc := 88) dX0_foretold_88 (by decide) (fun c88 => absurd c88 (by decide)) (fun c88 => ?_)
  refine il5 (pc := 91) dX0_foretold_91 ?_
  refine g_ifeq 116 (pc := 93) dX0_foretold_93 (by decide) (fun c93 => ?_) (fun c93 => absurd (by decide) c93)
  refine al0 (pc := 116) dX0_foretold_116 ?_
  refine il6 (pc := 117) dX0_foretold_117 ?_
  refine cl_X0_63 (pc := 119) (c_X0_middle hf) hf.1 (by decide) ⟨Nat.zero_le _, Nat.zero_le _⟩ (Nat.le_of_ble_eq_true rfl) dX0_foretold_119 ?_
  exact retI (pc := 122) hR dX0_foretold_122 (by simp [midI, foI, gA_tA, upd]) (rfl)
theorem c_X0_foretold {l : Launch} {G : mG} {Z : mZ} {d : mD} {f mo ne b : Nat} {x : Int32} (hf : fld Z f mo ne) (hmn : mo ≠ ne) (hb : b < 6) : CtI l G yX0_foretold cX0_foretold 7 .int 2 44 [.ref f, .int (nI b), .int x] Z d (foI (gA d mo) x b) (tA d ne (foF (gA d mo) x (gA d ne) b)) := by
  match b, hb with
  | 0, _ => exact c_X0_foretold_0 hf hmn
  | 1, _ => exact c_X0_foretold_1 hf hmn
  | 2, _ => exact c_X0_foretold_2 hf hmn
  | 3, _ => exact c_X0_foretold_3 hf hmn
  | 4, _ => exact c_X0_foretold_4 hf hmn
  | 5, _ => exact c_X0_foretold_5 hf hmn
theorem c_X0_length {l : Launch} {G : mG} {Z : mZ} {d : mD} {f mo ne : Nat} (hf : fld Z f mo ne) (hmn : mo ≠ ne) : CtI l G yX0_length cX0_length 3 .int 3 70 [.ref f] Z d (lenL (gA d mo) 6 0 0) (tA d ne (neL (gA d mo) 6 0 (gA d ne))) := by
  refine enterI RX0 2 [some (.ref f), none, none] (by decide) rfl (rfl) rfl rfl (fun X hR => ?_)
  refine g_iconst (pc := 0) dX0_length_0 kc0 ?_
  refine is1 (pc := 1) dX0_length_1 rfl ?_
  refine g_iconst (pc := 2) dX0_length_2 kc0 ?_
  refine is2 (pc := 3) dX0_length_3 rfl ?_
  have L4 : ∀ (n i : Nat) (acc : Int32) (g : Nat → Int32), i + n = 6 → (lenL (gA d mo) n i acc = lenL (gA d mo) 6 0 0) → (neL (gA d mo) n i g = neL (gA d mo) 6 0 (gA d ne)) → mGo l G (mRm 3 70) X RX0 cX0_length 3 0 0 Z 4 [some (.ref f), some (.int acc), some (.int (nI i))] [] (tA d ne g) := by
    intro n; induction n with
    | zero =>
      intro i acc g hin4 hF hG
      refine il2 (pc := 4) dX0_length_4 ?_
      refine g_bipush (pc := 5) dX0_length_5 kb6 ?_
      refine g_icmpge 60 (pc := 7) dX0_length_7 (by decide) (fun c7 => ?_) (fun c7 => absurd (nI_le (a := 6) (by omega) (by omega)) c7)
      refine il1 (pc := 60) dX0_length_60 ?_
      exact retI (pc := 61) hR dX0_length_61 (hF) (by rw [← hG]; rfl)
    | succ n ih4 =>
      intro i acc g hin4 hF hG
      refine il2 (pc := 4) dX0_length_4 ?_
      refine g_bipush (pc := 5) dX0_length_5 kb6 ?_
      refine g_icmpge 60 (pc := 7) dX0_length_7 (by decide) (fun c7 => absurd c7 (nI_ge (b := 6) (by omega) (by omega))) (fun c7 => ?_)
      refine il1 (pc := 10) dX0_length_10 ?_
      refine al0 (pc := 11) dX0_length_11 ?_
      refine gf_X0_9 (pc := 12) hf.1 hf.2.1 dX0_length_12 ?_
      refine il2 (pc := 15) dX0_length_15 ?_
      refine g_iald (pc := 16) i hf.2.2.2.1 (by omega) (rfl) (by decide) dX0_length_16 ?_
      rw [gA_tA, if_neg hmn]
      refine cl_X0_38 (pc := 17) (c_X8_xOf) (by decide) ⟨Nat.zero_le _, Nat.zero_le _⟩ (Nat.le_of_ble_eq_true rfl) dX0_length_17 ?_
      refine al0 (pc := 20) dX0_length_20 ?_
      refine il2 (pc := 21) dX0_length_21 ?_
      refine g_iconst (pc := 22) dX0_length_22 kc1 ?_
      refine cl_X0_53 (pc := 23) (c_X0_foretold (b := i) hf hmn (by omega)) hf.1 (by decide) ⟨Nat.zero_le _, Nat.zero_le _⟩ (Nat.le_of_ble_eq_true rfl) dX0_length_23 ?_
      rw [gA_tA, if_neg hmn, gA_tA, if_pos rfl, tA_tA]
      refine g_isub (pc := 26) dX0_length_26 ?_
      refine cl_X0_57 (pc := 27) (c_X0_bitsOf) (by decide) ⟨Nat.zero_le _, Nat.zero_le _⟩ (Nat.le_of_ble_eq_true rfl) dX0_length_27 ?_
      refine g_iadd (pc := 30) dX0_length_30 ?_
      refine is1 (pc := 31) dX0_length_31 rfl ?_
      refine il1 (pc := 32) dX0_length_32 ?_
      refine al0 (pc := 33) dX0_length_33 ?_
      refine gf_X0_9 (pc := 34) hf.1 hf.2.1 dX0_length_34 ?_
      refine il2 (pc := 37) dX0_length_37 ?_
      refine g_iald (pc := 38) i hf.2.2.2.1 (by omega) (rfl) (by decide) dX0_length_38 ?_
      rw [gA_tA, if_neg hmn]
      refine cl_X0_42 (pc := 39) (c_X8_yOf) (by decide) ⟨Nat.zero_le _, Nat.zero_le _⟩ (Nat.le_of_ble_eq_true rfl) dX0_length_39 ?_
      refine al0 (pc := 42) dX0_length_42 ?_
      refine il2 (pc := 43) dX0_length_43 ?_
      refine g_iconst (pc := 44) dX0_length_44 kc0 ?_
      refine cl_X0_53 (pc := 45) (c_X0_foretold (b := i) hf hmn (by omega)) hf.1 (by decide) ⟨Nat.zero_le _, Nat.zero_le _⟩ (Nat.le_of_ble_eq_true rfl) dX0_length_45 ?_
      rw [gA_tA, if_neg hmn, gA_tA, if_pos rfl, tA_tA]
      refine g_isub (pc := 48) dX0_length_48 ?_
      refine cl_X0_57 (pc := 49) (c_X0_bitsOf) (by decide) ⟨Nat.zero_le _, Nat.zero_le _⟩ (Nat.le_of_ble_eq_true rfl) dX0_length_49 ?_
      refine g_iadd (pc := 52) dX0_length_52 ?_
      refine is1 (pc := 53) dX0_length_53 rfl ?_
      refine ic2 (pc := 54) dX0_length_54 kc1 rfl ?_
      refine g_goto 4 (pc := 57) dX0_length_57 (by decide) ?_
      rw [nI_1]
      exact ih4 (i + 1) _ _ (by omega) hF hG
  have q9 := L4 6 0 0 (gA d ne) (by omega) rfl rfl
  rw [tA_self] at q9
  exact q9
theorem c_X0_lacks {l : Launch} {G : mG} {Z : mZ} {d : mD} {f mo ne s p q a b : Nat} (hf : fld Z f mo ne) (hs : scn Z s p q a b) : CtI l G yX0_lacks cX0_lacks 7 .int 2 45 [.ref f, .ref s] Z d (cntL (lkP (gA d mo) (gA d a) (gA d b)) 96 0 0) d := by
  refine enterI RX0 5 [some (.ref f), some (.ref s), none, none, none, none, none] (by decide) rfl (rfl) rfl rfl (fun X hR => ?_)
  refine g_iconst (pc := 0) dX0_lacks_0 kc0 ?_
  refine is2 (pc := 1) dX0_lacks_1 rfl ?_
  refine g_iconst (pc := 2) dX0_lacks_2 kc0 ?_
  refine is3 (pc := 3) dX0_lacks_3 rfl ?_
  have L4 : ∀ (n i : Nat) (acc : Int32), i + n = 96 → (cntL (lkP (gA d mo) (gA d a) (gA d b)) n i acc = cntL (lkP (gA d mo) (gA d a) (gA d b)) 96 0 0) → mGo l G (mRm 2 45) X RX0 cX0_lacks 7 0 0 Z 4 [some (.ref f), some (.ref s), some (.int acc), some (.int (nI i)), none, none, none] [] d := by
    intro n; induction n with
    | zero =>
      intro i acc hin4 hF
      refine il3 (pc := 4) dX0_lacks_4 ?_
      refine g_bipush (pc := 5) dX0_lacks_5 kb96 ?_
      refine g_icmpge 82 (pc := 7) dX0_lacks_7 (by decide) (fun c7 => ?_) (fun c7 => absurd (nI_le (a := 96) (by omega) (by omega)) c7)
      refine il2 (pc := 82) dX0_lacks_82 ?_
      exact retI (pc := 83) hR dX0_lacks_83 (hF) (rfl)
    | succ n ih4 =>
      intro i acc hin4 hF
      refine il3 (pc := 4) dX0_lacks_4 ?_
      refine g_bipush (pc := 5) dX0_lacks_5 kb96 ?_
      refine g_icmpge 82 (pc := 7) dX0_lacks_7 (by decide) (fun c7 => absurd c7 (nI_ge (b := 96) (by omega) (by omega))) (fun c7 => ?_)
      refine il3 (pc := 10) dX0_lacks_10 ?_
      refine g_bipush (pc := 11) dX0_lacks_11 kb12 ?_
      refine g_irem (pc := 13) dX0_lacks_13 (by decide) ?_
      refine is4 (pc := 14) dX0_lacks_14 rfl ?_
      refine il3 (pc := 16) dX0_lacks_16 ?_
      refine g_bipush (pc := 17) dX0_lacks_17 kb12 ?_
      refine g_idiv (pc := 19) dX0_lacks_19 (by decide) ?_
      refine is5 (pc := 20) dX0_lacks_20 rfl ?_
      refine al0 (pc := 22) dX0_lacks_22 ?_
      refine gf_X0_9 (pc := 23) hf.1 hf.2.1 dX0_lacks_23 ?_
      refine il4 (pc := 26) dX0_lacks_26 ?_
      refine il5 (pc := 28) dX0_lacks_28 ?_
      refine cl_X0_28 (pc := 30) (c_X8_blockAt) (by decide) ⟨Nat.zero_le _, Nat.zero_le _⟩ (Nat.le_of_ble_eq_true rfl) dX0_lacks_30 ?_
      refine g_iald (pc := 33) (bN i) hf.2.2.2.1 (bN_lt (by omega)) (bN_ix (by omega)) (by decide) dX0_lacks_33 ?_
      refine is6 (pc := 34) dX0_lacks_34 rfl ?_
      refine al1 (pc := 36) dX0_lacks_36 ?_
      refine gf_X0_32 (pc := 37) hs.1 hs.2.1 dX0_lacks_37 ?_
      refine il4 (pc := 40) dX0_lacks_40 ?_
      refine il6 (pc := 42) dX0_lacks_42 ?_
      refine cl_X0_38 (pc := 44) (c_X8_xOf) (by decide) ⟨Nat.zero_le _, Nat.zero_le _⟩ (Nat.le_of_ble_eq_true rfl) dX0_lacks_44 ?_
      refine g_iadd (pc := 47) dX0_lacks_47 ?_
      refine il5 (pc := 48) dX0_lacks_48 ?_
      refine il6 (pc := 50) dX0_lacks_50 ?_
      refine cl_X0_42 (pc := 52) (c_X8_yOf) (by decide) ⟨Nat.zero_le _, Nat.zero_le _⟩ (Nat.le_of_ble_eq_true rfl) dX0_lacks_52 ?_
      refine g_iadd (pc := 55) dX0_lacks_55 ?_
      refine cl_X0_45 (pc := 56) (c_X2_at hs.2.2.2.1) hs.2.2.2.1.1 (by decide) ⟨Nat.zero_le _, Nat.zero_le _⟩ (Nat.le_of_ble_eq_true rfl) dX0_lacks_56 ?_
      refine al1 (pc := 59) dX0_lacks_59 ?_
      refine gf_X0_50 (pc := 60) hs.1 hs.2.2.1 dX0_lacks_60 ?_
      refine il4 (pc := 63) dX0_lacks_63 ?_
      refine il5 (pc := 65) dX0_lacks_65 ?_
      refine cl_X0_45 (pc := 67) (c_X2_at hs.2.2.2.2) hs.2.2.2.2.1 (by decide) ⟨Nat.zero_le _, Nat.zero_le _⟩ (Nat.le_of_ble_eq_true rfl) dX0_lacks_67 ?_
      refine g_icmpeq 76 (pc := 70) dX0_lacks_70 (by decide) (fun c70 => ?_) (fun c70 => ?_)
      · skip
        refine ic3 (pc := 76) dX0_lacks_76 kc1 rfl ?_
        refine g_goto 4 (pc := 79) dX0_lacks_79 (by decide) ?_
        rw [nI_1]
        refine dr4 ?_
        refine dr5 ?_
        refine dr6 ?_
        exact ih4 (i + 1) _ (by omega) (by rw [← hF, cntL]; simp [lkP, c70])
      · skip
        refine ic2 (pc := 73) dX0_lacks_73 kc1 rfl ?_
        refine ic3 (pc := 76) dX0_lacks_76 kc1 rfl ?_
        refine g_goto 4 (pc := 79) dX0_lacks_79 (by decide) ?_
        rw [nI_1]
        refine dr4 ?_
        refine dr5 ?_
        refine dr6 ?_
        exact ih4 (i + 1) _ (by omega) (by rw [← hF, cntL]; simp [lkP, c70])
  exact L4 96 0 0 (by omega) rfl
theorem c_X0_fill {l : Launch} {G : mG} {Z : mZ} {d : mD} {f mo ne s p q a b sr : Nat} (hf : fld Z f mo ne) (hr : ob Z 4 sr) (hs : scn Z s p q a b) (hma : a ≠ mo) (hmb : b ≠ mo) : CtV l G yX0_fill cX0_fill 4 5 128 [.ref f, .ref s, .ref sr] Z d (fiD d sr mo (fiL (gI d 98 s) (gA d a) (gA d b) 6 0 (gA d mo) (gI d 128 sr, gI d 129 sr, gI d 130 sr, gI d 131 sr))) := by
  refine enterV RX0 1 [some (.ref f), some (.ref s), some (.ref sr), none] (by decide) rfl rfl rfl (fun X hR => ?_)
  refine g_iconst (pc := 0) dX0_fill_0 kc0 ?_
  refine is3 (pc := 1) dX0_fill_1 rfl ?_
  have L2 : ∀ (n i : Nat) (g : Nat → Int32) (qq : Int32 × Int32 × Int32 × Int32), i + n = 6 → (fiL (gI d 98 s) (gA d a) (gA d b) n i g qq = fiL (gI d 98 s) (gA d a) (gA d b) 6 0 (gA d mo) (gI d 128 sr, gI d 129 sr, gI d 130 sr, gI d 131 sr)) → mGo l G (mRm 5 128) X RX0 cX0_fill 4 0 0 Z 2 [some (.ref f), some (.ref s), some (.ref sr), some (.int (nI i))] [] (tA (seT d sr qq) mo g) := by
    intro n; induction n with
    | zero =>
      intro i g qq hin2 hF
      refine il3 (pc := 2) dX0_fill_2 ?_
      refine g_bipush (pc := 3) dX0_fill_3 kb6 ?_
      refine g_icmpge 30 (pc := 5) dX0_fill_5 (by decide) (fun c5 => ?_) (fun c5 => absurd (nI_le (a := 6) (by omega) (by omega)) c5)
      exact retV (pc := 30) hR dX0_fill_30 (by rw [← hF]; rfl)
    | succ n ih2 =>
      intro i g qq hin2 hF
      refine il3 (pc := 2) dX0_fill_2 ?_
      refine g_bipush (pc := 3) dX0_fill_3 kb6 ?_
      refine g_icmpge 30 (pc := 5) dX0_fill_5 (by decide) (fun c5 => absurd c5 (nI_ge (b := 6) (by omega) (by omega))) (fun c5 => ?_)
      refine al2 (pc := 8) dX0_fill_8 ?_
      refine al1 (pc := 9) dX0_fill_9 ?_
      refine il3 (pc := 10) dX0_fill_10 ?_
      refine cl_X0_18 (pc := 11) (c_X4_best hr hs) hr (by decide) ⟨Nat.zero_le _, Nat.zero_le _⟩ (Nat.le_of_ble_eq_true rfl) dX0_fill_11 ?_
      rw [seT_tA, seT_seT, gI_tA, gI_seT _ _ _ _ (Or.inl (by decide)), gA_tA, if_neg hma, gA_tA, if_neg hmb, gA_seT, gA_seT]
      refine al0 (pc := 14) dX0_fill_14 ?_
      refine gf_X0_9 (pc := 15) hf.1 hf.2.1 dX0_fill_15 ?_
      refine il3 (pc := 18) dX0_fill_18 ?_
      refine al2 (pc := 19) dX0_fill_19 ?_
      refine gf_X0_24 (pc := 20) hr dX0_fill_20 ?_
      rw [gI_tA, gI_seT0]
      refine g_iast (pc := 23) i hf.2.2.2.1 (by omega) (rfl) (by decide) dX0_fill_23 ?_
      rw [gA_tA, if_pos rfl, tA_tA]
      refine ic3 (pc := 24) dX0_fill_24 kc1 rfl ?_
      refine g_goto 2 (pc := 27) dX0_fill_27 (by decide) ?_
      rw [nI_1]
      exact ih2 (i + 1) _ _ (by omega) hF
  have q9 := L2 6 0 (gA d mo) (gI d 128 sr, gI d 129 sr, gI d 130 sr, gI d 131 sr) (by omega) rfl
  rw [show seT d sr (gI d 128 sr, gI d 129 sr, gI d 130 sr, gI d 131 sr) = d from se_self d sr, tA_self] at q9
  exact q9
