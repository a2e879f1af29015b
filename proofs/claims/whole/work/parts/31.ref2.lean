theorem clN_nI {a m : Nat} (h : a ≤ m) (hm : m < 2 ^ 31) : clN (nI a) m = a := by
  unfold clN
  rw [if_neg (nI_pos (by omega)), if_neg (nI_nlt h hm), nI_clamp (by omega)]
theorem pixN (f : Nat → Int32) {a b : Nat} (ha : a ≤ 11) (hb : b ≤ 7) : pix f (nI a) (nI b) = f (12 * b + a) := by
  unfold pix
  rw [clN_nI ha (by decide), clN_nI hb (by decide)]
theorem hpix_eq (f : Nat → Int32) (c r : Int32) : (pix f (2 * nI (clN c 5)) (2 * nI (clN r 3)) + pix f (2 * nI (clN c 5) + 1) (2 * nI (clN r 3)) + pix f (2 * nI (clN c 5)) (2 * nI (clN r 3) + 1) + pix f (2 * nI (clN c 5) + 1) (2 * nI (clN r 3) + 1)) / 4 = hpix f c r := by
  have h1 := clN_le c (m := 5) (by decide)
  have h2 := clN_le r (m := 3) (by decide)
  rw [show (2 : Int32) * nI (clN c 5) = nI (2 * clN c 5) from pk_mul 2 _, show (2 : Int32) * nI (clN r 3) = nI (2 * clN r 3) from pk_mul 2 _, nI_1, nI_1, pixN f (by omega) (by omega), pixN f (by omega) (by omega), pixN f (by omega) (by omega), pixN f (by omega) (by omega)]
  unfold hpix
  rw [show 12 * (2 * clN r 3) + 2 * clN c 5 = 24 * clN r 3 + 2 * clN c 5 by omega, show 12 * (2 * clN r 3) + (2 * clN c 5 + 1) = 24 * clN r 3 + 2 * clN c 5 + 1 by omega, show 12 * (2 * clN r 3 + 1) + 2 * clN c 5 = 24 * clN r 3 + 2 * clN c 5 + 12 by omega, show 12 * (2 * clN r 3 + 1) + (2 * clN c 5 + 1) = 24 * clN r 3 + 2 * clN c 5 + 12 + 1 by omega]
theorem hpix0 (f : Nat → Int32) (c r : Int32) : hpix (fun k => f (0 + k)) c r = hpix f c r := by simp only [hpix, Nat.zero_add]
def rsdI (fo fn : Nat → Int32) (b m i : Int32) : Int32 := mAbs (hpix fn (2 * mRem b 3 + mRem i 2) (2 * (b / 3) + i / 2) - hpix fo (2 * mRem b 3 + mRem i 2 + xOfI m) (2 * (b / 3) + i / 2 + yOfI m))
/-- the first of the order that costs least, as the reference finds it -/
def rgL (o : Nat → Int32) (own : Int32 → Int32) : Nat → Nat → Int32 → Int32 → Int32 × Int32
  | 0, _, ro, le => (ro, le)
  | n + 1, t, ro, le => if own (o t) < le then rgL o own n (t + 1) (o t) (own (o t)) else rgL o own n (t + 1) ro le
def ow1 (fo fn : Nat → Int32) (b m : Int32) : Int32 := if mAbs (xOfI m) < 2 ∧ mAbs (yOfI m) < 2 then accL (rsdI fo fn b m) 4 0 0 else 99999
def ow2 (k : Int32) (fo fn : Nat → Int32) (b ro m : Int32) : Int32 := if mAbs (xOfI m - 2 * xOfI ro) < 2 ∧ mAbs (yOfI m - 2 * yOfI ro) < 2 then rcC k fo fn b m else 99999
def rqR (o : Nat → Int32) (fo fn : Nat → Int32) (b : Int32) : Int32 := (rgL o (ow1 fo fn b) 49 0 (-1000004) 99999).1
def rqE (o : Nat → Int32) (k : Int32) (fo fn : Nat → Int32) (b : Int32) : Int32 := (rgL o (ow2 k fo fn b (rqR o fo fn b)) 49 0 (-1000004) 99999).1
def rhL (fo fn : Nat → Int32) (b m : Int32) : Nat → Nat → Int32 → Int32 → Int32 × Int32
  | 0, _, fd, le => (fd, le)
  | n + 1, t, fd, le => if accL (hcI fo fn b m (mRem (nI t) 3 - 1) (nI t / 3 - 1)) 16 0 0 < le then rhL fo fn b m n (t + 1) (nI t) (accL (hcI fo fn b m (mRem (nI t) 3 - 1) (nI t / 3 - 1)) 16 0 0) else rhL fo fn b m n (t + 1) fd le
def layL (o : Nat → Int32) (k : Int32) (fo fn : Nat → Int32) : Nat → Nat → (Nat → Int32) → (Nat → Int32)
  | 0, _, g => g
  | n + 1, b, g => layL o k fo fn n (b + 1) (upd g b (rbE o k fo fn (nI b)))
def rhR (q : Int32 × Int32) (w : Int32) : Int32 := if w = 0 then q.2 else q.1
def leI (a b c : Int32) : Int32 := if a < b then (if a < c then a else c) else (if b < c then b else c)
def moI (a b c : Int32) : Int32 := if b < a then (if c < a then a else c) else (if c < b then b else c)
def rfI (mv : Nat → Int32) (x : Int32) : Nat → Int32
  | 1 => leI (ptI (mv 0) x) 9 9
  | 2 => leI (ptI (mv 1) x) 9 9
  | 3 => leI 9 (ptI (mv 0) x) (ptI (mv 1) x)
  | 4 => ptI (mv 3) x + ptI (mv 1) x + ptI (mv 2) x - leI (ptI (mv 3) x) (ptI (mv 1) x) (ptI (mv 2) x) - moI (ptI (mv 3) x) (ptI (mv 1) x) (ptI (mv 2) x)
  | 5 => leI (ptI (mv 4) x) (ptI (mv 2) x) 9
  | _ => 0
theorem c_X9_halfDot {l : Launch} {G : mG} {Z : mZ} {d : mD} {m nw od fd tp rd ah kp ka ln sz it mv : Nat} {pb : Nat} {c r : Int32} (hm : mdS Z m nw od fd tp rd ah kp ka ln sz it mv) (hpb : pb ≤ 96) : CtI l G yX9_halfDot cX9_halfDot 6 .int 2 44 [.ref m, .int (nI pb), .int c, .int r] Z d (hpix (fun k => gA d nw (pb + k)) c r) d := by
  refine enterI RX9 2 [some (.ref m), some (.int (nI pb)), some (.int c), some (.int r), none, none] (by decide) rfl (rfl) rfl rfl (fun X hR => ?_)
  refine g_iconst (pc := 0) dX9_halfDot_0 kc2 ?_
  refine il2 (pc := 1) dX9_halfDot_1 ?_
  refine g_iconst (pc := 2) dX9_halfDot_2 kc5 ?_
  refine cl_X9_64 (pc := 3) (c_X9_within (w := 5) (by decide)) (by decide) ⟨Nat.zero_le _, Nat.zero_le _⟩ (Nat.le_of_ble_eq_true rfl) dX9_halfDot_3 ?_
  refine g_imul (pc := 6) dX9_halfDot_6 ?_
  refine is4 (pc := 7) dX9_halfDot_7 rfl ?_
  refine g_iconst (pc := 9) dX9_halfDot_9 kc2 ?_
  refine il3 (pc := 10) dX9_halfDot_10 ?_
  refine g_iconst (pc := 11) dX9_halfDot_11 kc3 ?_
  refine cl_X9_64 (pc := 12) (c_X9_within (w := 3) (by decide)) (by decide) ⟨Nat.zero_le _, Nat.zero_le _⟩ (Nat.le_of_ble_eq_true rfl) dX9_halfDot_12 ?_
  refine g_imul (pc := 15) dX9_halfDot_15 ?_
  refine is5 (pc := 16) dX9_halfDot_16 rfl ?_
  refine al0 (pc := 18) dX9_halfDot_18 ?_
  refine il1 (pc := 19) dX9_halfDot_19 ?_
  refine il4 (pc := 20) dX9_halfDot_20 ?_
  refine il5 (pc := 22) dX9_halfDot_22 ?_
  refine cl_X9_76 (pc := 24) (c_X9_dotAt hm hpb) hm.o9 (by decide) ⟨Nat.zero_le _, Nat.zero_le _⟩ (Nat.le_of_ble_eq_true rfl) dX9_halfDot_24 ?_
  refine al0 (pc := 27) dX9_halfDot_27 ?_
  refine il1 (pc := 28) dX9_halfDot_28 ?_
  refine il4 (pc := 29) dX9_halfDot_29 ?_
  refine g_iconst (pc := 31) dX9_halfDot_31 kc1 ?_
  refine g_iadd (pc := 32) dX9_halfDot_32 ?_
  refine il5 (pc := 33) dX9_halfDot_33 ?_
  refine cl_X9_76 (pc := 35) (c_X9_dotAt hm hpb) hm.o9 (by decide) ⟨Nat.zero_le _, Nat.zero_le _⟩ (Nat.le_of_ble_eq_true rfl) dX9_halfDot_35 ?_
  refine g_iadd (pc := 38) dX9_halfDot_38 ?_
  refine al0 (pc := 39) dX9_halfDot_39 ?_
  refine il1 (pc := 40) dX9_halfDot_40 ?_
  refine il4 (pc := 41) dX9_halfDot_41 ?_
  refine il5 (pc := 43) dX9_halfDot_43 ?_
  refine g_iconst (pc := 45) dX9_halfDot_45 kc1 ?_
  refine g_iadd (pc := 46) dX9_halfDot_46 ?_
  refine cl_X9_76 (pc := 47) (c_X9_dotAt hm hpb) hm.o9 (by decide) ⟨Nat.zero_le _, Nat.zero_le _⟩ (Nat.le_of_ble_eq_true rfl) dX9_halfDot_47 ?_
  refine g_iadd (pc := 50) dX9_halfDot_50 ?_
  refine al0 (pc := 51) dX9_halfDot_51 ?_
  refine il1 (pc := 52) dX9_halfDot_52 ?_
  refine il4 (pc := 53) dX9_halfDot_53 ?_
  refine g_iconst (pc := 55) dX9_halfDot_55 kc1 ?_
  refine g_iadd (pc := 56) dX9_halfDot_56 ?_
  refine il5 (pc := 57) dX9_halfDot_57 ?_
  refine g_iconst (pc := 59) dX9_halfDot_59 kc1 ?_
  refine g_iadd (pc := 60) dX9_halfDot_60 ?_
  refine cl_X9_76 (pc := 61) (c_X9_dotAt hm hpb) hm.o9 (by decide) ⟨Nat.zero_le _, Nat.zero_le _⟩ (Nat.le_of_ble_eq_true rfl) dX9_halfDot_61 ?_
  refine g_iadd (pc := 64) dX9_halfDot_64 ?_
  refine g_iconst (pc := 65) dX9_halfDot_65 kc4 ?_
  refine g_idiv (pc := 66) dX9_halfDot_66 (by decide) ?_
  exact retI (pc := 67) hR dX9_halfDot_67 (hpix_eq _ _ _) (rfl)
theorem c_X9_halfCost {l : Launch} {G : mG} {Z : mZ} {d : mD} {m nw od fd tp rd ah kp ka ln sz it mv : Nat} {b mo : Int32} (hm : mdS Z m nw od fd tp rd ah kp ka ln sz it mv) : CtI l G yX9_halfCost cX9_halfCost 7 .int 3 69 [.ref m, .int b, .int mo] Z d (accL (rsdI (gA d nw) (fun k => gA d nw (96 + k)) b mo) 4 0 0) d := by
  refine enterI RX9 4 [some (.ref m), some (.int b), some (.int mo), none, none, none, none] (by decide) rfl (rfl) rfl rfl (fun X hR => ?_)
  refine g_iconst (pc := 0) dX9_halfCost_0 kc0 ?_
  refine is3 (pc := 1) dX9_halfCost_1 rfl ?_
  refine g_iconst (pc := 2) dX9_halfCost_2 kc0 ?_
  refine is4 (pc := 3) dX9_halfCost_3 rfl ?_
  have L5 : ∀ (n i : Nat) (acc : Int32), i + n = 4 → (accL (rsdI (gA d nw) (fun k => gA d nw (96 + k)) b mo) n i acc = accL (rsdI (gA d nw) (fun k => gA d nw (96 + k)) b mo) 4 0 0) → mGo l G (mRm 3 69) X RX9 cX9_halfCost 7 0 0 Z 5 [some (.ref m), some (.int b), some (.int mo), some (.int acc), some (.int (nI i)), none, none] [] d := by
    intro n; induction n with
    | zero =>
      intro i acc hin5 hF
      refine il4 (pc := 5) dX9_halfCost_5 ?_
      refine g_iconst (pc := 7) dX9_halfCost_7 kc4 ?_
      refine g_icmpge 77 (pc := 8) dX9_halfCost_8 (by decide) (fun c8 => ?_) (fun c8 => absurd (nI_le (a := 4) (by omega) (by omega)) c8)
      refine il3 (pc := 77) dX9_halfCost_77 ?_
      exact retI (pc := 78) hR dX9_halfCost_78 (hF) (rfl)
    | succ n ih5 =>
      intro i acc hin5 hF
      refine il4 (pc := 5) dX9_halfCost_5 ?_
      refine g_iconst (pc := 7) dX9_halfCost_7 kc4 ?_
      refine g_icmpge 77 (pc := 8) dX9_halfCost_8 (by decide) (fun c8 => absurd c8 (nI_ge (b := 4) (by omega) (by omega))) (fun c8 => ?_)
      refine g_iconst (pc := 11) dX9_halfCost_11 kc2 ?_
      refine il1 (pc := 12) dX9_halfCost_12 ?_
      refine g_iconst (pc := 13) dX9_halfCost_13 kc3 ?_
      refine g_irem (pc := 14) dX9_halfCost_14 (by decide) ?_
      refine g_imul (pc := 15) dX9_halfCost_15 ?_
      refine il4 (pc := 16) dX9_halfCost_16 ?_
      refine g_iconst (pc := 18) dX9_halfCost_18 kc2 ?_
      refine g_irem (pc := 19) dX9_halfCost_19 (by decide) ?_
      refine g_iadd (pc := 20) dX9_halfCost_20 ?_
      refine is5 (pc := 21) dX9_halfCost_21 rfl ?_
      refine g_iconst (pc := 23) dX9_halfCost_23 kc2 ?_
      refine il1 (pc := 24) dX9_halfCost_24 ?_
      refine g_iconst (pc := 25) dX9_halfCost_25 kc3 ?_
      refine g_idiv (pc := 26) dX9_halfCost_26 (by decide) ?_
      refine g_imul (pc := 27) dX9_halfCost_27 ?_
      refine il4 (pc := 28) dX9_halfCost_28 ?_
      refine g_iconst (pc := 30) dX9_halfCost_30 kc2 ?_
      refine g_idiv (pc := 31) dX9_halfCost_31 (by decide) ?_
      refine g_iadd (pc := 32) dX9_halfCost_32 ?_
      refine is6 (pc := 33) dX9_halfCost_33 rfl ?_
      refine il3 (pc := 35) dX9_halfCost_35 ?_
      refine al0 (pc := 36) dX9_halfCost_36 ?_
      refine g_bipush (pc := 37) dX9_halfCost_37 kb96 ?_
      refine il5 (pc := 39) dX9_halfCost_39 ?_
      refine il6 (pc := 41) dX9_halfCost_41 ?_
      refine cl_X9_105 (pc := 43) (c_X9_halfDot (pb := 96) hm (by decide)) hm.o9 (by decide) ⟨Nat.zero_le _, Nat.zero_le _⟩ (Nat.le_of_ble_eq_true rfl) dX9_halfCost_43 ?_
      refine al0 (pc := 46) dX9_halfCost_46 ?_
      refine g_iconst (pc := 47) dX9_halfCost_47 kc0 ?_
      refine il5 (pc := 48) dX9_halfCost_48 ?_
      refine il2 (pc := 50) dX9_halfCost_50 ?_
      refine cl_X9_55 (pc := 51) (c_X9_xOf) (by decide) ⟨Nat.zero_le _, Nat.zero_le _⟩ (Nat.le_of_ble_eq_true rfl) dX9_halfCost_51 ?_
      refine g_iadd (pc := 54) dX9_halfCost_54 ?_
      refine il6 (pc := 55) dX9_halfCost_55 ?_
      refine il2 (pc := 57) dX9_halfCost_57 ?_
      refine cl_X9_61 (pc := 58) (c_X9_yOf) (by decide) ⟨Nat.zero_le _, Nat.zero_le _⟩ (Nat.le_of_ble_eq_true rfl) dX9_halfCost_58 ?_
      refine g_iadd (pc := 61) dX9_halfCost_61 ?_
      refine cl_X9_105 (pc := 62) (c_X9_halfDot (pb := 0) hm (by decide)) hm.o9 (by decide) ⟨Nat.zero_le _, Nat.zero_le _⟩ (Nat.le_of_ble_eq_true rfl) dX9_halfCost_62 ?_
      rw [hpix0]
      refine g_isub (pc := 65) dX9_halfCost_65 ?_
      refine cl_X9_58 (pc := 66) (c_X9_sized) (by decide) ⟨Nat.zero_le _, Nat.zero_le _⟩ (Nat.le_of_ble_eq_true rfl) dX9_halfCost_66 ?_
      refine g_iadd (pc := 69) dX9_halfCost_69 ?_
      refine is3 (pc := 70) dX9_halfCost_70 rfl ?_
      refine ic4 (pc := 71) dX9_halfCost_71 kc1 rfl ?_
      refine g_goto 5 (pc := 74) dX9_halfCost_74 (by decide) ?_
      rw [nI_1]
      refine dr5 ?_
      refine dr6 ?_
      exact ih5 (i + 1) _ (by omega) hF
  exact L5 4 0 0 (by omega) rfl
theorem c_X9_quick {l : Launch} {G : mG} {Z : mZ} {d : mD} {m nw od fd tp rd ah kp ka ln sz it mv : Nat} {b : Int32} (hm : mdS Z m nw od fd tp rd ah kp ka ln sz it mv) : CtI l G yX9_quick cX9_quick 9 .int 4 97 [.ref m, .int b] Z d (rqE (gA d od) (gA d nw 192) (gA d nw) (fun k => gA d nw (96 + k)) b) d := by
  refine enterI RX9 7 [some (.ref m), some (.int b), none, none, none, none, none, none, none] (by decide) rfl (rfl) rfl rfl (fun X hR => ?_)
  refine g_ldc (pc := 0) dX9_quick_0 wk_X9_108 ?_
  refine is2 (pc := 2) dX9_quick_2 rfl ?_
  refine g_ldc (pc := 3) dX9_quick_3 wk_X9_109 ?_
  refine is3 (pc := 5) dX9_quick_5 rfl ?_
  refine g_iconst (pc := 6) dX9_quick_6 kc0 ?_
  refine is4 (pc := 7) dX9_quick_7 rfl ?_
  have L9 : ∀ (n i : Nat) (ro : Int32) (le : Int32), i + n = 49 → (rgL (gA d od) (ow1 (gA d nw) (fun k => gA d nw (96 + k)) b) n i ro le = rgL (gA d od) (ow1 (gA d nw) (fun k => gA d nw (96 + k)) b) 49 0 (-1000004) 99999) → mGo l G (mRm 4 97) X RX9 cX9_quick 9 0 0 Z 9 [some (.ref m), some (.int b), some (.int ro), some (.int le), some (.int (nI i)), none, none, none, none] [] d := by
    intro n; induction n with
    | zero =>
      intro i ro le hin9 hF
      have hro : ro = rqR (gA d od) (gA d nw) (fun k => gA d nw (96 + k)) b := by rw [rqR, ← hF]; rfl
      subst hro
      refine il4 (pc := 9) dX9_quick_9 ?_
      refine g_bipush (pc := 11) dX9_quick_11 kb49 ?_
      refine g_icmpge 107 (pc := 13) dX9_quick_13 (by decide) (fun c13 => ?_) (fun c13 => absurd (nI_le (a := 49) (by omega) (by omega)) c13)
      refine g_ldc (pc := 107) dX9_quick_107 wk_X9_108 ?_
      refine is4 (pc := 109) dX9_quick_109 rfl ?_
      refine g_ldc (pc := 111) dX9_quick_111 wk_X9_109 ?_
      refine is3 (pc := 113) dX9_quick_113 rfl ?_
      refine g_iconst (pc := 114) dX9_quick_114 kc0 ?_
      refine is5 (pc := 115) dX9_quick_115 rfl ?_
      have L117 : ∀ (n3 i3 : Nat) (be3 : Int32) (le3 : Int32), i3 + n3 = 49 → (rgL (gA d od) (ow2 (gA d nw 192) (gA d nw) (fun k => gA d nw (96 + k)) b (rqR (gA d od) (gA d nw) (fun k => gA d nw (96 + k)) b)) n3 i3 be3 le3 = rgL (gA d od) (ow2 (gA d nw 192) (gA d nw) (fun k => gA d nw (96 + k)) b (rqR (gA d od) (gA d nw) (fun k => gA d nw (96 + k)) b)) 49 0 (-1000004) 99999) → mGo l G (mRm 4 97) X RX9 cX9_quick 9 0 0 Z 117 [some (.ref m), some (.int b), some (.int (rqR (gA d od) (gA d nw) (fun k => gA d nw (96 + k)) b)), some (.int le3), some (.int be3), some (.int (nI i3)), none, none, none] [] d := by
        intro n3; induction n3 with
        | zero =>
          intro i3 be3 le3 hin117 hG
          refine il5 (pc := 117) dX9_quick_117 ?_
          refine g_bipush (pc := 119) dX9_quick_119 kb49 ?_
          refine g_icmpge 239 (pc := 121) dX9_quick_121 (by decide) (fun c121 => ?_) (fun c121 => absurd (nI_le (a := 49) (by omega) (by omega)) c121)
          refine il4 (pc := 239) dX9_quick_239 ?_
          exact retI (pc := 241) hR dX9_quick_241 (by rw [rqE, ← hG]; rfl) (rfl)
        | succ n3 ih117 =>
          intro i3 be3 le3 hin117 hG
          refine il5 (pc := 117) dX9_quick_117 ?_
          refine g_bipush (pc := 119) dX9_quick_119 kb49 ?_
          refine g_icmpge 239 (pc := 121) dX9_quick_121 (by decide) (fun c121 => absurd c121 (nI_ge (b := 49) (by omega) (by omega))) (fun c121 => ?_)
          refine al0 (pc := 124) dX9_quick_124 ?_
          refine gf_X9_13 (pc := 125) hm.o9 hm.r289 dX9_quick_125 ?_
          refine il5 (pc := 128) dX9_quick_128 ?_
          refine g_iald (pc := 130) i3 hm.a_od (by omega) (rfl) (by decide) dX9_quick_130 ?_
          refine is6 (pc := 131) dX9_quick_131 rfl ?_
          have J203 : ∀ (v9 : Int32), v9 = ow2 (gA d nw 192) (gA d nw) (fun k => gA d nw (96 + k)) b (rqR (gA d od) (gA d nw) (fun k => gA d nw (96 + k)) b) (gA d od i3) → mGo l G (mRm 4 97) X RX9 cX9_quick 9 0 0 Z 203 [some (.ref m), some (.int b), some (.int (rqR (gA d od) (gA d nw) (fun k => gA d nw (96 + k)) b)), some (.int le3), some (.int be3), some (.int (nI i3)), some (.int (gA d od i3)), none, none] [.int v9] d := by
            intro v9 hJ203
            subst hJ203
            refine is8 (pc := 203) dX9_quick_203 rfl ?_
            refine il8 (pc := 205) dX9_quick_205 ?_
            refine il3 (pc := 207) dX9_quick_207 ?_
            refine g_icmpge 216 (pc := 208) dX9_quick_208 (by decide) (fun c208 => ?_) (fun c208 => ?_)
            · skip
              refine il4 (pc := 216) dX9_quick_216 ?_
              refine is4 (pc := 218) dX9_quick_218 rfl ?_
              refine il8 (pc := 220) dX9_quick_220 ?_
              refine il3 (pc := 222) dX9_quick_222 ?_
              refine g_icmpge 231 (pc := 223) dX9_quick_223 (by decide) (fun c223 => ?_) (fun c223 => absurd c208 c223)
              refine il3 (pc := 231) dX9_quick_231 ?_
              refine is3 (pc := 232) dX9_quick_232 rfl ?_
              refine ic5 (pc := 233) dX9_quick_233 kc1 rfl ?_
              refine g_goto 117 (pc := 236) dX9_quick_236 (by decide) ?_
              rw [nI_1]
              refine dr6 ?_
              refine dr8 ?_
              exact ih117 (i3 + 1) _ _ (by omega) (by rw [← hG, rgL, if_neg (Int32.not_lt.mpr c208)])
            · skip
              refine il6 (pc := 211) dX9_quick_211 ?_
              refine g_goto 218 (pc := 213) dX9_quick_213 (by decide) ?_
              refine is4 (pc := 218) dX9_quick_218 rfl ?_
              refine il8 (pc := 220) dX9_quick_220 ?_
              refine il3 (pc := 222) dX9_quick_222 ?_
              refine g_icmpge 231 (pc := 223) dX9_quick_223 (by decide) (fun c223 => absurd c223 c208) (fun c223 => ?_)
              refine il8 (pc := 226) dX9_quick_226 ?_
              refine g_goto 232 (pc := 228) dX9_quick_228 (by decide) ?_
              refine is3 (pc := 232) dX9_quick_232 rfl ?_
              refine ic5 (pc := 233) dX9_quick_233 kc1 rfl ?_
              refine g_goto 117 (pc := 236) dX9_quick_236 (by decide) ?_
              rw [nI_1]
              refine dr6 ?_
              refine dr8 ?_
              exact ih117 (i3 + 1) _ _ (by omega) (by rw [← hG, rgL, if_pos (Int32.not_le.mp c208)])
          refine il6 (pc := 133) dX9_quick_133 ?_
          refine cl_X9_55 (pc := 135) (c_X9_xOf) (by decide) ⟨Nat.zero_le _, Nat.zero_le _⟩ (Nat.le_of_ble_eq_true rfl) dX9_quick_135 ?_
          refine g_iconst (pc := 138) dX9_quick_138 kc2 ?_
          refine il2 (pc := 139) dX9_quick_139 ?_
          refine cl_X9_55 (pc := 140) (c_X9_xOf) (by decide) ⟨Nat.zero_le _, Nat.zero_le _⟩ (Nat.le_of_ble_eq_true rfl) dX9_quick_140 ?_
          refine g_imul (pc := 143) dX9_quick_143 ?_
          refine g_isub (pc := 144) dX9_quick_144 ?_
          refine cl_X9_58 (pc := 145) (c_X9_sized) (by decide) ⟨Nat.zero_le _, Nat.zero_le _⟩ (Nat.le_of_ble_eq_true rfl) dX9_quick_145 ?_
          refine g_iconst (pc := 148) dX9_quick_148 kc2 ?_
          refine g_icmpge 175 (pc := 149) dX9_quick_149 (by decide) (fun c149 => ?_) (fun c149 => ?_)
          · skip
            refine g_iconst (pc := 175) dX9_quick_175 kc0 ?_
            refine is7 (pc := 176) dX9_quick_176 rfl ?_
            refine il7 (pc := 178) dX9_quick_178 ?_
            refine g_ifeq 201 (pc := 180) dX9_quick_180 (by decide) (fun c180 => ?_) (fun c180 => absurd (by decide) c180)
            refine g_ldc (pc := 201) dX9_quick_201 wk_X9_109 ?_
            refine dr7 ?_
            exact J203 _ (by simp only [ow2]; simp [← Int32.not_le, c121, c149, c180])
          · skip
            refine il6 (pc := 152) dX9_quick_152 ?_
            refine cl_X9_61 (pc := 154) (c_X9_yOf) (by decide) ⟨Nat.zero_le _, Nat.zero_le _⟩ (Nat.le_of_ble_eq_true rfl) dX9_quick_154 ?_
            refine g_iconst (pc := 157) dX9_quick_157 kc2 ?_
            refine il2 (pc := 158) dX9_quick_158 ?_
            refine cl_X9_61 (pc := 159) (c_X9_yOf) (by decide) ⟨Nat.zero_le _, Nat.zero_le _⟩ (Nat.le_of_ble_eq_true rfl) dX9_quick_159 ?_
            refine g_imul (pc := 162) dX9_quick_162 ?_
            refine g_isub (pc := 163) dX9_quick_163 ?_
            refine cl_X9_58 (pc := 164) (c_X9_sized) (by decide) ⟨Nat.zero_le _, Nat.zero_le _⟩ (Nat.le_of_ble_eq_true rfl) dX9_quick_164 ?_
            refine g_iconst (pc := 167) dX9_quick_167 kc2 ?_
            refine g_icmpge 175 (pc := 168) dX9_quick_168 (by decide) (fun c168 => ?_) (fun c168 => ?_)
            · skip
              refine g_iconst (pc := 175) dX9_quick_175 kc0 ?_
              refine is7 (pc := 176) dX9_quick_176 rfl ?_
              refine il7 (pc := 178) dX9_quick_178 ?_
              refine g_ifeq 201 (pc := 180) dX9_quick_180 (by decide) (fun c180 => ?_) (fun c180 => absurd (by decide) c180)
              refine g_ldc (pc := 201) dX9_quick_201 wk_X9_109 ?_
              refine dr7 ?_
              exact J203 _ (by simp only [ow2]; simp [← Int32.not_le, c121, c149, c168, c180])
            · skip
              refine g_iconst (pc := 171) dX9_quick_171 kc1 ?_
              refine g_goto 176 (pc := 172) dX9_quick_172 (by decide) ?_
              refine is7 (pc := 176) dX9_quick_176 rfl ?_
              refine il7 (pc := 178) dX9_quick_178 ?_
              refine g_ifeq 201 (pc := 180) dX9_quick_180 (by decide) (fun c180 => absurd c180 (by decide)) (fun c180 => ?_)
              refine al0 (pc := 183) dX9_quick_183 ?_
              refine al0 (pc := 184) dX9_quick_184 ?_
              refine gf_X9_7 (pc := 185) hm.o9 hm.r288 dX9_quick_185 ?_
              refine g_sipush (pc := 188) dX9_quick_188 ks192 ?_
              refine g_iald (pc := 191) 192 hm.a_nw (by decide) (rfl) (by decide) dX9_quick_191 ?_
              refine il1 (pc := 192) dX9_quick_192 ?_
              refine il6 (pc := 193) dX9_quick_193 ?_
              refine cl_X9_87 (pc := 195) (c_X9_costBy hm) hm.o9 (by decide) ⟨Nat.zero_le _, Nat.zero_le _⟩ (Nat.le_of_ble_eq_true rfl) dX9_quick_195 ?_
              refine g_goto 203 (pc := 198) dX9_quick_198 (by decide) ?_
              refine dr7 ?_
              exact J203 _ (by simp only [ow2]; simp [← Int32.not_le, c121, c149, c168, c180])
      exact L117 49 0 _ _ (by omega) rfl
    | succ n ih9 =>
      intro i ro le hin9 hF
      refine il4 (pc := 9) dX9_quick_9 ?_
      refine g_bipush (pc := 11) dX9_quick_11 kb49 ?_
      refine g_icmpge 107 (pc := 13) dX9_quick_13 (by decide) (fun c13 => absurd c13 (nI_ge (b := 49) (by omega) (by omega))) (fun c13 => ?_)
      refine al0 (pc := 16) dX9_quick_16 ?_
      refine gf_X9_13 (pc := 17) hm.o9 hm.r289 dX9_quick_17 ?_
      refine il4 (pc := 20) dX9_quick_20 ?_
      refine g_iald (pc := 22) i hm.a_od (by omega) (rfl) (by decide) dX9_quick_22 ?_
      refine is5 (pc := 23) dX9_quick_23 rfl ?_
      have J73 : ∀ (v9 : Int32), v9 = ow1 (gA d nw) (fun k => gA d nw (96 + k)) b (gA d od i) → mGo l G (mRm 4 97) X RX9 cX9_quick 9 0 0 Z 73 [some (.ref m), some (.int b), some (.int ro), some (.int le), some (.int (nI i)), some (.int (gA d od i)), none, none, none] [.int v9] d := by
        intro v9 hJ73
        subst hJ73
        refine is7 (pc := 73) dX9_quick_73 rfl ?_
        refine il7 (pc := 75) dX9_quick_75 ?_
        refine il3 (pc := 77) dX9_quick_77 ?_
        refine g_icmpge 86 (pc := 78) dX9_quick_78 (by decide) (fun c78 => ?_) (fun c78 => ?_)
        · skip
          refine il2 (pc := 86) dX9_quick_86 ?_
          refine is2 (pc := 87) dX9_quick_87 rfl ?_
          refine il7 (pc := 88) dX9_quick_88 ?_
          refine il3 (pc := 90) dX9_quick_90 ?_
          refine g_icmpge 99 (pc := 91) dX9_quick_91 (by decide) (fun c91 => ?_) (fun c91 => absurd c78 c91)
          refine il3 (pc := 99) dX9_quick_99 ?_
          refine is3 (pc := 100) dX9_quick_100 rfl ?_
          refine ic4 (pc := 101) dX9_quick_101 kc1 rfl ?_
          refine g_goto 9 (pc := 104) dX9_quick_104 (by decide) ?_
          rw [nI_1]
          refine dr5 ?_
          refine dr7 ?_
          exact ih9 (i + 1) _ _ (by omega) (by rw [← hF, rgL, if_neg (Int32.not_lt.mpr c78)])
        · skip
          refine il5 (pc := 81) dX9_quick_81 ?_
          refine g_goto 87 (pc := 83) dX9_quick_83 (by decide) ?_
          refine is2 (pc := 87) dX9_quick_87 rfl ?_
          refine il7 (pc := 88) dX9_quick_88 ?_
          refine il3 (pc := 90) dX9_quick_90 ?_
          refine g_icmpge 99 (pc := 91) dX9_quick_91 (by decide) (fun c91 => absurd c91 c78) (fun c91 => ?_)
          refine il7 (pc := 94) dX9_quick_94 ?_
          refine g_goto 100 (pc := 96) dX9_quick_96 (by decide) ?_
          refine is3 (pc := 100) dX9_quick_100 rfl ?_
          refine ic4 (pc := 101) dX9_quick_101 kc1 rfl ?_
          refine g_goto 9 (pc := 104) dX9_quick_104 (by decide) ?_
          rw [nI_1]
          refine dr5 ?_
          refine dr7 ?_
          exact ih9 (i + 1) _ _ (by omega) (by rw [← hF, rgL, if_pos (Int32.not_le.mp c78)])
      refine il5 (pc := 25) dX9_quick_25 ?_
      refine cl_X9_55 (pc := 27) (c_X9_xOf) (by decide) ⟨Nat.zero_le _, Nat.zero_le _⟩ (Nat.le_of_ble_eq_true rfl) dX9_quick_27 ?_
      refine cl_X9_58 (pc := 30) (c_X9_sized) (by decide) ⟨Nat.zero_le _, Nat.zero_le _⟩ (Nat.le_of_ble_eq_true rfl) dX9_quick_30 ?_
      refine g_iconst (pc := 33) dX9_quick_33 kc2 ?_
      refine g_icmpge 53 (pc := 34) dX9_quick_34 (by decide) (fun c34 => ?_) (fun c34 => ?_)
      · skip
        refine g_iconst (pc := 53) dX9_quick_53 kc0 ?_
        refine is6 (pc := 54) dX9_quick_54 rfl ?_
        refine il6 (pc := 56) dX9_quick_56 ?_
        refine g_ifeq 71 (pc := 58) dX9_quick_58 (by decide) (fun c58 => ?_) (fun c58 => absurd (by decide) c58)
        refine g_ldc (pc := 71) dX9_quick_71 wk_X9_109 ?_
        refine dr6 ?_
        exact J73 _ (by simp only [ow1]; simp [← Int32.not_le, c13, c34, c58])
      · skip
        refine il5 (pc := 37) dX9_quick_37 ?_
        refine cl_X9_61 (pc := 39) (c_X9_yOf) (by decide) ⟨Nat.zero_le _, Nat.zero_le _⟩ (Nat.le_of_ble_eq_true rfl) dX9_quick_39 ?_
        refine cl_X9_58 (pc := 42) (c_X9_sized) (by decide) ⟨Nat.zero_le _, Nat.zero_le _⟩ (Nat.le_of_ble_eq_true rfl) dX9_quick_42 ?_
        refine g_iconst (pc := 45) dX9_quick_45 kc2 ?_
        refine g_icmpge 53 (pc := 46) dX9_quick_46 (by decide) (fun c46 => ?_) (fun c46 => ?_)
        · skip
          refine g_iconst (pc := 53) dX9_quick_53 kc0 ?_
          refine is6 (pc := 54) dX9_quick_54 rfl ?_
          refine il6 (pc := 56) dX9_quick_56 ?_
          refine g_ifeq 71 (pc := 58) dX9_quick_58 (by decide) (fun c58 => ?_) (fun c58 => absurd (by decide) c58)
          refine g_ldc (pc := 71) dX9_quick_71 wk_X9_109 ?_
          refine dr6 ?_
          exact J73 _ (by simp only [ow1]; simp [← Int32.not_le, c13, c34, c46, c58])
        · skip
          refine g_iconst (pc := 49) dX9_quick_49 kc1 ?_
          refine g_goto 54 (pc := 50) dX9_quick_50 (by decide) ?_
          refine is6 (pc := 54) dX9_quick_54 rfl ?_
          refine il6 (pc := 56) dX9_quick_56 ?_
          refine g_ifeq 71 (pc := 58) dX9_quick_58 (by decide) (fun c58 => absurd c58 (by decide)) (fun c58 => ?_)
          refine al0 (pc := 61) dX9_quick_61 ?_
          refine il1 (pc := 62) dX9_quick_62 ?_
          refine il5 (pc := 63) dX9_quick_63 ?_
          refine cl_X9_110 (pc := 65) (c_X9_halfCost hm) hm.o9 (by decide) ⟨Nat.zero_le _, Nat.zero_le _⟩ (Nat.le_of_ble_eq_true rfl) dX9_quick_65 ?_
          refine g_goto 73 (pc := 68) dX9_quick_68 (by decide) ?_
          refine dr6 ?_
          exact J73 _ (by simp only [ow1]; simp [← Int32.not_le, c13, c34, c46, c58])
  exact L9 49 0 _ _ (by omega) rfl
theorem c_X9_halved {l : Launch} {G : mG} {Z : mZ} {d : mD} {m nw od fd tp rd ah kp ka ln sz it mv : Nat} {c r h v : Int32} (hm : mdS Z m nw od fd tp rd ah kp ka ln sz it mv) : CtI l G yX9_halved cX9_halved 6 .int 2 44 [.ref m, .int c, .int r, .int h, .int v] Z d (btwI (gA d nw) c r h v) d := by
  refine enterI RX9 1 [some (.ref m), some (.int c), some (.int r), some (.int h), some (.int v), none] (by decide) rfl (rfl) rfl rfl (fun X hR => ?_)
  refine al0 (pc := 0) dX9_halved_0 ?_
  refine g_iconst (pc := 1) dX9_halved_1 kc0 ?_
  refine il1 (pc := 2) dX9_halved_2 ?_
  refine il2 (pc := 3) dX9_halved_3 ?_
  refine cl_X9_76 (pc := 4) (c_X9_dotAt (pb := 0) hm (by decide)) hm.o9 (by decide) ⟨Nat.zero_le _, Nat.zero_le _⟩ (Nat.le_of_ble_eq_true rfl) dX9_halved_4 ?_
  rw [pix0]
  refine is5 (pc := 7) dX9_halved_7 rfl ?_
  refine il3 (pc := 9) dX9_halved_9 ?_
  refine g_ifne 21 (pc := 10) dX9_halved_10 (by decide) (fun c10 => ?_) (fun c10 => ?_)
  · skip
    refine il3 (pc := 21) dX9_halved_21 ?_
    refine g_ifeq 69 (pc := 22) dX9_halved_22 (by decide) (fun c22 => absurd c22 c10) (fun c22 => ?_)
    refine il4 (pc := 25) dX9_halved_25 ?_
    refine g_ifeq 69 (pc := 27) dX9_halved_27 (by decide) (fun c27 => ?_) (fun c27 => ?_)
    · skip
      refine il5 (pc := 69) dX9_halved_69 ?_
      refine al0 (pc := 71) dX9_halved_71 ?_
      refine g_iconst (pc := 72) dX9_halved_72 kc0 ?_
      refine il1 (pc := 73) dX9_halved_73 ?_
      refine il3 (pc := 74) dX9_halved_74 ?_
      refine g_iadd (pc := 75) dX9_halved_75 ?_
      refine il2 (pc := 76) dX9_halved_76 ?_
      refine il4 (pc := 77) dX9_halved_77 ?_
      refine g_iadd (pc := 79) dX9_halved_79 ?_
      refine cl_X9_76 (pc := 80) (c_X9_dotAt (pb := 0) hm (by decide)) hm.o9 (by decide) ⟨Nat.zero_le _, Nat.zero_le _⟩ (Nat.le_of_ble_eq_true rfl) dX9_halved_80 ?_
      rw [pix0]
      refine g_iadd (pc := 83) dX9_halved_83 ?_
      refine g_iconst (pc := 84) dX9_halved_84 kc2 ?_
      refine g_idiv (pc := 85) dX9_halved_85 (by decide) ?_
      exact retI (pc := 86) hR dX9_halved_86 (by simp [btwI, c10, c22, c27]) (rfl)
    · skip
      refine il5 (pc := 30) dX9_halved_30 ?_
      refine al0 (pc := 32) dX9_halved_32 ?_
      refine g_iconst (pc := 33) dX9_halved_33 kc0 ?_
      refine il1 (pc := 34) dX9_halved_34 ?_
      refine il3 (pc := 35) dX9_halved_35 ?_
      refine g_iadd (pc := 36) dX9_halved_36 ?_
      refine il2 (pc := 37) dX9_halved_37 ?_
      refine cl_X9_76 (pc := 38) (c_X9_dotAt (pb := 0) hm (by decide)) hm.o9 (by decide) ⟨Nat.zero_le _, Nat.zero_le _⟩ (Nat.le_of_ble_eq_true rfl) dX9_halved_38 ?_
      rw [pix0]
      refine g_iadd (pc := 41) dX9_halved_41 ?_
      refine al0 (pc := 42) dX9_halved_42 ?_
      refine g_iconst (pc := 43) dX9_halved_43 kc0 ?_
      refine il1 (pc := 44) dX9_halved_44 ?_
      refine il2 (pc := 45) dX9_halved_45 ?_
      refine il4 (pc := 46) dX9_halved_46 ?_
      refine g_iadd (pc := 48) dX9_halved_48 ?_
      refine cl_X9_76 (pc := 49) (c_X9_dotAt (pb := 0) hm (by decide)) hm.o9 (by decide) ⟨Nat.zero_le _, Nat.zero_le _⟩ (Nat.le_of_ble_eq_true rfl) dX9_halved_49 ?_
      rw [pix0]
      refine g_iadd (pc := 52) dX9_halved_52 ?_
      refine al0 (pc := 53) dX9_halved_53 ?_
      refine g_iconst (pc := 54) dX9_halved_54 kc0 ?_
      refine il1 (pc := 55) dX9_halved_55 ?_
      refine il3 (pc := 56) dX9_halved_56 ?_
      refine g_iadd (pc := 57) dX9_halved_57 ?_
      refine il2 (pc := 58) dX9_halved_58 ?_
      refine il4 (pc := 59) dX9_halved_59 ?_
      refine g_iadd (pc := 61) dX9_halved_61 ?_
      refine cl_X9_76 (pc := 62) (c_X9_dotAt (pb := 0) hm (by decide)) hm.o9 (by decide) ⟨Nat.zero_le _, Nat.zero_le _⟩ (Nat.le_of_ble_eq_true rfl) dX9_halved_62 ?_
      rw [pix0]
      refine g_iadd (pc := 65) dX9_halved_65 ?_
      refine g_iconst (pc := 66) dX9_halved_66 kc4 ?_
      refine g_idiv (pc := 67) dX9_halved_67 (by decide) ?_
      exact retI (pc := 68) hR dX9_halved_68 (by simp [btwI, c10, c22, c27]) (rfl)
  · skip
    refine il4 (pc := 13) dX9_halved_13 ?_
    refine g_ifne 21 (pc := 15) dX9_halved_15 (by decide) (fun c15 => ?_) (fun c15 => ?_)
    · skip
      refine il3 (pc := 21) dX9_halved_21 ?_
      refine g_ifeq 69 (pc := 22) dX9_halved_22 (by decide) (fun c22 => ?_) (fun c22 => absurd c10 c22)
      refine il5 (pc := 69) dX9_halved_69 ?_
      refine al0 (pc := 71) dX9_halved_71 ?_
      refine g_iconst (pc := 72) dX9_halved_72 kc0 ?_
      refine il1 (pc := 73) dX9_halved_73 ?_
      refine il3 (pc := 74) dX9_halved_74 ?_
      refine g_iadd (pc := 75) dX9_halved_75 ?_
      refine il2 (pc := 76) dX9_halved_76 ?_
      refine il4 (pc := 77) dX9_halved_77 ?_
      refine g_iadd (pc := 79) dX9_halved_79 ?_
      refine cl_X9_76 (pc := 80) (c_X9_dotAt (pb := 0) hm (by decide)) hm.o9 (by decide) ⟨Nat.zero_le _, Nat.zero_le _⟩ (Nat.le_of_ble_eq_true rfl) dX9_halved_80 ?_
      rw [pix0]
      refine g_iadd (pc := 83) dX9_halved_83 ?_
      refine g_iconst (pc := 84) dX9_halved_84 kc2 ?_
      refine g_idiv (pc := 85) dX9_halved_85 (by decide) ?_
      exact retI (pc := 86) hR dX9_halved_86 (by simp [btwI, c10, c15, c22]) (rfl)
    · skip
      refine il5 (pc := 18) dX9_halved_18 ?_
      exact retI (pc := 20) hR dX9_halved_20 (by simp [btwI, c10, c15]) (rfl)
theorem c_X9_halvedCost {l : Launch} {G : mG} {Z : mZ} {d : mD} {m nw od fd tp rd ah kp ka ln sz it mv : Nat} {b mo h v : Int32} (hm : mdS Z m nw od fd tp rd ah kp ka ln sz it mv) : CtI l G yX9_halvedCost cX9_halvedCost 9 .int 3 69 [.ref m, .int b, .int mo, .int h, .int v] Z d (accL (hcI (gA d nw) (fun k => gA d nw (96 + k)) b mo h v) 16 0 0) d := by
  refine enterI RX9 4 [some (.ref m), some (.int b), some (.int mo), some (.int h), some (.int v), none, none, none, none] (by decide) rfl (rfl) rfl rfl (fun X hR => ?_)
  refine g_iconst (pc := 0) dX9_halvedCost_0 kc0 ?_
  refine is5 (pc := 1) dX9_halvedCost_1 rfl ?_
  refine g_iconst (pc := 3) dX9_halvedCost_3 kc0 ?_
  refine is6 (pc := 4) dX9_halvedCost_4 rfl ?_
  have L6 : ∀ (n i : Nat) (acc : Int32), i + n = 16 → (accL (hcI (gA d nw) (fun k => gA d nw (96 + k)) b mo h v) n i acc = accL (hcI (gA d nw) (fun k => gA d nw (96 + k)) b mo h v) 16 0 0) → mGo l G (mRm 3 69) X RX9 cX9_halvedCost 9 0 0 Z 6 [some (.ref m), some (.int b), some (.int mo), some (.int h), some (.int v), some (.int acc), some (.int (nI i)), none, none] [] d := by
    intro n; induction n with
    | zero =>
      intro i acc hin6 hF
      refine il6 (pc := 6) dX9_halvedCost_6 ?_
      refine g_bipush (pc := 8) dX9_halvedCost_8 kb16 ?_
      refine g_icmpge 83 (pc := 10) dX9_halvedCost_10 (by decide) (fun c10 => ?_) (fun c10 => absurd (nI_le (a := 16) (by omega) (by omega)) c10)
      refine il5 (pc := 83) dX9_halvedCost_83 ?_
      exact retI (pc := 85) hR dX9_halvedCost_85 (hF) (rfl)
    | succ n ih6 =>
      intro i acc hin6 hF
      refine il6 (pc := 6) dX9_halvedCost_6 ?_
      refine g_bipush (pc := 8) dX9_halvedCost_8 kb16 ?_
      refine g_icmpge 83 (pc := 10) dX9_halvedCost_10 (by decide) (fun c10 => absurd c10 (nI_ge (b := 16) (by omega) (by omega))) (fun c10 => ?_)
      refine g_iconst (pc := 13) dX9_halvedCost_13 kc4 ?_
      refine il1 (pc := 14) dX9_halvedCost_14 ?_
      refine g_iconst (pc := 15) dX9_halvedCost_15 kc3 ?_
      refine g_irem (pc := 16) dX9_halvedCost_16 (by decide) ?_
      refine g_imul (pc := 17) dX9_halvedCost_17 ?_
      rw [col_c]
      refine il6 (pc := 18) dX9_halvedCost_18 ?_
      refine g_iconst (pc := 20) dX9_halvedCost_20 kc4 ?_
      refine g_irem (pc := 21) dX9_halvedCost_21 (by decide) ?_
      refine g_iadd (pc := 22) dX9_halvedCost_22 ?_
      refine is7 (pc := 23) dX9_halvedCost_23 rfl ?_
      refine g_iconst (pc := 25) dX9_halvedCost_25 kc4 ?_
      refine il1 (pc := 26) dX9_halvedCost_26 ?_
      refine g_iconst (pc := 27) dX9_halvedCost_27 kc3 ?_
      refine g_idiv (pc := 28) dX9_halvedCost_28 (by decide) ?_
      refine g_imul (pc := 29) dX9_halvedCost_29 ?_
      rw [row_c]
      refine il6 (pc := 30) dX9_halvedCost_30 ?_
      refine g_iconst (pc := 32) dX9_halvedCost_32 kc4 ?_
      refine g_idiv (pc := 33) dX9_halvedCost_33 (by decide) ?_
      refine g_iadd (pc := 34) dX9_halvedCost_34 ?_
      refine is8 (pc := 35) dX9_halvedCost_35 rfl ?_
      refine il5 (pc := 37) dX9_halvedCost_37 ?_
      refine al0 (pc := 39) dX9_halvedCost_39 ?_
      refine g_bipush (pc := 40) dX9_halvedCost_40 kb96 ?_
      refine il7 (pc := 42) dX9_halvedCost_42 ?_
      refine il8 (pc := 44) dX9_halvedCost_44 ?_
      refine cl_X9_76 (pc := 46) (c_X9_dotAt (pb := 96) hm (by decide)) hm.o9 (by decide) ⟨Nat.zero_le _, Nat.zero_le _⟩ (Nat.le_of_ble_eq_true rfl) dX9_halvedCost_46 ?_
      refine al0 (pc := 49) dX9_halvedCost_49 ?_
      refine il7 (pc := 50) dX9_halvedCost_50 ?_
      refine il2 (pc := 52) dX9_halvedCost_52 ?_
      refine cl_X9_55 (pc := 53) (c_X9_xOf) (by decide) ⟨Nat.zero_le _, Nat.zero_le _⟩ (Nat.le_of_ble_eq_true rfl) dX9_halvedCost_53 ?_
      refine g_iadd (pc := 56) dX9_halvedCost_56 ?_
      refine il8 (pc := 57) dX9_halvedCost_57 ?_
      refine il2 (pc := 59) dX9_halvedCost_59 ?_
      refine cl_X9_61 (pc := 60) (c_X9_yOf) (by decide) ⟨Nat.zero_le _, Nat.zero_le _⟩ (Nat.le_of_ble_eq_true rfl) dX9_halvedCost_60 ?_
      refine g_iadd (pc := 63) dX9_halvedCost_63 ?_
      refine il3 (pc := 64) dX9_halvedCost_64 ?_
      refine il4 (pc := 65) dX9_halvedCost_65 ?_
      refine cl_X9_113 (pc := 67) (c_X9_halved hm) hm.o9 (by decide) ⟨Nat.zero_le _, Nat.zero_le _⟩ (Nat.le_of_ble_eq_true rfl) dX9_halvedCost_67 ?_
      refine g_isub (pc := 70) dX9_halvedCost_70 ?_
      refine cl_X9_58 (pc := 71) (c_X9_sized) (by decide) ⟨Nat.zero_le _, Nat.zero_le _⟩ (Nat.le_of_ble_eq_true rfl) dX9_halvedCost_71 ?_
      refine g_iadd (pc := 74) dX9_halvedCost_74 ?_
      refine is5 (pc := 75) dX9_halvedCost_75 rfl ?_
      refine ic6 (pc := 77) dX9_halvedCost_77 kc1 rfl ?_
      refine g_goto 6 (pc := 80) dX9_halvedCost_80 (by decide) ?_
      rw [nI_1]
      refine dr7 ?_
      refine dr8 ?_
      exact ih6 (i + 1) _ (by omega) hF
  exact L6 16 0 0 (by omega) rfl
theorem c_X9_half {l : Launch} {G : mG} {Z : mZ} {d : mD} {m nw od fd tp rd ah kp ka ln sz it mv : Nat} {b w : Int32} (hm : mdS Z m nw od fd tp rd ah kp ka ln sz it mv) : CtI l G yX9_half cX9_half 8 .int 6 144 [.ref m, .int b, .int w] Z d (rhR (rhL (gA d nw) (fun k => gA d nw (96 + k)) b (rbE (gA d od) (gA d nw 192) (gA d nw) (fun k => gA d nw (96 + k)) b) 9 0 0 99999) w) d := by
  refine enterI RX9 5 [some (.ref m), some (.int b), some (.int w), none, none, none, none, none] (by decide) rfl (rfl) rfl rfl (fun X hR => ?_)
  refine al0 (pc := 0) dX9_half_0 ?_
  refine il1 (pc := 1) dX9_half_1 ?_
  refine cl_X9_116 (pc := 2) (c_X9_best hm) hm.o9 (by decide) ⟨Nat.zero_le _, Nat.zero_le _⟩ (Nat.le_of_ble_eq_true rfl) dX9_half_2 ?_
  refine is3 (pc := 5) dX9_half_5 rfl ?_
  refine g_iconst (pc := 6) dX9_half_6 kc0 ?_
  refine is4 (pc := 7) dX9_half_7 rfl ?_
  refine g_ldc (pc := 9) dX9_half_9 wk_X9_109 ?_
  refine is5 (pc := 11) dX9_half_11 rfl ?_
  refine g_iconst (pc := 13) dX9_half_13 kc0 ?_
  refine is6 (pc := 14) dX9_half_14 rfl ?_
  have L16 : ∀ (n i : Nat) (fd9 : Int32) (le : Int32), i + n = 9 → (rhL (gA d nw) (fun k => gA d nw (96 + k)) b (rbE (gA d od) (gA d nw 192) (gA d nw) (fun k => gA d nw (96 + k)) b) n i fd9 le = rhL (gA d nw) (fun k => gA d nw (96 + k)) b (rbE (gA d od) (gA d nw 192) (gA d nw) (fun k => gA d nw (96 + k)) b) 9 0 0 99999) → mGo l G (mRm 6 144) X RX9 cX9_half 8 0 0 Z 16 [some (.ref m), some (.int b), some (.int w), some (.int (rbE (gA d od) (gA d nw 192) (gA d nw) (fun k => gA d nw (96 + k)) b)), some (.int fd9), some (.int le), some (.int (nI i)), none] [] d := by
    intro n; induction n with
    | zero =>
      intro i fd9 le hin16 hF
      refine il6 (pc := 16) dX9_half_16 ?_
      refine g_bipush (pc := 18) dX9_half_18 kb9 ?_
      refine g_icmpge 81 (pc := 20) dX9_half_20 (by decide) (fun c20 => ?_) (fun c20 => absurd (nI_le (a := 9) (by omega) (by omega)) c20)
      refine il2 (pc := 81) dX9_half_81 ?_
      refine g_ifeq 90 (pc := 82) dX9_half_82 (by decide) (fun c82 => ?_) (fun c82 => ?_)
      · skip
        refine il5 (pc := 90) dX9_half_90 ?_
        exact retI (pc := 92) hR dX9_half_92 (by rw [← hF]; simp [rhR, rhL, c82]) (rfl)
      · skip
        refine il4 (pc := 85) dX9_half_85 ?_
        refine g_goto 92 (pc := 87) dX9_half_87 (by decide) ?_
        exact retI (pc := 92) hR dX9_half_92 (by rw [← hF]; simp [rhR, rhL, c82]) (rfl)
    | succ n ih16 =>
      intro i fd9 le hin16 hF
      refine il6 (pc := 16) dX9_half_16 ?_
      refine g_bipush (pc := 18) dX9_half_18 kb9 ?_
      refine g_icmpge 81 (pc := 20) dX9_half_20 (by decide) (fun c20 => absurd c20 (nI_ge (b := 9) (by omega) (by omega))) (fun c20 => ?_)
      refine al0 (pc := 23) dX9_half_23 ?_
      refine il1 (pc := 24) dX9_half_24 ?_
      refine il3 (pc := 25) dX9_half_25 ?_
      refine il6 (pc := 26) dX9_half_26 ?_
      refine g_iconst (pc := 28) dX9_half_28 kc3 ?_
      refine g_irem (pc := 29) dX9_half_29 (by decide) ?_
      refine g_iconst (pc := 30) dX9_half_30 kc1 ?_
      refine g_isub (pc := 31) dX9_half_31 ?_
      refine il6 (pc := 32) dX9_half_32 ?_
      refine g_iconst (pc := 34) dX9_half_34 kc3 ?_
      refine g_idiv (pc := 35) dX9_half_35 (by decide) ?_
      refine g_iconst (pc := 36) dX9_half_36 kc1 ?_
      refine g_isub (pc := 37) dX9_half_37 ?_
      refine cl_X9_119 (pc := 38) (c_X9_halvedCost hm) hm.o9 (by decide) ⟨Nat.zero_le _, Nat.zero_le _⟩ (Nat.le_of_ble_eq_true rfl) dX9_half_38 ?_
      refine is7 (pc := 41) dX9_half_41 rfl ?_
      refine il7 (pc := 43) dX9_half_43 ?_
      refine il5 (pc := 45) dX9_half_45 ?_
      refine g_icmpge 55 (pc := 47) dX9_half_47 (by decide) (fun c47 => ?_) (fun c47 => ?_)
      · skip
        refine il4 (pc := 55) dX9_half_55 ?_
        refine is4 (pc := 57) dX9_half_57 rfl ?_
        refine il7 (pc := 59) dX9_half_59 ?_
        refine il5 (pc := 61) dX9_half_61 ?_
        refine g_icmpge 71 (pc := 63) dX9_half_63 (by decide) (fun c63 => ?_) (fun c63 => absurd c47 c63)
        refine il5 (pc := 71) dX9_half_71 ?_
        refine is5 (pc := 73) dX9_half_73 rfl ?_
        refine ic6 (pc := 75) dX9_half_75 kc1 rfl ?_
        refine g_goto 16 (pc := 78) dX9_half_78 (by decide) ?_
        rw [nI_1]
        refine dr7 ?_
        exact ih16 (i + 1) _ _ (by omega) (by rw [← hF, rhL, if_neg (Int32.not_lt.mpr c47)])
      · skip
        refine il6 (pc := 50) dX9_half_50 ?_
        refine g_goto 57 (pc := 52) dX9_half_52 (by decide) ?_
        refine is4 (pc := 57) dX9_half_57 rfl ?_
        refine il7 (pc := 59) dX9_half_59 ?_
        refine il5 (pc := 61) dX9_half_61 ?_
        refine g_icmpge 71 (pc := 63) dX9_half_63 (by decide) (fun c63 => absurd c63 c47) (fun c63 => ?_)
        refine il7 (pc := 66) dX9_half_66 ?_
        refine g_goto 73 (pc := 68) dX9_half_68 (by decide) ?_
        refine is5 (pc := 73) dX9_half_73 rfl ?_
        refine ic6 (pc := 75) dX9_half_75 kc1 rfl ?_
        refine g_goto 16 (pc := 78) dX9_half_78 (by decide) ?_
        rw [nI_1]
        refine dr7 ?_
        exact ih16 (i + 1) _ _ (by omega) (by rw [← hF, rhL, if_pos (Int32.not_le.mp c47)])
  exact L16 9 0 _ _ (by omega) rfl
theorem c_X9_lays {l : Launch} {G : mG} {Z : mZ} {d : mD} {m nw od fd tp rd ah kp ka ln sz it mv : Nat} (hm : mdS Z m nw od fd tp rd ah kp ka ln sz it mv) : CtV l G yX9_lays cX9_lays 2 6 144 [.ref m] Z d (tA d fd (layL (gA d od) (gA d nw 192) (gA d nw) (fun k => gA d nw (96 + k)) 6 0 (gA d fd))) := by
  refine enterV RX9 1 [some (.ref m), none] (by decide) rfl rfl rfl (fun X hR => ?_)
  refine g_iconst (pc := 0) dX9_lays_0 kc0 ?_
  refine is1 (pc := 1) dX9_lays_1 rfl ?_
  have L2 : ∀ (n i : Nat) (g : Nat → Int32), i + n = 6 → (layL (gA d od) (gA d nw 192) (gA d nw) (fun k => gA d nw (96 + k)) n i g = layL (gA d od) (gA d nw 192) (gA d nw) (fun k => gA d nw (96 + k)) 6 0 (gA d fd)) → mGo l G (mRm 6 144) X RX9 cX9_lays 2 0 0 Z 2 [some (.ref m), some (.int (nI i))] [] (tA d fd g) := by
    intro n; induction n with
    | zero =>
      intro i g hin2 hF
      refine il1 (pc := 2) dX9_lays_2 ?_
      refine g_bipush (pc := 3) dX9_lays_3 kb6 ?_
      refine g_icmpge 25 (pc := 5) dX9_lays_5 (by decide) (fun c5 => ?_) (fun c5 => absurd (nI_le (a := 6) (by omega) (by omega)) c5)
      exact retV (pc := 25) hR dX9_lays_25 (by rw [← hF]; rfl)
    | succ n ih2 =>
      intro i g hin2 hF
      refine il1 (pc := 2) dX9_lays_2 ?_
      refine g_bipush (pc := 3) dX9_lays_3 kb6 ?_
      refine g_icmpge 25 (pc := 5) dX9_lays_5 (by decide) (fun c5 => absurd c5 (nI_ge (b := 6) (by omega) (by omega))) (fun c5 => ?_)
      refine al0 (pc := 8) dX9_lays_8 ?_
      refine gf_X9_16 (pc := 9) hm.o9 hm.r293 dX9_lays_9 ?_
      refine il1 (pc := 12) dX9_lays_12 ?_
      refine al0 (pc := 13) dX9_lays_13 ?_
      refine il1 (pc := 14) dX9_lays_14 ?_
      refine cl_X9_116 (pc := 15) (c_X9_best hm) hm.o9 (by decide) ⟨Nat.zero_le _, Nat.zero_le _⟩ (Nat.le_of_ble_eq_true rfl) dX9_lays_15 ?_
      rw [gA_tA, if_neg hm.n_od_fd, gA_tA, if_neg hm.n_nw_fd]
      refine g_iast (pc := 18) i hm.a_fd (by omega) (rfl) (by decide) dX9_lays_18 ?_
      rw [gA_tA, if_pos rfl, tA_tA]
      refine ic1 (pc := 19) dX9_lays_19 kc1 rfl ?_
      refine g_goto 2 (pc := 22) dX9_lays_22 (by decide) ?_
      rw [nI_1]
      exact ih2 (i + 1) _ (by omega) hF
  have q8 := L2 6 0 (gA d fd) (by omega) rfl
  rw [tA_self] at q8
  exact q8
theorem c_X9_part {l : Launch} {G : mG} {Z : mZ} {d : mD} {m nw od fd tp rd ah kp ka ln sz it mv : Nat} {b : Nat} {x : Int32} (hm : mdS Z m nw od fd tp rd ah kp ka ln sz it mv) (hb : b < 6) : CtI l G yX9_part cX9_part 3 .int 1 20 [.ref m, .int (nI b), .int x] Z d (ptI (gA d fd b) x) d := by
  refine enterI RX9 0 [some (.ref m), some (.int (nI b)), some (.int x)] (by decide) rfl (rfl) rfl rfl (fun X hR => ?_)
  refine il2 (pc := 0) dX9_part_0 ?_
  refine g_ifeq 16 (pc := 1) dX9_part_1 (by decide) (fun c1 => ?_) (fun c1 => ?_)
  · skip
    refine al0 (pc := 16) dX9_part_16 ?_
    refine gf_X9_16 (pc := 17) hm.o9 hm.r293 dX9_part_17 ?_
    refine il1 (pc := 20) dX9_part_20 ?_
    refine g_iald (pc := 21) b hm.a_fd (hb) (rfl) (by decide) dX9_part_21 ?_
    refine cl_X9_61 (pc := 22) (c_X9_yOf) (by decide) ⟨Nat.zero_le _, Nat.zero_le _⟩ (Nat.le_of_ble_eq_true rfl) dX9_part_22 ?_
    exact retI (pc := 25) hR dX9_part_25 (by simp [ptI, c1]) (rfl)
  · skip
    refine al0 (pc := 4) dX9_part_4 ?_
    refine gf_X9_16 (pc := 5) hm.o9 hm.r293 dX9_part_5 ?_
    refine il1 (pc := 8) dX9_part_8 ?_
    refine g_iald (pc := 9) b hm.a_fd (hb) (rfl) (by decide) dX9_part_9 ?_
    refine cl_X9_55 (pc := 10) (c_X9_xOf) (by decide) ⟨Nat.zero_le _, Nat.zero_le _⟩ (Nat.le_of_ble_eq_true rfl) dX9_part_10 ?_
    refine g_goto 25 (pc := 13) dX9_part_13 (by decide) ?_
    exact retI (pc := 25) hR dX9_part_25 (by simp [ptI, c1]) (rfl)
theorem c_X9_foretold_0 {l : Launch} {G : mG} {Z : mZ} {d : mD} {m nw od fd tp rd ah kp ka ln sz it mv : Nat} {x : Int32} (hm : mdS Z m nw od fd tp rd ah kp ka ln sz it mv) : CtI l G yX9_foretold cX9_foretold 12 .int 2 42 [.ref m, .int (nI 0), .int x] Z d (rfI (gA d fd) x 0) d := by
  refine enterI RX9 9 [some (.ref m), some (.int (nI 0)), some (.int x), none, none, none, none, none, none, none, none, none] (by decide) rfl (rfl) rfl rfl (fun X hR => ?_)
  refine il1 (pc := 0) dX9_foretold_0 ?_
  refine g_iconst (pc := 1) dX9_foretold_1 kc3 ?_
  refine g_irem (pc := 2) dX9_foretold_2 (by decide) ?_
  refine g_ifle 10 (pc := 3) dX9_foretold_3 (by decide) (fun c3 => ?_) (fun c3 => absurd (by decide) c3)
  refine g_iconst (pc := 10) dX9_foretold_10 kc0 ?_
  refine is3 (pc := 11) dX9_foretold_11 rfl ?_
  refine il1 (pc := 12) dX9_foretold_12 ?_
  refine g_iconst (pc := 13) dX9_foretold_13 kc2 ?_
  refine g_icmple 21 (pc := 14) dX9_foretold_14 (by decide) (fun c14 => ?_) (fun c14 => absurd (by decide) c14)
  refine g_iconst (pc := 21) dX9_foretold_21 kc0 ?_
  refine is4 (pc := 22) dX9_foretold_22 rfl ?_
  refine il4 (pc := 24) dX9_foretold_24 ?_
  refine g_ifeq 40 (pc := 26) dX9_foretold_26 (by decide) (fun c26 => ?_) (fun c26 => absurd (by decide) c26)
  refine g_iconst (pc := 40) dX9_foretold_40 kc0 ?_
  refine is5 (pc := 41) dX9_foretold_41 rfl ?_
  refine il3 (pc := 43) dX9_foretold_43 ?_
  refine g_ifeq 58 (pc := 44) dX9_foretold_44 (by decide) (fun c44 => ?_) (fun c44 => absurd (by decide) c44)
  refine g_bipush (pc := 58) dX9_foretold_58 kb9 ?_
  refine is6 (pc := 60) dX9_foretold_60 rfl ?_
  refine il4 (pc := 62) dX9_foretold_62 ?_
  refine g_ifeq 78 (pc := 64) dX9_foretold_64 (by decide) (fun c64 => ?_) (fun c64 => absurd (by decide) c64)
  refine g_bipush (pc := 78) dX9_foretold_78 kb9 ?_
  refine is7 (pc := 80) dX9_foretold_80 rfl ?_
  refine il5 (pc := 82) dX9_foretold_82 ?_
  refine g_ifeq 98 (pc := 84) dX9_foretold_84 (by decide) (fun c84 => ?_) (fun c84 => absurd (by decide) c84)
  refine g_bipush (pc := 98) dX9_foretold_98 kb9 ?_
  refine is8 (pc := 100) dX9_foretold_100 rfl ?_
  refine il3 (pc := 102) dX9_foretold_102 ?_
  refine g_ifeq 110 (pc := 103) dX9_foretold_103 (by decide) (fun c103 => ?_) (fun c103 => absurd (by decide) c103)
  refine g_iconst (pc := 110) dX9_foretold_110 kc0 ?_
  refine il4 (pc := 111) dX9_foretold_111 ?_
  refine g_ifeq 120 (pc := 113) dX9_foretold_113 (by decide) (fun c113 => ?_) (fun c113 => absurd (by decide) c113)
  refine g_iconst (pc := 120) dX9_foretold_120 kc0 ?_
  refine g_iadd (pc := 121) dX9_foretold_121 ?_
  refine il5 (pc := 122) dX9_foretold_122 ?_
  refine g_ifeq 131 (pc := 124) dX9_foretold_124 (by decide) (fun c124 => ?_) (fun c124 => absurd (by decide) c124)
  refine g_iconst (pc := 131) dX9_foretold_131 kc0 ?_
  refine g_iadd (pc := 132) dX9_foretold_132 ?_
  refine is9 (pc := 133) dX9_foretold_133 rfl ?_
  refine il6 (pc := 135) dX9_foretold_135 ?_
  refine il7 (pc := 137) dX9_foretold_137 ?_
  refine g_icmpge 159 (pc := 139) dX9_foretold_139 (by decide) (fun c139 => ?_) (fun c139 => ?_)
  · skip
    refine il7 (pc := 159) dX9_foretold_159 ?_
    refine il8 (pc := 161) dX9_foretold_161 ?_
    refine g_icmpge 171 (pc := 163) dX9_foretold_163 (by decide) (fun c163 => ?_) (fun c163 => ?_)
    · skip
      refine il8 (pc := 171) dX9_foretold_171 ?_
      refine is10 (pc := 173) dX9_foretold_173 rfl ?_
      refine il9 (pc := 175) dX9_foretold_175 ?_
      refine g_iconst (pc := 177) dX9_foretold_177 kc3 ?_
      refine g_icmpge 193 (pc := 178) dX9_foretold_178 (by decide) (fun c178 => absurd c178 (by decide)) (fun c178 => ?_)
      refine il9 (pc := 181) dX9_foretold_181 ?_
      refine g_ifne 190 (pc := 183) dX9_foretold_183 (by decide) (fun c183 => absurd (by decide) c183) (fun c183 => ?_)
      refine g_iconst (pc := 186) dX9_foretold_186 kc0 ?_
      refine g_goto 192 (pc := 187) dX9_foretold_187 (by decide) ?_
      exact retI (pc := 192) hR dX9_foretold_192 (rfl) (rfl)
    · skip
      refine il7 (pc := 166) dX9_foretold_166 ?_
      refine g_goto 173 (pc := 168) dX9_foretold_168 (by decide) ?_
      refine is10 (pc := 173) dX9_foretold_173 rfl ?_
      refine il9 (pc := 175) dX9_foretold_175 ?_
      refine g_iconst (pc := 177) dX9_foretold_177 kc3 ?_
      refine g_icmpge 193 (pc := 178) dX9_foretold_178 (by decide) (fun c178 => absurd c178 (by decide)) (fun c178 => ?_)
      refine il9 (pc := 181) dX9_foretold_181 ?_
      refine g_ifne 190 (pc := 183) dX9_foretold_183 (by decide) (fun c183 => absurd (by decide) c183) (fun c183 => ?_)
      refine g_iconst (pc := 186) dX9_foretold_186 kc0 ?_
      refine g_goto 192 (pc := 187) dX9_foretold_187 (by decide) ?_
      exact retI (pc := 192) hR dX9_foretold_192 (rfl) (rfl)
  · skip
    refine il6 (pc := 142) dX9_foretold_142 ?_
    refine il8 (pc := 144) dX9_foretold_144 ?_
    refine g_icmpge 154 (pc := 146) dX9_foretold_146 (by decide) (fun c146 => ?_) (fun c146 => ?_)
    · skip
      refine il8 (pc := 154) dX9_foretold_154 ?_
      refine g_goto 173 (pc := 156) dX9_foretold_156 (by decide) ?_
      refine is10 (pc := 173) dX9_foretold_173 rfl ?_
      refine il9 (pc := 175) dX9_foretold_175 ?_
      refine g_iconst (pc := 177) dX9_foretold_177 kc3 ?_
      refine g_icmpge 193 (pc := 178) dX9_foretold_178 (by decide) (fun c178 => absurd c178 (by decide)) (fun c178 => ?_)
      refine il9 (pc := 181) dX9_foretold_181 ?_
      refine g_ifne 190 (pc := 183) dX9_foretold_183 (by decide) (fun c183 => absurd (by decide) c183) (fun c183 => ?_)
      refine g_iconst (pc := 186) dX9_foretold_186 kc0 ?_
      refine g_goto 192 (pc := 187) dX9_foretold_187 (by decide) ?_
      exact retI (pc := 192) hR dX9_foretold_192 (rfl) (rfl)
    · skip
      refine il6 (pc := 149) dX9_foretold_149 ?_
      refine g_goto 173 (pc := 151) dX9_foretold_151 (by decide) ?_
      refine is10 (pc := 173) dX9_foretold_173 rfl ?_
      refine il9 (pc := 175) dX9_foretold_175 ?_
      refine g_iconst (pc := 177) dX9_foretold_177 kc3 ?_
      refine g_icmpge 193 (pc := 178) dX9_foretold_178 (by decide) (fun c178 => absurd c178 (by decide)) (fun c178 => ?_)
      refine il9 (pc := 181) dX9_foretold_181 ?_
      refine g_ifne 190 (pc := 183) dX9_foretold_183 (by decide) (fun c183 => absurd (by decide) c183) (fun c183 => ?_)
      refine g_iconst (pc := 186) dX9_foretold_186 kc0 ?_
      refine g_goto 192 (pc := 187) dX9_foretold_187 (by decide) ?_
      exact retI (pc := 192) hR dX9_foretold_192 (rfl) (rfl)
theorem c_X9_foretold_1 {l : Launch} {G : mG} {Z : mZ} {d : mD} {m nw od fd tp rd ah kp ka ln sz it mv : Nat} {x : Int32} (hm : mdS Z m nw od fd tp rd ah kp ka ln sz it mv) : CtI l G yX9_foretold cX9_foretold 12 .int 2 42 [.ref m, .int (nI 1), .int x] Z d (rfI (gA d fd) x 1) d := by
  refine enterI RX9 9 [some (.ref m), some (.int (nI 1)), some (.int x), none, none, none, none, none, none, none, none, none] (by decide) rfl (rfl) rfl rfl (fun X hR => ?_)
  refine il1 (pc := 0) dX9_foretold_0 ?_
  refine g_iconst (pc := 1) dX9_foretold_1 kc3 ?_
  refine g_irem (pc := 2) dX9_foretold_2 (by decide) ?_
  refine g_ifle 10 (pc := 3) dX9_foretold_3 (by decide) (fun c3 => absurd c3 (by decide)) (fun c3 => ?_)
  refine g_iconst (pc := 6) dX9_foretold_6 kc1 ?_
  refine g_goto 11 (pc := 7) dX9_foretold_7 (by decide) ?_
  refine is3 (pc := 11) dX9_foretold_11 rfl ?_
  refine il1 (pc := 12) dX9_foretold_12 ?_
  refine g_iconst (pc := 13) dX9_foretold_13 kc2 ?_
  refine g_icmple 21 (pc := 14) dX9_foretold_14 (by decide) (fun c14 => ?_) (fun c14 => absurd (by decide) c14)
  refine g_iconst (pc := 21) dX9_foretold_21 kc0 ?_
  refine is4 (pc := 22) dX9_foretold_22 rfl ?_
  refine il4 (pc := 24) dX9_foretold_24 ?_
  refine g_ifeq 40 (pc := 26) dX9_foretold_26 (by decide) (fun c26 => ?_) (fun c26 => absurd (by decide) c26)
  refine g_iconst (pc := 40) dX9_foretold_40 kc0 ?_
  refine is5 (pc := 41) dX9_foretold_41 rfl ?_
  refine il3 (pc := 43) dX9_foretold_43 ?_
  refine g_ifeq 58 (pc := 44) dX9_foretold_44 (by decide) (fun c44 => absurd c44 (by decide)) (fun c44 => ?_)
  refine al0 (pc := 47) dX9_foretold_47 ?_
  refine il1 (pc := 48) dX9_foretold_48 ?_
  refine g_iconst (pc := 49) dX9_foretold_49 kc1 ?_
  refine g_isub (pc := 50) dX9_foretold_50 ?_
  refine il2 (pc := 51) dX9_foretold_51 ?_
  refine cl_X9_122 (pc := 52) (c_X9_part (b := 0) hm (by decide)) hm.o9 (by decide) ⟨Nat.zero_le _, Nat.zero_le _⟩ (Nat.le_of_ble_eq_true rfl) dX9_foretold_52 ?_
  refine g_goto 60 (pc := 55) dX9_foretold_55 (by decide) ?_
  refine is6 (pc := 60) dX9_foretold_60 rfl ?_
  refine il4 (pc := 62) dX9_foretold_62 ?_
  refine g_ifeq 78 (pc := 64) dX9_foretold_64 (by decide) (fun c64 => ?_) (fun c64 => absurd (by decide) c64)
  refine g_bipush (pc := 78) dX9_foretold_78 kb9 ?_
  refine is7 (pc := 80) dX9_foretold_80 rfl ?_
  refine il5 (pc := 82) dX9_foretold_82 ?_
  refine g_ifeq 98 (pc := 84) dX9_foretold_84 (by decide) (fun c84 => ?_) (fun c84 => absurd (by decide) c84)
  refine g_bipush (pc := 98) dX9_foretold_98 kb9 ?_
  refine is8 (pc := 100) dX9_foretold_100 rfl ?_
  refine il3 (pc := 102) dX9_foretold_102 ?_
  refine g_ifeq 110 (pc := 103) dX9_foretold_103 (by decide) (fun c103 => absurd c103 (by decide)) (fun c103 => ?_)
  refine g_iconst (pc := 106) dX9_foretold_106 kc1 ?_
  refine g_goto 111 (pc := 107) dX9_foretold_107 (by decide) ?_
  refine il4 (pc := 111) dX9_foretold_111 ?_
  refine g_ifeq 120 (pc := 113) dX9_foretold_113 (by decide) (fun c113 => ?_) (fun c113 => absurd (by decide) c113)
  refine g_iconst (pc := 120) dX9_foretold_120 kc0 ?_
  refine g_iadd (pc := 121) dX9_foretold_121 ?_
  refine il5 (pc := 122) dX9_foretold_122 ?_
  refine g_ifeq 131 (pc := 124) dX9_foretold_124 (by decide) (fun c124 => ?_) (fun c124 => absurd (by decide) c124)
  refine g_iconst (pc := 131) dX9_foretold_131 kc0 ?_
  refine g_iadd (pc := 132) dX9_foretold_132 ?_
  refine is9 (pc := 133) dX9_foretold_133 rfl ?_
  refine il6 (pc := 135) dX9_foretold_135 ?_
  refine il7 (pc := 137) dX9_foretold_137 ?_
  refine g_icmpge 159 (pc := 139) dX9_foretold_139 (by decide) (fun c139 => ?_) (fun c139 => ?_)
  · skip
    refine il7 (pc := 159) dX9_foretold_159 ?_
    refine il8 (pc := 161) dX9_foretold_161 ?_
    refine g_icmpge 171 (pc := 163) dX9_foretold_163 (by decide) (fun c163 => ?_) (fun c163 => ?_)
    · skip
      refine il8 (pc := 171) dX9_foretold_171 ?_
      refine is10 (pc := 173) dX9_foretold_173 rfl ?_
      refine il9 (pc := 175) dX9_foretold_175 ?_
      refine g_iconst (pc := 177) dX9_foretold_177 kc3 ?_
      refine g_icmpge 193 (pc := 178) dX9_foretold_178 (by decide) (fun c178 => absurd c178 (by decide)) (fun c178 => ?_)
      refine il9 (pc := 181) dX9_foretold_181 ?_
      refine g_ifne 190 (pc := 183) dX9_foretold_183 (by decide) (fun c183 => ?_) (fun c183 => absurd c183 (by decide))
      refine il10 (pc := 190) dX9_foretold_190 ?_
      exact retI (pc := 192) hR dX9_foretold_192 (by simp [rfI, leI, ← Int32.not_le, c3, c14, c26, c44, c64, c84, c103, c113, c124, c139, c163, c178, c183]) (rfl)
    · skip
      refine il7 (pc := 166) dX9_foretold_166 ?_
      refine g_goto 173 (pc := 168) dX9_foretold_168 (by decide) ?_
      refine is10 (pc := 173) dX9_foretold_173 rfl ?_
      refine il9 (pc := 175) dX9_foretold_175 ?_
      refine g_iconst (pc := 177) dX9_foretold_177 kc3 ?_
      refine g_icmpge 193 (pc := 178) dX9_foretold_178 (by decide) (fun c178 => absurd c178 (by decide)) (fun c178 => ?_)
      refine il9 (pc := 181) dX9_foretold_181 ?_
      refine g_ifne 190 (pc := 183) dX9_foretold_183 (by decide) (fun c183 => ?_) (fun c183 => absurd c183 (by decide))
      refine il10 (pc := 190) dX9_foretold_190 ?_
      exact retI (pc := 192) hR dX9_foretold_192 (by simp [rfI, leI, ← Int32.not_le, c3, c14, c26, c44, c64, c84, c103, c113, c124, c139, c163, c178, c183]) (rfl)
  · skip
    refine il6 (pc := 142) dX9_foretold_142 ?_
    refine il8 (pc := 144) dX9_foretold_144 ?_
    refine g_icmpge 154 (pc := 146) dX9_foretold_146 (by decide) (fun c146 => ?_) (fun c146 => ?_)
    · skip
      refine il8 (pc := 154) dX9_foretold_154 ?_
      refine g_goto 173 (pc := 156) dX9_foretold_156 (by decide) ?_
      refine is10 (pc := 173) dX9_foretold_173 rfl ?_
      refine il9 (pc := 175) dX9_foretold_175 ?_
      refine g_iconst (pc := 177) dX9_foretold_177 kc3 ?_
      refine g_icmpge 193 (pc := 178) dX9_foretold_178 (by decide) (fun c178 => absurd c178 (by decide)) (fun c178 => ?_)
      refine il9 (pc := 181) dX9_foretold_181 ?_
      refine g_ifne 190 (pc := 183) dX9_foretold_183 (by decide) (fun c183 => ?_) (fun c183 => absurd c183 (by decide))
      refine il10 (pc := 190) dX9_foretold_190 ?_
      exact retI (pc := 192) hR dX9_foretold_192 (absurd c146 c139) (rfl)
    · skip
      refine il6 (pc := 149) dX9_foretold_149 ?_
      refine g_goto 173 (pc := 151) dX9_foretold_151 (by decide) ?_
      refine is10 (pc := 173) dX9_foretold_173 rfl ?_
      refine il9 (pc := 175) dX9_foretold_175 ?_
      refine g_iconst (pc := 177) dX9_foretold_177 kc3 ?_
      refine g_icmpge 193 (pc := 178) dX9_foretold_178 (by decide) (fun c178 => absurd c178 (by decide)) (fun c178 => ?_)
      refine il9 (pc := 181) dX9_foretold_181 ?_
      refine g_ifne 190 (pc := 183) dX9_foretold_183 (by decide) (fun c183 => ?_) (fun c183 => absurd c183 (by decide))
      refine il10 (pc := 190) dX9_foretold_190 ?_
      exact retI (pc := 192) hR dX9_foretold_192 (by simp [rfI, leI, ← Int32.not_le, c3, c14, c26, c44, c64, c84, c103, c113, c124, c139, c146, c178, c183]) (rfl)
theorem c_X9_foretold_2 {l : Launch} {G : mG} {Z : mZ} {d : mD} {m nw od fd tp rd ah kp ka ln sz it mv : Nat} {x : Int32} (hm : mdS Z m nw od fd tp rd ah kp ka ln sz it mv) : CtI l G yX9_foretold cX9_foretold 12 .int 2 42 [.ref m, .int (nI 2), .int x] Z d (rfI (gA d fd) x 2) d := by
  refine enterI RX9 9 [some (.ref m), some (.int (nI 2)), some (.int x), none, none, none, none, none, none, none, none, none] (by decide) rfl (rfl) rfl rfl (fun X hR => ?_)
  refine il1 (pc := 0) dX9_foretold_0 ?_
  refine g_iconst (pc := 1) dX9_foretold_1 kc3 ?_
  refine g_irem (pc := 2) dX9_foretold_2 (by decide) ?_
  refine g_ifle 10 (pc := 3) dX9_foretold_3 (by decide) (fun c3 => absurd c3 (by decide)) (fun c3 => ?_)
  refine g_iconst (pc := 6) dX9_foretold_6 kc1 ?_
  refine g_goto 11 (pc := 7) dX9_foretold_7 (by decide) ?_
  refine is3 (pc := 11) dX9_foretold_11 rfl ?_
  refine il1 (pc := 12) dX9_foretold_12 ?_
  refine g_iconst (pc := 13) dX9_foretold_13 kc2 ?_
  refine g_icmple 21 (pc := 14) dX9_foretold_14 (by decide) (fun c14 => ?_) (fun c14 => absurd (by decide) c14)
  refine g_iconst (pc := 21) dX9_foretold_21 kc0 ?_
  refine is4 (pc := 22) dX9_foretold_22 rfl ?_
  refine il4 (pc := 24) dX9_foretold_24 ?_
  refine g_ifeq 40 (pc := 26) dX9_foretold_26 (by decide) (fun c26 => ?_) (fun c26 => absurd (by decide) c26)
  refine g_iconst (pc := 40) dX9_foretold_40 kc0 ?_
  refine is5 (pc := 41) dX9_foretold_41 rfl ?_
  refine il3 (pc := 43) dX9_foretold_43 ?_
  refine g_ifeq 58 (pc := 44) dX9_foretold_44 (by decide) (fun c44 => absurd c44 (by decide)) (fun c44 => ?_)
  refine al0 (pc := 47) dX9_foretold_47 ?_
  refine il1 (pc := 48) dX9_foretold_48 ?_
  refine g_iconst (pc := 49) dX9_foretold_49 kc1 ?_
  refine g_isub (pc := 50) dX9_foretold_50 ?_
  refine il2 (pc := 51) dX9_foretold_51 ?_
  refine cl_X9_122 (pc := 52) (c_X9_part (b := 1) hm (by decide)) hm.o9 (by decide) ⟨Nat.zero_le _, Nat.zero_le _⟩ (Nat.le_of_ble_eq_true rfl) dX9_foretold_52 ?_
  refine g_goto 60 (pc := 55) dX9_foretold_55 (by decide) ?_
  refine is6 (pc := 60) dX9_foretold_60 rfl ?_
  refine il4 (pc := 62) dX9_foretold_62 ?_
  refine g_ifeq 78 (pc := 64) dX9_foretold_64 (by decide) (fun c64 => ?_) (fun c64 => absurd (by decide) c64)
  refine g_bipush (pc := 78) dX9_foretold_78 kb9 ?_
  refine is7 (pc := 80) dX9_foretold_80 rfl ?_
  refine il5 (pc := 82) dX9_foretold_82 ?_
  refine g_ifeq 98 (pc := 84) dX9_foretold_84 (by decide) (fun c84 => ?_) (fun c84 => absurd (by decide) c84)
  refine g_bipush (pc := 98) dX9_foretold_98 kb9 ?_
  refine is8 (pc := 100) dX9_foretold_100 rfl ?_
  refine il3 (pc := 102) dX9_foretold_102 ?_
  refine g_ifeq 110 (pc := 103) dX9_foretold_103 (by decide) (fun c103 => absurd c103 (by decide)) (fun c103 => ?_)
  refine g_iconst (pc := 106) dX9_foretold_106 kc1 ?_
  refine g_goto 111 (pc := 107) dX9_foretold_107 (by decide) ?_
  refine il4 (pc := 111) dX9_foretold_111 ?_
  refine g_ifeq 120 (pc := 113) dX9_foretold_113 (by decide) (fun c113 => ?_) (fun c113 => absurd (by decide) c113)
  refine g_iconst (pc := 120) dX9_foretold_120 kc0 ?_
  refine g_iadd (pc := 121) dX9_foretold_121 ?_
  refine il5 (pc := 122) dX9_foretold_122 ?_
  refine g_ifeq 131 (pc := 124) dX9_foretold_124 (by decide) (fun c124 => ?_) (fun c124 => absurd (by decide) c124)
  refine g_iconst (pc := 131) dX9_foretold_131 kc0 ?_
  refine g_iadd (pc := 132) dX9_foretold_132 ?_
  refine is9 (pc := 133) dX9_foretold_133 rfl ?_
  refine il6 (pc := 135) dX9_foretold_135 ?_
  refine il7 (pc := 137) dX9_foretold_137 ?_
  refine g_icmpge 159 (pc := 139) dX9_foretold_139 (by decide) (fun c139 => ?_) (fun c139 => ?_)
  · skip
    refine il7 (pc := 159) dX9_foretold_159 ?_
    refine il8 (pc := 161) dX9_foretold_161 ?_
    refine g_icmpge 171 (pc := 163) dX9_foretold_163 (by decide) (fun c163 => ?_) (fun c163 => ?_)
    · skip
      refine il8 (pc := 171) dX9_foretold_171 ?_
      refine is10 (pc := 173) dX9_foretold_173 rfl ?_
      refine il9 (pc := 175) dX9_foretold_175 ?_
      refine g_iconst (pc := 177) dX9_foretold_177 kc3 ?_
      refine g_icmpge 193 (pc := 178) dX9_foretold_178 (by decide) (fun c178 => absurd c178 (by decide)) (fun c178 => ?_)
      refine il9 (pc := 181) dX9_foretold_181 ?_
      refine g_ifne 190 (pc := 183) dX9_foretold_183 (by decide) (fun c183 => ?_) (fun c183 => absurd c183 (by decide))
      refine il10 (pc := 190) dX9_foretold_190 ?_
      exact retI (pc := 192) hR dX9_foretold_192 (by simp [rfI, leI, ← Int32.not_le, c3, c14, c26, c44, c64, c84, c103, c113, c124, c139, c163, c178, c183]) (rfl)
    · skip
      refine il7 (pc := 166) dX9_foretold_166 ?_
      refine g_goto 173 (pc := 168) dX9_foretold_168 (by decide) ?_
      refine is10 (pc := 173) dX9_foretold_173 rfl ?_
      refine il9 (pc := 175) dX9_foretold_175 ?_
      refine g_iconst (pc := 177) dX9_foretold_177 kc3 ?_
      refine g_icmpge 193 (pc := 178) dX9_foretold_178 (by decide) (fun c178 => absurd c178 (by decide)) (fun c178 => ?_)
      refine il9 (pc := 181) dX9_foretold_181 ?_
      refine g_ifne 190 (pc := 183) dX9_foretold_183 (by decide) (fun c183 => ?_) (fun c183 => absurd c183 (by decide))
      refine il10 (pc := 190) dX9_foretold_190 ?_
      exact retI (pc := 192) hR dX9_foretold_192 (by simp [rfI, leI, ← Int32.not_le, c3, c14, c26, c44, c64, c84, c103, c113, c124, c139, c163, c178, c183]) (rfl)
  · skip
    refine il6 (pc := 142) dX9_foretold_142 ?_
    refine il8 (pc := 144) dX9_foretold_144 ?_
    refine g_icmpge 154 (pc := 146) dX9_foretold_146 (by decide) (fun c146 => ?_) (fun c146 => ?_)
    · skip
      refine il8 (pc := 154) dX9_foretold_154 ?_
      refine g_goto 173 (pc := 156) dX9_foretold_156 (by decide) ?_
      refine is10 (pc := 173) dX9_foretold_173 rfl ?_
      refine il9 (pc := 175) dX9_foretold_175 ?_
      refine g_iconst (pc := 177) dX9_foretold_177 kc3 ?_
      refine g_icmpge 193 (pc := 178) dX9_foretold_178 (by decide) (fun c178 => absurd c178 (by decide)) (fun c178 => ?_)
      refine il9 (pc := 181) dX9_foretold_181 ?_
      refine g_ifne 190 (pc := 183) dX9_foretold_183 (by decide) (fun c183 => ?_) (fun c183 => absurd c183 (by decide))
      refine il10 (pc := 190) dX9_foretold_190 ?_
      exact retI (pc := 192) hR dX9_foretold_192 (absurd c146 c139) (rfl)
    · skip
      refine il6 (pc := 149) dX9_foretold_149 ?_
      refine g_goto 173 (pc := 151) dX9_foretold_151 (by decide) ?_
      refine is10 (pc := 173) dX9_foretold_173 rfl ?_
      refine il9 (pc := 175) dX9_foretold_175 ?_
      refine g_iconst (pc := 177) dX9_foretold_177 kc3 ?_
      refine g_icmpge 193 (pc := 178) dX9_foretold_178 (by decide) (fun c178 => absurd c178 (by decide)) (fun c178 => ?_)
      refine il9 (pc := 181) dX9_foretold_181 ?_
      refine g_ifne 190 (pc := 183) dX9_foretold_183 (by decide) (fun c183 => ?_) (fun c183 => absurd c183 (by decide))
      refine il10 (pc := 190) dX9_foretold_190 ?_
      exact retI (pc := 192) hR dX9_foretold_192 (by simp [rfI, leI, ← Int32.not_le, c3, c14, c26, c44, c64, c84, c103, c113, c124, c139, c146, c178, c183]) (rfl)
theorem c_X9_foretold_3 {l : Launch} {G : mG} {Z : mZ} {d : mD} {m nw od fd tp rd ah kp ka ln sz it mv : Nat} {x : Int32} (hm : mdS Z m nw od fd tp rd ah kp ka ln sz it mv) : CtI l G yX9_foretold cX9_foretold 12 .int 2 42 [.ref m, .int (nI 3), .int x] Z d (rfI (gA d fd) x 3) d := by
  refine enterI RX9 9 [some (.ref m), some (.int (nI 3)), some (.int x), none, none, none, none, none, none, none, none, none] (by decide) rfl (rfl) rfl rfl (fun X hR => ?_)
  refine il1 (pc := 0) dX9_foretold_0 ?_
  refine g_iconst (pc := 1) dX9_foretold_1 kc3 ?_
  refine g_irem (pc := 2) dX9_foretold_2 (by decide) ?_
  refine g_ifle 10 (pc := 3) dX9_foretold_3 (by decide) (fun c3 => ?_) (fun c3 => absurd (by decide) c3)
  refine g_iconst (pc := 10) dX9_foretold_10 kc0 ?_
  refine is3 (pc := 11) dX9_foretold_11 rfl ?_
  refine il1 (pc := 12) dX9_foretold_12 ?_
  refine g_iconst (pc := 13) dX9_foretold_13 kc2 ?_
  refine g_icmple 21 (pc := 14) dX9_foretold_14 (by decide) (fun c14 => absurd c14 (by decide)) (fun c14 => ?_)
  refine g_iconst (pc := 17) dX9_foretold_17 kc1 ?_
  refine g_goto 22 (pc := 18) dX9_foretold_18 (by decide) ?_
  refine is4 (pc := 22) dX9_foretold_22 rfl ?_
  refine il4 (pc := 24) dX9_foretold_24 ?_
  refine g_ifeq 40 (pc := 26) dX9_foretold_26 (by decide) (fun c26 => absurd c26 (by decide)) (fun c26 => ?_)
  refine il1 (pc := 29) dX9_foretold_29 ?_
  refine g_iconst (pc := 30) dX9_foretold_30 kc3 ?_
  refine g_irem (pc := 31) dX9_foretold_31 (by decide) ?_
  refine g_iconst (pc := 32) dX9_foretold_32 kc2 ?_
  refine g_icmpge 40 (pc := 33) dX9_foretold_33 (by decide) (fun c33 => absurd c33 (by decide)) (fun c33 => ?_)
  refine g_iconst (pc := 36) dX9_foretold_36 kc1 ?_
  refine g_goto 41 (pc := 37) dX9_foretold_37 (by decide) ?_
  refine is5 (pc := 41) dX9_foretold_41 rfl ?_
  refine il3 (pc := 43) dX9_foretold_43 ?_
  refine g_ifeq 58 (pc := 44) dX9_foretold_44 (by decide) (fun c44 => ?_) (fun c44 => absurd (by decide) c44)
  refine g_bipush (pc := 58) dX9_foretold_58 kb9 ?_
  refine is6 (pc := 60) dX9_foretold_60 rfl ?_
  refine il4 (pc := 62) dX9_foretold_62 ?_
  refine g_ifeq 78 (pc := 64) dX9_foretold_64 (by decide) (fun c64 => absurd c64 (by decide)) (fun c64 => ?_)
  refine al0 (pc := 67) dX9_foretold_67 ?_
  refine il1 (pc := 68) dX9_foretold_68 ?_
  refine g_iconst (pc := 69) dX9_foretold_69 kc3 ?_
  refine g_isub (pc := 70) dX9_foretold_70 ?_
  refine il2 (pc := 71) dX9_foretold_71 ?_
  refine cl_X9_122 (pc := 72) (c_X9_part (b := 0) hm (by decide)) hm.o9 (by decide) ⟨Nat.zero_le _, Nat.zero_le _⟩ (Nat.le_of_ble_eq_true rfl) dX9_foretold_72 ?_
  refine g_goto 80 (pc := 75) dX9_foretold_75 (by decide) ?_
  refine is7 (pc := 80) dX9_foretold_80 rfl ?_
  refine il5 (pc := 82) dX9_foretold_82 ?_
  refine g_ifeq 98 (pc := 84) dX9_foretold_84 (by decide) (fun c84 => absurd c84 (by decide)) (fun c84 => ?_)
  refine al0 (pc := 87) dX9_foretold_87 ?_
  refine il1 (pc := 88) dX9_foretold_88 ?_
  refine g_iconst (pc := 89) dX9_foretold_89 kc2 ?_
  refine g_isub (pc := 90) dX9_foretold_90 ?_
  refine il2 (pc := 91) dX9_foretold_91 ?_
  refine cl_X9_122 (pc := 92) (c_X9_part (b := 1) hm (by decide)) hm.o9 (by decide) ⟨Nat.zero_le _, Nat.zero_le _⟩ (Nat.le_of_ble_eq_true rfl) dX9_foretold_92 ?_
  refine g_goto 100 (pc := 95) dX9_foretold_95 (by decide) ?_
  refine is8 (pc := 100) dX9_foretold_100 rfl ?_
  refine il3 (pc := 102) dX9_foretold_102 ?_
  refine g_ifeq 110 (pc := 103) dX9_foretold_103 (by decide) (fun c103 => ?_) (fun c103 => absurd (by decide) c103)
  refine g_iconst (pc := 110) dX9_foretold_110 kc0 ?_
  refine il4 (pc := 111) dX9_foretold_111 ?_
  refine g_ifeq 120 (pc := 113) dX9_foretold_113 (by decide) (fun c113 => absurd c113 (by decide)) (fun c113 => ?_)
  refine g_iconst (pc := 116) dX9_foretold_116 kc1 ?_
  refine g_goto 121 (pc := 117) dX9_foretold_117 (by decide) ?_
  refine g_iadd (pc := 121) dX9_foretold_121 ?_
  refine il5 (pc := 122) dX9_foretold_122 ?_
  refine g_ifeq 131 (pc := 124) dX9_foretold_124 (by decide) (fun c124 => absurd c124 (by decide)) (fun c124 => ?_)
  refine g_iconst (pc := 127) dX9_foretold_127 kc1 ?_
  refine g_goto 132 (pc := 128) dX9_foretold_128 (by decide) ?_
  refine g_iadd (pc := 132) dX9_foretold_132 ?_
  refine is9 (pc := 133) dX9_foretold_133 rfl ?_
  refine il6 (pc := 135) dX9_foretold_135 ?_
  refine il7 (pc := 137) dX9_foretold_137 ?_
  refine g_icmpge 159 (pc := 139) dX9_foretold_139 (by decide) (fun c139 => ?_) (fun c139 => ?_)
  · skip
    refine il7 (pc := 159) dX9_foretold_159 ?_
    refine il8 (pc := 161) dX9_foretold_161 ?_
    refine g_icmpge 171 (pc := 163) dX9_foretold_163 (by decide) (fun c163 => ?_) (fun c163 => ?_)
    · skip
      refine il8 (pc := 171) dX9_foretold_171 ?_
      refine is10 (pc := 173) dX9_foretold_173 rfl ?_
      refine il9 (pc := 175) dX9_foretold_175 ?_
      refine g_iconst (pc := 177) dX9_foretold_177 kc3 ?_
      refine g_icmpge 193 (pc := 178) dX9_foretold_178 (by decide) (fun c178 => absurd c178 (by decide)) (fun c178 => ?_)
      refine il9 (pc := 181) dX9_foretold_181 ?_
      refine g_ifne 190 (pc := 183) dX9_foretold_183 (by decide) (fun c183 => ?_) (fun c183 => absurd c183 (by decide))
      refine il10 (pc := 190) dX9_foretold_190 ?_
      exact retI (pc := 192) hR dX9_foretold_192 (by simp [rfI, leI, ← Int32.not_le, c3, c14, c26, c33, c44, c64, c84, c103, c113, c124, c139, c163, c178, c183]) (rfl)
    · skip
      refine il7 (pc := 166) dX9_foretold_166 ?_
      refine g_goto 173 (pc := 168) dX9_foretold_168 (by decide) ?_
      refine is10 (pc := 173) dX9_foretold_173 rfl ?_
      refine il9 (pc := 175) dX9_foretold_175 ?_
      refine g_iconst (pc := 177) dX9_foretold_177 kc3 ?_
      refine g_icmpge 193 (pc := 178) dX9_foretold_178 (by decide) (fun c178 => absurd c178 (by decide)) (fun c178 => ?_)
      refine il9 (pc := 181) dX9_foretold_181 ?_
      refine g_ifne 190 (pc := 183) dX9_foretold_183 (by decide) (fun c183 => ?_) (fun c183 => absurd c183 (by decide))
      refine il10 (pc := 190) dX9_foretold_190 ?_
      exact retI (pc := 192) hR dX9_foretold_192 (by simp [rfI, leI, ← Int32.not_le, c3, c14, c26, c33, c44, c64, c84, c103, c113, c124, c139, c163, c178, c183]) (rfl)
  · skip
    refine il6 (pc := 142) dX9_foretold_142 ?_
    refine il8 (pc := 144) dX9_foretold_144 ?_
    refine g_icmpge 154 (pc := 146) dX9_foretold_146 (by decide) (fun c146 => ?_) (fun c146 => ?_)
    · skip
      refine il8 (pc := 154) dX9_foretold_154 ?_
      refine g_goto 173 (pc := 156) dX9_foretold_156 (by decide) ?_
      refine is10 (pc := 173) dX9_foretold_173 rfl ?_
      refine il9 (pc := 175) dX9_foretold_175 ?_
      refine g_iconst (pc := 177) dX9_foretold_177 kc3 ?_
      refine g_icmpge 193 (pc := 178) dX9_foretold_178 (by decide) (fun c178 => absurd c178 (by decide)) (fun c178 => ?_)
      refine il9 (pc := 181) dX9_foretold_181 ?_
      refine g_ifne 190 (pc := 183) dX9_foretold_183 (by decide) (fun c183 => ?_) (fun c183 => absurd c183 (by decide))
      refine il10 (pc := 190) dX9_foretold_190 ?_
      exact retI (pc := 192) hR dX9_foretold_192 (by simp [rfI, leI, ← Int32.not_le, c3, c14, c26, c33, c44, c64, c84, c103, c113, c124, c139, c146, c178, c183]) (rfl)
    · skip
      refine il6 (pc := 149) dX9_foretold_149 ?_
      refine g_goto 173 (pc := 151) dX9_foretold_151 (by decide) ?_
      refine is10 (pc := 173) dX9_foretold_173 rfl ?_
      refine il9 (pc := 175) dX9_foretold_175 ?_
      refine g_iconst (pc := 177) dX9_foretold_177 kc3 ?_
      refine g_icmpge 193 (pc := 178) dX9_foretold_178 (by decide) (fun c178 => absurd c178 (by decide)) (fun c178 => ?_)
      refine il9 (pc := 181) dX9_foretold_181 ?_
      refine g_ifne 190 (pc := 183) dX9_foretold_183 (by decide) (fun c183 => ?_) (fun c183 => absurd c183 (by decide))
      refine il10 (pc := 190) dX9_foretold_190 ?_
      exact retI (pc := 192) hR dX9_foretold_192 (by simp [rfI, leI, ← Int32.not_le, c3, c14, c26, c33, c44, c64, c84, c103, c113, c124, c139, c146, c178, c183]) (rfl)
theorem c_X9_foretold_4 {l : Launch} {G : mG} {Z : mZ} {d : mD} {m nw od fd tp rd ah kp ka ln sz it mv : Nat} {x : Int32} (hm : mdS Z m nw od fd tp rd ah kp ka ln sz it mv) : CtI l G yX9_foretold cX9_foretold 12 .int 2 42 [.ref m, .int (nI 4), .int x] Z d (rfI (gA d fd) x 4) d := by
  refine enterI RX9 9 [some (.ref m), some (.int (nI 4)), some (.int x), none, none, none, none, none, none, none, none, none] (by decide) rfl (rfl) rfl rfl (fun X hR => ?_)
  refine il1 (pc := 0) dX9_foretold_0 ?_
  refine g_iconst (pc := 1) dX9_foretold_1 kc3 ?_
  refine g_irem (pc := 2) dX9_foretold_2 (by decide) ?_
  refine g_ifle 10 (pc := 3) dX9_foretold_3 (by decide) (fun c3 => absurd c3 (by decide)) (fun c3 => ?_)
  refine g_iconst (pc := 6) dX9_foretold_6 kc1 ?_
  refine g_goto 11 (pc := 7) dX9_foretold_7 (by decide) ?_
  refine is3 (pc := 11) dX9_foretold_11 rfl ?_
  refine il1 (pc := 12) dX9_foretold_12 ?_
  refine g_iconst (pc := 13) dX9_foretold_13 kc2 ?_
  refine g_icmple 21 (pc := 14) dX9_foretold_14 (by decide) (fun c14 => absurd c14 (by decide)) (fun c14 => ?_)
  refine g_iconst (pc := 17) dX9_foretold_17 kc1 ?_
  refine g_goto 22 (pc := 18) dX9_foretold_18 (by decide) ?_
  refine is4 (pc := 22) dX9_foretold_22 rfl ?_
  refine il4 (pc := 24) dX9_foretold_24 ?_
  refine g_ifeq 40 (pc := 26) dX9_foretold_26 (by decide) (fun c26 => absurd c26 (by decide)) (fun c26 => ?_)
  refine il1 (pc := 29) dX9_foretold_29 ?_
  refine g_iconst (pc := 30) dX9_foretold_30 kc3 ?_
  refine g_irem (pc := 31) dX9_foretold_31 (by decide) ?_
  refine g_iconst (pc := 32) dX9_foretold_32 kc2 ?_
  refine g_icmpge 40 (pc := 33) dX9_foretold_33 (by decide) (fun c33 => absurd c33 (by decide)) (fun c33 => ?_)
  refine g_iconst (pc := 36) dX9_foretold_36 kc1 ?_
  refine g_goto 41 (pc := 37) dX9_foretold_37 (by decide) ?_
  refine is5 (pc := 41) dX9_foretold_41 rfl ?_
  refine il3 (pc := 43) dX9_foretold_43 ?_
  refine g_ifeq 58 (pc := 44) dX9_foretold_44 (by decide) (fun c44 => absurd c44 (by decide)) (fun c44 => ?_)
  refine al0 (pc := 47) dX9_foretold_47 ?_
  refine il1 (pc := 48) dX9_foretold_48 ?_
  refine g_iconst (pc := 49) dX9_foretold_49 kc1 ?_
  refine g_isub (pc := 50) dX9_foretold_50 ?_
  refine il2 (pc := 51) dX9_foretold_51 ?_
  refine cl_X9_122 (pc := 52) (c_X9_part (b := 3) hm (by decide)) hm.o9 (by decide) ⟨Nat.zero_le _, Nat.zero_le _⟩ (Nat.le_of_ble_eq_true rfl) dX9_foretold_52 ?_
  refine g_goto 60 (pc := 55) dX9_foretold_55 (by decide) ?_
  refine is6 (pc := 60) dX9_foretold_60 rfl ?_
  refine il4 (pc := 62) dX9_foretold_62 ?_
  refine g_ifeq 78 (pc := 64) dX9_foretold_64 (by decide) (fun c64 => absurd c64 (by decide)) (fun c64 => ?_)
  refine al0 (pc := 67) dX9_foretold_67 ?_
  refine il1 (pc := 68) dX9_foretold_68 ?_
  refine g_iconst (pc := 69) dX9_foretold_69 kc3 ?_
  refine g_isub (pc := 70) dX9_foretold_70 ?_
  refine il2 (pc := 71) dX9_foretold_71 ?_
  refine cl_X9_122 (pc := 72) (c_X9_part (b := 1) hm (by decide)) hm.o9 (by decide) ⟨Nat.zero_le _, Nat.zero_le _⟩ (Nat.le_of_ble_eq_true rfl) dX9_foretold_72 ?_
  refine g_goto 80 (pc := 75) dX9_foretold_75 (by decide) ?_
  refine is7 (pc := 80) dX9_foretold_80 rfl ?_
  refine il5 (pc := 82) dX9_foretold_82 ?_
  refine g_ifeq 98 (pc := 84) dX9_foretold_84 (by decide) (fun c84 => absurd c84 (by decide)) (fun c84 => ?_)
  refine al0 (pc := 87) dX9_foretold_87 ?_
  refine il1 (pc := 88) dX9_foretold_88 ?_
  refine g_iconst (pc := 89) dX9_foretold_89 kc2 ?_
  refine g_isub (pc := 90) dX9_foretold_90 ?_
  refine il2 (pc := 91) dX9_foretold_91 ?_
  refine cl_X9_122 (pc := 92) (c_X9_part (b := 2) hm (by decide)) hm.o9 (by decide) ⟨Nat.zero_le _, Nat.zero_le _⟩ (Nat.le_of_ble_eq_true rfl) dX9_foretold_92 ?_
  refine g_goto 100 (pc := 95) dX9_foretold_95 (by decide) ?_
  refine is8 (pc := 100) dX9_foretold_100 rfl ?_
  refine il3 (pc := 102) dX9_foretold_102 ?_
  refine g_ifeq 110 (pc := 103) dX9_foretold_103 (by decide) (fun c103 => absurd c103 (by decide)) (fun c103 => ?_)
  refine g_iconst (pc := 106) dX9_foretold_106 kc1 ?_
  refine g_goto 111 (pc := 107) dX9_foretold_107 (by decide) ?_
  refine il4 (pc := 111) dX9_foretold_111 ?_
  refine g_ifeq 120 (pc := 113) dX9_foretold_113 (by decide) (fun c113 => absurd c113 (by decide)) (fun c113 => ?_)
  refine g_iconst (pc := 116) dX9_foretold_116 kc1 ?_
  refine g_goto 121 (pc := 117) dX9_foretold_117 (by decide) ?_
  refine g_iadd (pc := 121) dX9_foretold_121 ?_
  refine il5 (pc := 122) dX9_foretold_122 ?_
  refine g_ifeq 131 (pc := 124) dX9_foretold_124 (by decide) (fun c124 => absurd c124 (by decide)) (fun c124 => ?_)
  refine g_iconst (pc := 127) dX9_foretold_127 kc1 ?_
  refine g_goto 132 (pc := 128) dX9_foretold_128 (by decide) ?_
  refine g_iadd (pc := 132) dX9_foretold_132 ?_
  refine is9 (pc := 133) dX9_foretold_133 rfl ?_
  refine il6 (pc := 135) dX9_foretold_135 ?_
  refine il7 (pc := 137) dX9_foretold_137 ?_
  refine g_icmpge 159 (pc := 139) dX9_foretold_139 (by decide) (fun c139 => ?_) (fun c139 => ?_)
  · skip
    refine il7 (pc := 159) dX9_foretold_159 ?_
    refine il8 (pc := 161) dX9_foretold_161 ?_
    refine g_icmpge 171 (pc := 163) dX9_foretold_163 (by decide) (fun c163 => ?_) (fun c163 => ?_)
    · skip
      refine il8 (pc := 171) dX9_foretold_171 ?_
      refine is10 (pc := 173) dX9_foretold_173 rfl ?_
      refine il9 (pc := 175) dX9_foretold_175 ?_
      refine g_iconst (pc := 177) dX9_foretold_177 kc3 ?_
      refine g_icmpge 193 (pc := 178) dX9_foretold_178 (by decide) (fun c178 => ?_) (fun c178 => absurd (by decide) c178)
      refine il6 (pc := 193) dX9_foretold_193 ?_
      refine il7 (pc := 195) dX9_foretold_195 ?_
      refine g_icmple 217 (pc := 197) dX9_foretold_197 (by decide) (fun c197 => ?_) (fun c197 => ?_)
      · skip
        refine il7 (pc := 217) dX9_foretold_217 ?_
        refine il8 (pc := 219) dX9_foretold_219 ?_
        refine g_icmple 229 (pc := 221) dX9_foretold_221 (by decide) (fun c221 => ?_) (fun c221 => ?_)
        · skip
          refine il8 (pc := 229) dX9_foretold_229 ?_
          refine is11 (pc := 231) dX9_foretold_231 rfl ?_
          refine il6 (pc := 233) dX9_foretold_233 ?_
          refine il7 (pc := 235) dX9_foretold_235 ?_
          refine g_iadd (pc := 237) dX9_foretold_237 ?_
          refine il8 (pc := 238) dX9_foretold_238 ?_
          refine g_iadd (pc := 240) dX9_foretold_240 ?_
          refine il10 (pc := 241) dX9_foretold_241 ?_
          refine g_isub (pc := 243) dX9_foretold_243 ?_
          refine il11 (pc := 244) dX9_foretold_244 ?_
          refine g_isub (pc := 246) dX9_foretold_246 ?_
          exact retI (pc := 247) hR dX9_foretold_247 (by simp only [rfI, leI, moI, ← Int32.not_le]; simp [c3, c14, c26, c33, c44, c64, c84, c103, c113, c124, c139, c163, c178, c197, c221]) (rfl)
        · skip
          refine il7 (pc := 224) dX9_foretold_224 ?_
          refine g_goto 231 (pc := 226) dX9_foretold_226 (by decide) ?_
          refine is11 (pc := 231) dX9_foretold_231 rfl ?_
          refine il6 (pc := 233) dX9_foretold_233 ?_
          refine il7 (pc := 235) dX9_foretold_235 ?_
          refine g_iadd (pc := 237) dX9_foretold_237 ?_
          refine il8 (pc := 238) dX9_foretold_238 ?_
          refine g_iadd (pc := 240) dX9_foretold_240 ?_
          refine il10 (pc := 241) dX9_foretold_241 ?_
          refine g_isub (pc := 243) dX9_foretold_243 ?_
          refine il11 (pc := 244) dX9_foretold_244 ?_
          refine g_isub (pc := 246) dX9_foretold_246 ?_
          exact retI (pc := 247) hR dX9_foretold_247 (by simp only [rfI, leI, moI, ← Int32.not_le]; simp [c3, c14, c26, c33, c44, c64, c84, c103, c113, c124, c139, c163, c178, c197, c221]) (rfl)
      · skip
        refine il6 (pc := 200) dX9_foretold_200 ?_
        refine il8 (pc := 202) dX9_foretold_202 ?_
        refine g_icmple 212 (pc := 204) dX9_foretold_204 (by decide) (fun c204 => ?_) (fun c204 => ?_)
        · skip
          refine il8 (pc := 212) dX9_foretold_212 ?_
          refine g_goto 231 (pc := 214) dX9_foretold_214 (by decide) ?_
          refine is11 (pc := 231) dX9_foretold_231 rfl ?_
          refine il6 (pc := 233) dX9_foretold_233 ?_
          refine il7 (pc := 235) dX9_foretold_235 ?_
          refine g_iadd (pc := 237) dX9_foretold_237 ?_
          refine il8 (pc := 238) dX9_foretold_238 ?_
          refine g_iadd (pc := 240) dX9_foretold_240 ?_
          refine il10 (pc := 241) dX9_foretold_241 ?_
          refine g_isub (pc := 243) dX9_foretold_243 ?_
          refine il11 (pc := 244) dX9_foretold_244 ?_
          refine g_isub (pc := 246) dX9_foretold_246 ?_
          exact retI (pc := 247) hR dX9_foretold_247 (by simp only [rfI, leI, moI, ← Int32.not_le]; simp [c3, c14, c26, c33, c44, c64, c84, c103, c113, c124, c139, c163, c178, c197, c204]) (rfl)
        · skip
          refine il6 (pc := 207) dX9_foretold_207 ?_
          refine g_goto 231 (pc := 209) dX9_foretold_209 (by decide) ?_
          refine is11 (pc := 231) dX9_foretold_231 rfl ?_
          refine il6 (pc := 233) dX9_foretold_233 ?_
          refine il7 (pc := 235) dX9_foretold_235 ?_
          refine g_iadd (pc := 237) dX9_foretold_237 ?_
          refine il8 (pc := 238) dX9_foretold_238 ?_
          refine g_iadd (pc := 240) dX9_foretold_240 ?_
          refine il10 (pc := 241) dX9_foretold_241 ?_
          refine g_isub (pc := 243) dX9_foretold_243 ?_
          refine il11 (pc := 244) dX9_foretold_244 ?_
          refine g_isub (pc := 246) dX9_foretold_246 ?_
          exact retI (pc := 247) hR dX9_foretold_247 (by simp only [rfI, leI, moI, ← Int32.not_le]; simp [c3, c14, c26, c33, c44, c64, c84, c103, c113, c124, c139, c163, c178, c197, c204]) (rfl)
    · skip
      refine il7 (pc := 166) dX9_foretold_166 ?_
      refine g_goto 173 (pc := 168) dX9_foretold_168 (by decide) ?_
      refine is10 (pc := 173) dX9_foretold_173 rfl ?_
      refine il9 (pc := 175) dX9_foretold_175 ?_
      refine g_iconst (pc := 177) dX9_foretold_177 kc3 ?_
      refine g_icmpge 193 (pc := 178) dX9_foretold_178 (by decide) (fun c178 => ?_) (fun c178 => absurd (by decide) c178)
      refine il6 (pc := 193) dX9_foretold_193 ?_
      refine il7 (pc := 195) dX9_foretold_195 ?_
      refine g_icmple 217 (pc := 197) dX9_foretold_197 (by decide) (fun c197 => ?_) (fun c197 => ?_)
      · skip
        refine il7 (pc := 217) dX9_foretold_217 ?_
        refine il8 (pc := 219) dX9_foretold_219 ?_
        refine g_icmple 229 (pc := 221) dX9_foretold_221 (by decide) (fun c221 => ?_) (fun c221 => ?_)
        · skip
          refine il8 (pc := 229) dX9_foretold_229 ?_
          refine is11 (pc := 231) dX9_foretold_231 rfl ?_
          refine il6 (pc := 233) dX9_foretold_233 ?_
          refine il7 (pc := 235) dX9_foretold_235 ?_
          refine g_iadd (pc := 237) dX9_foretold_237 ?_
          refine il8 (pc := 238) dX9_foretold_238 ?_
          refine g_iadd (pc := 240) dX9_foretold_240 ?_
          refine il10 (pc := 241) dX9_foretold_241 ?_
          refine g_isub (pc := 243) dX9_foretold_243 ?_
          refine il11 (pc := 244) dX9_foretold_244 ?_
          refine g_isub (pc := 246) dX9_foretold_246 ?_
          exact retI (pc := 247) hR dX9_foretold_247 (by simp only [rfI, leI, moI, ← Int32.not_le]; simp [c3, c14, c26, c33, c44, c64, c84, c103, c113, c124, c139, c163, c178, c197, c221]) (rfl)
        · skip
          refine il7 (pc := 224) dX9_foretold_224 ?_
          refine g_goto 231 (pc := 226) dX9_foretold_226 (by decide) ?_
          refine is11 (pc := 231) dX9_foretold_231 rfl ?_
          refine il6 (pc := 233) dX9_foretold_233 ?_
          refine il7 (pc := 235) dX9_foretold_235 ?_
          refine g_iadd (pc := 237) dX9_foretold_237 ?_
          refine il8 (pc := 238) dX9_foretold_238 ?_
          refine g_iadd (pc := 240) dX9_foretold_240 ?_
          refine il10 (pc := 241) dX9_foretold_241 ?_
          refine g_isub (pc := 243) dX9_foretold_243 ?_
          refine il11 (pc := 244) dX9_foretold_244 ?_
          refine g_isub (pc := 246) dX9_foretold_246 ?_
          exact retI (pc := 247) hR dX9_foretold_247 (by simp only [rfI, leI, moI, ← Int32.not_le]; simp [c3, c14, c26, c33, c44, c64, c84, c103, c113, c124, c139, c163, c178, c197, c221]) (rfl)
      · skip
        refine il6 (pc := 200) dX9_foretold_200 ?_
        refine il8 (pc := 202) dX9_foretold_202 ?_
        refine g_icmple 212 (pc := 204) dX9_foretold_204 (by decide) (fun c204 => ?_) (fun c204 => ?_)
        · skip
          refine il8 (pc := 212) dX9_foretold_212 ?_
          refine g_goto 231 (pc := 214) dX9_foretold_214 (by decide) ?_
          refine is11 (pc := 231) dX9_foretold_231 rfl ?_
          refine il6 (pc := 233) dX9_foretold_233 ?_
          refine il7 (pc := 235) dX9_foretold_235 ?_
          refine g_iadd (pc := 237) dX9_foretold_237 ?_
          refine il8 (pc := 238) dX9_foretold_238 ?_
          refine g_iadd (pc := 240) dX9_foretold_240 ?_
          refine il10 (pc := 241) dX9_foretold_241 ?_
          refine g_isub (pc := 243) dX9_foretold_243 ?_
          refine il11 (pc := 244) dX9_foretold_244 ?_
          refine g_isub (pc := 246) dX9_foretold_246 ?_
          exact retI (pc := 247) hR dX9_foretold_247 (by simp only [rfI, leI, moI, ← Int32.not_le]; simp [c3, c14, c26, c33, c44, c64, c84, c103, c113, c124, c139, c163, c178, c197, c204]) (rfl)
        · skip
          refine il6 (pc := 207) dX9_foretold_207 ?_
          refine g_goto 231 (pc := 209) dX9_foretold_209 (by decide) ?_
          refine is11 (pc := 231) dX9_foretold_231 rfl ?_
          refine il6 (pc := 233) dX9_foretold_233 ?_
          refine il7 (pc := 235) dX9_foretold_235 ?_
          refine g_iadd (pc := 237) dX9_foretold_237 ?_
          refine il8 (pc := 238) dX9_foretold_238 ?_
          refine g_iadd (pc := 240) dX9_foretold_240 ?_
          refine il10 (pc := 241) dX9_foretold_241 ?_
          refine g_isub (pc := 243) dX9_foretold_243 ?_
          refine il11 (pc := 244) dX9_foretold_244 ?_
          refine g_isub (pc := 246) dX9_foretold_246 ?_
          exact retI (pc := 247) hR dX9_foretold_247 (by simp only [rfI, leI, moI, ← Int32.not_le]; simp [c3, c14, c26, c33, c44, c64, c84, c103, c113, c124, c139, c163, c178, c197, c204]) (rfl)
  · skip
    refine il6 (pc := 142) dX9_foretold_142 ?_
    refine il8 (pc := 144) dX9_foretold_144 ?_
    refine g_icmpge 154 (pc := 146) dX9_foretold_146 (by decide) (fun c146 => ?_) (fun c146 => ?_)
    · skip
      refine il8 (pc := 154) dX9_foretold_154 ?_
      refine g_goto 173 (pc := 156) dX9_foretold_156 (by decide) ?_
      refine is10 (pc := 173) dX9_foretold_173 rfl ?_
      refine il9 (pc := 175) dX9_foretold_175 ?_
      refine g_iconst (pc := 177) dX9_foretold_177 kc3 ?_
      refine g_icmpge 193 (pc := 178) dX9_foretold_178 (by decide) (fun c178 => ?_) (fun c178 => absurd (by decide) c178)
      refine il6 (pc := 193) dX9_foretold_193 ?_
      refine il7 (pc := 195) dX9_foretold_195 ?_
      refine g_icmple 217 (pc := 197) dX9_foretold_197 (by decide) (fun c197 => ?_) (fun c197 => ?_)
      · skip
        refine il7 (pc := 217) dX9_foretold_217 ?_
        refine il8 (pc := 219) dX9_foretold_219 ?_
        refine g_icmple 229 (pc := 221) dX9_foretold_221 (by decide) (fun c221 => ?_) (fun c221 => ?_)
        · skip
          refine il8 (pc := 229) dX9_foretold_229 ?_
          refine is11 (pc := 231) dX9_foretold_231 rfl ?_
          refine il6 (pc := 233) dX9_foretold_233 ?_
          refine il7 (pc := 235) dX9_foretold_235 ?_
          refine g_iadd (pc := 237) dX9_foretold_237 ?_
          refine il8 (pc := 238) dX9_foretold_238 ?_
          refine g_iadd (pc := 240) dX9_foretold_240 ?_
          refine il10 (pc := 241) dX9_foretold_241 ?_
          refine g_isub (pc := 243) dX9_foretold_243 ?_
          refine il11 (pc := 244) dX9_foretold_244 ?_
          refine g_isub (pc := 246) dX9_foretold_246 ?_
          exact retI (pc := 247) hR dX9_foretold_247 (by simp only [rfI, leI, moI, ← Int32.not_le]; simp [c3, c14, c26, c33, c44, c64, c84, c103, c113, c124, c139, c146, c178, c197, c221]) (rfl)
        · skip
          refine il7 (pc := 224) dX9_foretold_224 ?_
          refine g_goto 231 (pc := 226) dX9_foretold_226 (by decide) ?_
          refine is11 (pc := 231) dX9_foretold_231 rfl ?_
          refine il6 (pc := 233) dX9_foretold_233 ?_
          refine il7 (pc := 235) dX9_foretold_235 ?_
          refine g_iadd (pc := 237) dX9_foretold_237 ?_
          refine il8 (pc := 238) dX9_foretold_238 ?_
          refine g_iadd (pc := 240) dX9_foretold_240 ?_
          refine il10 (pc := 241) dX9_foretold_241 ?_
          refine g_isub (pc := 243) dX9_foretold_243 ?_
          refine il11 (pc := 244) dX9_foretold_244 ?_
          refine g_isub (pc := 246) dX9_foretold_246 ?_
          exact retI (pc := 247) hR dX9_foretold_247 (by simp only [rfI, leI, moI, ← Int32.not_le]; simp [c3, c14, c26, c33, c44, c64, c84, c103, c113, c124, c139, c146, c178, c197, c221]) (rfl)
      · skip
        refine il6 (pc := 200) dX9_foretold_200 ?_
        refine il8 (pc := 202) dX9_foretold_202 ?_
        refine g_icmple 212 (pc := 204) dX9_foretold_204 (by decide) (fun c204 => ?_) (fun c204 => ?_)
        · skip
          refine il8 (pc := 212) dX9_foretold_212 ?_
          refine g_goto 231 (pc := 214) dX9_foretold_214 (by decide) ?_
          refine is11 (pc := 231) dX9_foretold_231 rfl ?_
          refine il6 (pc := 233) dX9_foretold_233 ?_
          refine il7 (pc := 235) dX9_foretold_235 ?_
          refine g_iadd (pc := 237) dX9_foretold_237 ?_
          refine il8 (pc := 238) dX9_foretold_238 ?_
          refine g_iadd (pc := 240) dX9_foretold_240 ?_
          refine il10 (pc := 241) dX9_foretold_241 ?_
          refine g_isub (pc := 243) dX9_foretold_243 ?_
          refine il11 (pc := 244) dX9_foretold_244 ?_
          refine g_isub (pc := 246) dX9_foretold_246 ?_
          exact retI (pc := 247) hR dX9_foretold_247 (by simp only [rfI, leI, moI, ← Int32.not_le]; simp [c3, c14, c26, c33, c44, c64, c84, c103, c113, c124, c139, c146, c178, c197, c204]) (rfl)
        · skip
          refine il6 (pc := 207) dX9_foretold_207 ?_
          refine g_goto 231 (pc := 209) dX9_foretold_209 (by decide) ?_
          refine is11 (pc := 231) dX9_foretold_231 rfl ?_
          refine il6 (pc := 233) dX9_foretold_233 ?_
          refine il7 (pc := 235) dX9_foretold_235 ?_
          refine g_iadd (pc := 237) dX9_foretold_237 ?_
          refine il8 (pc := 238) dX9_foretold_238 ?_
          refine g_iadd (pc := 240) dX9_foretold_240 ?_
          refine il10 (pc := 241) dX9_foretold_241 ?_
          refine g_isub (pc := 243) dX9_foretold_243 ?_
          refine il11 (pc := 244) dX9_foretold_244 ?_
          refine g_isub (pc := 246) dX9_foretold_246 ?_
          exact retI (pc := 247) hR dX9_foretold_247 (by simp only [rfI, leI, moI, ← Int32.not_le]; simp [c3, c14, c26, c33, c44, c64, c84, c103, c113, c124, c139, c146, c178, c197, c204]) (rfl)
    · skip
      refine il6 (pc := 149) dX9_foretold_149 ?_
      refine g_goto 173 (pc := 151) dX9_foretold_151 (by decide) ?_
      refine is10 (pc := 173) dX9_foretold_173 rfl ?_
      refine il9 (pc := 175) dX9_foretold_175 ?_
      refine g_iconst (pc := 177) dX9_foretold_177 kc3 ?_
      refine g_icmpge 193 (pc := 178) dX9_foretold_178 (by decide) (fun c178 => ?_) (fun c178 => absurd (by decide) c178)
      refine il6 (pc := 193) dX9_foretold_193 ?_
      refine il7 (pc := 195) dX9_foretold_195 ?_
      refine g_icmple 217 (pc := 197) dX9_foretold_197 (by decide) (fun c197 => ?_) (fun c197 => ?_)
      · skip
        refine il7 (pc := 217) dX9_foretold_217 ?_
        refine il8 (pc := 219) dX9_foretold_219 ?_
        refine g_icmple 229 (pc := 221) dX9_foretold_221 (by decide) (fun c221 => ?_) (fun c221 => ?_)
        · skip
          refine il8 (pc := 229) dX9_foretold_229 ?_
          refine is11 (pc := 231) dX9_foretold_231 rfl ?_
          refine il6 (pc := 233) dX9_foretold_233 ?_
          refine il7 (pc := 235) dX9_foretold_235 ?_
          refine g_iadd (pc := 237) dX9_foretold_237 ?_
          refine il8 (pc := 238) dX9_foretold_238 ?_
          refine g_iadd (pc := 240) dX9_foretold_240 ?_
          refine il10 (pc := 241) dX9_foretold_241 ?_
          refine g_isub (pc := 243) dX9_foretold_243 ?_
          refine il11 (pc := 244) dX9_foretold_244 ?_
          refine g_isub (pc := 246) dX9_foretold_246 ?_
          exact retI (pc := 247) hR dX9_foretold_247 (by simp only [rfI, leI, moI, ← Int32.not_le]; simp [c3, c14, c26, c33, c44, c64, c84, c103, c113, c124, c139, c146, c178, c197, c221]) (rfl)
        · skip
          refine il7 (pc := 224) dX9_foretold_224 ?_
          refine g_goto 231 (pc := 226) dX9_foretold_226 (by decide) ?_
          refine is11 (pc := 231) dX9_foretold_231 rfl ?_
          refine il6 (pc := 233) dX9_foretold_233 ?_
          refine il7 (pc := 235) dX9_foretold_235 ?_
          refine g_iadd (pc := 237) dX9_foretold_237 ?_
          refine il8 (pc := 238) dX9_foretold_238 ?_
          refine g_iadd (pc := 240) dX9_foretold_240 ?_
          refine il10 (pc := 241) dX9_foretold_241 ?_
          refine g_isub (pc := 243) dX9_foretold_243 ?_
          refine il11 (pc := 244) dX9_foretold_244 ?_
          refine g_isub (pc := 246) dX9_foretold_246 ?_
          exact retI (pc := 247) hR dX9_foretold_247 (by simp only [rfI, leI, moI, ← Int32.not_le]; simp [c3, c14, c26, c33, c44, c64, c84, c103, c113, c124, c139, c146, c178, c197, c221]) (rfl)
      · skip
        refine il6 (pc := 200) dX9_foretold_200 ?_
        refine il8 (pc := 202) dX9_foretold_202 ?_
        refine g_icmple 212 (pc := 204) dX9_foretold_204 (by decide) (fun c204 => ?_) (fun c204 => ?_)
        · skip
          refine il8 (pc := 212) dX9_foretold_212 ?_
          refine g_goto 231 (pc := 214) dX9_foretold_214 (by decide) ?_
          refine is11 (pc := 231) dX9_foretold_231 rfl ?_
          refine il6 (pc := 233) dX9_foretold_233 ?_
          refine il7 (pc := 235) dX9_foretold_235 ?_
          refine g_iadd (pc := 237) dX9_foretold_237 ?_
          refine il8 (pc := 238) dX9_foretold_238 ?_
          refine g_iadd (pc := 240) dX9_foretold_240 ?_
          refine il10 (pc := 241) dX9_foretold_241 ?_
          refine g_isub (pc := 243) dX9_foretold_243 ?_
          refine il11 (pc := 244) dX9_foretold_244 ?_
          refine g_isub (pc := 246) dX9_foretold_246 ?_
          exact retI (pc := 247) hR dX9_foretold_247 (by simp only [rfI, leI, moI, ← Int32.not_le]; simp [c3, c14, c26, c33, c44, c64, c84, c103, c113, c124, c139, c146, c178, c197, c204]) (rfl)
        · skip
          refine il6 (pc := 207) dX9_foretold_207 ?_
          refine g_goto 231 (pc := 209) dX9_foretold_209 (by decide) ?_
          refine is11 (pc := 231) dX9_foretold_231 rfl ?_
          refine il6 (pc := 233) dX9_foretold_233 ?_
          refine il7 (pc := 235) dX9_foretold_235 ?_
          refine g_iadd (pc := 237) dX9_foretold_237 ?_
          refine il8 (pc := 238) dX9_foretold_238 ?_
          refine g_iadd (pc := 240) dX9_foretold_240 ?_
          refine il10 (pc := 241) dX9_foretold_241 ?_
          refine g_isub (pc := 243) dX9_foretold_243 ?_
          refine il11 (pc := 244) dX9_foretold_244 ?_
          refine g_isub (pc := 246) dX9_foretold_246 ?_
          exact retI (pc := 247) hR dX9_foretold_247 (by simp only [rfI, leI, moI, ← Int32.not_le]; simp [c3, c14, c26, c33, c44, c64, c84, c103, c113, c124, c139, c146, c178, c197, c204]) (rfl)
theorem c_X9_foretold_5 {l : Launch} {G : mG} {Z : mZ} {d : mD} {m nw od fd tp rd ah kp ka ln sz it mv : Nat} {x : Int32} (hm : mdS Z m nw od fd tp rd ah kp ka ln sz it mv) : CtI l G yX9_foretold cX9_foretold 12 .int 2 42 [.ref m, .int (nI 5), .int x] Z d (rfI (gA d fd) x 5) d := by
  refine enterI RX9 9 [some (.ref m), some (.int (nI 5)), some (.int x), none, none, none, none, none, none, none, none, none] (by decide) rfl (rfl) rfl rfl (fun X hR => ?_)
  refine il1 (pc := 0) dX9_foretold_0 ?_
  refine g_iconst (pc := 1) dX9_foretold_1 kc3 ?_
  refine g_irem (pc := 2) dX9_foretold_2 (by decide) ?_
  refine g_ifle 10 (pc := 3) dX9_foretold_3 (by decide) (fun c3 => absurd c3 (by decide)) (fun c3 => ?_)
  refine g_iconst (pc := 6) dX9_foretold_6 kc1 ?_
  refine g_goto 11 (pc := 7) dX9_foretold_7 (by decide) ?_
  refine is3 (pc := 11) dX9_foretold_11 rfl ?_
  refine il1 (pc := 12) dX9_foretold_12 ?_
  refine g_iconst (pc := 13) dX9_foretold_13 kc2 ?_
  refine g_icmple 21 (pc := 14) dX9_foretold_14 (by decide) (fun c14 => absurd c14 (by decide)) (fun c14 => ?_)
  refine g_iconst (pc := 17) dX9_foretold_17 kc1 ?_
  refine g_goto 22 (pc := 18) dX9_foretold_18 (by decide) ?_
  refine is4 (pc := 22) dX9_foretold_22 rfl ?_
  refine il4 (pc := 24) dX9_foretold_24 ?_
  refine g_ifeq 40 (pc := 26) dX9_foretold_26 (by decide) (fun c26 => absurd c26 (by decide)) (fun c26 => ?_)
  refine il1 (pc := 29) dX9_foretold_29 ?_
  refine g_iconst (pc := 30) dX9_foretold_30 kc3 ?_
  refine g_irem (pc := 31) dX9_foretold_31 (by decide) ?_
  refine g_iconst (pc := 32) dX9_foretold_32 kc2 ?_
  refine g_icmpge 40 (pc := 33) dX9_foretold_33 (by decide) (fun c33 => ?_) (fun c33 => absurd (by decide) c33)
  refine g_iconst (pc := 40) dX9_foretold_40 kc0 ?_
  refine is5 (pc := 41) dX9_foretold_41 rfl ?_
  refine il3 (pc := 43) dX9_foretold_43 ?_
  refine g_ifeq 58 (pc := 44) dX9_foretold_44 (by decide) (fun c44 => absurd c44 (by decide)) (fun c44 => ?_)
  refine al0 (pc := 47) dX9_foretold_47 ?_
  refine il1 (pc := 48) dX9_foretold_48 ?_
  refine g_iconst (pc := 49) dX9_foretold_49 kc1 ?_
  refine g_isub (pc := 50) dX9_foretold_50 ?_
  refine il2 (pc := 51) dX9_foretold_51 ?_
  refine cl_X9_122 (pc := 52) (c_X9_part (b := 4) hm (by decide)) hm.o9 (by decide) ⟨Nat.zero_le _, Nat.zero_le _⟩ (Nat.le_of_ble_eq_true rfl) dX9_foretold_52 ?_
  refine g_goto 60 (pc := 55) dX9_foretold_55 (by decide) ?_
  refine is6 (pc := 60) dX9_foretold_60 rfl ?_
  refine il4 (pc := 62) dX9_foretold_62 ?_
  refine g_ifeq 78 (pc := 64) dX9_foretold_64 (by decide) (fun c64 => absurd c64 (by decide)) (fun c64 => ?_)
  refine al0 (pc := 67) dX9_foretold_67 ?_
  refine il1 (pc := 68) dX9_foretold_68 ?_
  refine g_iconst (pc := 69) dX9_foretold_69 kc3 ?_
  refine g_isub (pc := 70) dX9_foretold_70 ?_
  refine il2 (pc := 71) dX9_foretold_71 ?_
  refine cl_X9_122 (pc := 72) (c_X9_part (b := 2) hm (by decide)) hm.o9 (by decide) ⟨Nat.zero_le _, Nat.zero_le _⟩ (Nat.le_of_ble_eq_true rfl) dX9_foretold_72 ?_
  refine g_goto 80 (pc := 75) dX9_foretold_75 (by decide) ?_
  refine is7 (pc := 80) dX9_foretold_80 rfl ?_
  refine il5 (pc := 82) dX9_foretold_82 ?_
  refine g_ifeq 98 (pc := 84) dX9_foretold_84 (by decide) (fun c84 => ?_) (fun c84 => absurd (by decide) c84)
  refine g_bipush (pc := 98) dX9_foretold_98 kb9 ?_
  refine is8 (pc := 100) dX9_foretold_100 rfl ?_
  refine il3 (pc := 102) dX9_foretold_102 ?_
  refine g_ifeq 110 (pc := 103) dX9_foretold_103 (by decide) (fun c103 => absurd c103 (by decide)) (fun c103 => ?_)
  refine g_iconst (pc := 106) dX9_foretold_106 kc1 ?_
  refine g_goto 111 (pc := 107) dX9_foretold_107 (by decide) ?_
  refine il4 (pc := 111) dX9_foretold_111 ?_
  refine g_ifeq 120 (pc := 113) dX9_foretold_113 (by decide) (fun c113 => absurd c113 (by decide)) (fun c113 => ?_)
  refine g_iconst (pc := 116) dX9_foretold_116 kc1 ?_
  refine g_goto 121 (pc := 117) dX9_foretold_117 (by decide) ?_
  refine g_iadd (pc := 121) dX9_foretold_121 ?_
  refine il5 (pc := 122) dX9_foretold_122 ?_
  refine g_ifeq 131 (pc := 124) dX9_foretold_124 (by decide) (fun c124 => ?_) (fun c124 => absurd (by decide) c124)
  refine g_iconst (pc := 131) dX9_foretold_131 kc0 ?_
  refine g_iadd (pc := 132) dX9_foretold_132 ?_
  refine is9 (pc := 133) dX9_foretold_133 rfl ?_
  refine il6 (pc := 135) dX9_foretold_135 ?_
  refine il7 (pc := 137) dX9_foretold_137 ?_
  refine g_icmpge 159 (pc := 139) dX9_foretold_139 (by decide) (fun c139 => ?_) (fun c139 => ?_)
  · skip
    refine il7 (pc := 159) dX9_foretold_159 ?_
    refine il8 (pc := 161) dX9_foretold_161 ?_
    refine g_icmpge 171 (pc := 163) dX9_foretold_163 (by decide) (fun c163 => ?_) (fun c163 => ?_)
    · skip
      refine il8 (pc := 171) dX9_foretold_171 ?_
      refine is10 (pc := 173) dX9_foretold_173 rfl ?_
      refine il9 (pc := 175) dX9_foretold_175 ?_
      refine g_iconst (pc := 177) dX9_foretold_177 kc3 ?_
      refine g_icmpge 193 (pc := 178) dX9_foretold_178 (by decide) (fun c178 => absurd c178 (by decide)) (fun c178 => ?_)
      refine il9 (pc := 181) dX9_foretold_181 ?_
      refine g_ifne 190 (pc := 183) dX9_foretold_183 (by decide) (fun c183 => ?_) (fun c183 => absurd c183 (by decide))
      refine il10 (pc := 190) dX9_foretold_190 ?_
      exact retI (pc := 192) hR dX9_foretold_192 (by simp [rfI, leI, ← Int32.not_le, c3, c14, c26, c33, c44, c64, c84, c103, c113, c124, c139, c163, c178, c183]) (rfl)
    · skip
      refine il7 (pc := 166) dX9_foretold_166 ?_
      refine g_goto 173 (pc := 168) dX9_foretold_168 (by decide) ?_
      refine is10 (pc := 173) dX9_foretold_173 rfl ?_
      refine il9 (pc := 175) dX9_foretold_175 ?_
      refine g_iconst (pc := 177) dX9_foretold_177 kc3 ?_
      refine g_icmpge 193 (pc := 178) dX9_foretold_178 (by decide) (fun c178 => absurd c178 (by decide)) (fun c178 => ?_)
      refine il9 (pc := 181) dX9_foretold_181 ?_
      refine g_ifne 190 (pc := 183) dX9_foretold_183 (by decide) (fun c183 => ?_) (fun c183 => absurd c183 (by decide))
      refine il10 (pc := 190) dX9_foretold_190 ?_
      exact retI (pc := 192) hR dX9_foretold_192 (by simp [rfI, leI, ← Int32.not_le, c3, c14, c26, c33, c44, c64, c84, c103, c113, c124, c139, c163, c178, c183]) (rfl)
  · skip
    refine il6 (pc := 142) dX9_foretold_142 ?_
    refine il8 (pc := 144) dX9_foretold_144 ?_
    refine g_icmpge 154 (pc := 146) dX9_foretold_146 (by decide) (fun c146 => ?_) (fun c146 => ?_)
    · skip
      refine il8 (pc := 154) dX9_foretold_154 ?_
      refine g_goto 173 (pc := 156) dX9_foretold_156 (by decide) ?_
      refine is10 (pc := 173) dX9_foretold_173 rfl ?_
      refine il9 (pc := 175) dX9_foretold_175 ?_
      refine g_iconst (pc := 177) dX9_foretold_177 kc3 ?_
      refine g_icmpge 193 (pc := 178) dX9_foretold_178 (by decide) (fun c178 => absurd c178 (by decide)) (fun c178 => ?_)
      refine il9 (pc := 181) dX9_foretold_181 ?_
      refine g_ifne 190 (pc := 183) dX9_foretold_183 (by decide) (fun c183 => ?_) (fun c183 => absurd c183 (by decide))
      refine il10 (pc := 190) dX9_foretold_190 ?_
      exact retI (pc := 192) hR dX9_foretold_192 (by simp [rfI, leI, ← Int32.not_le, c3, c14, c26, c33, c44, c64, c84, c103, c113, c124, c139, c146, c178, c183]) (rfl)
    · skip
      refine il6 (pc := 149) dX9_foretold_149 ?_
      refine g_goto 173 (pc := 151) dX9_foretold_151 (by decide) ?_
      refine is10 (pc := 173) dX9_foretold_173 rfl ?_
      refine il9 (pc := 175) dX9_foretold_175 ?_
      refine g_iconst (pc := 177) dX9_foretold_177 kc3 ?_
      refine g_icmpge 193 (pc := 178) dX9_foretold_178 (by decide) (fun c178 => absurd c178 (by decide)) (fun c178 => ?_)
      refine il9 (pc := 181) dX9_foretold_181 ?_
      refine g_ifne 190 (pc := 183) dX9_foretold_183 (by decide) (fun c183 => ?_) (fun c183 => absurd c183 (by decide))
      refine il10 (pc := 190) dX9_foretold_190 ?_
      exact retI (pc := 192) hR dX9_foretold_192 (by simp [rfI, leI, ← Int32.not_le, c3, c14, c26, c33, c44, c64, c84, c103, c113, c124, c139, c146, c178, c183]) (rfl)
theorem c_X9_foretold {l : Launch} {G : mG} {Z : mZ} {d : mD} {m nw od fd tp rd ah kp ka ln sz it mv : Nat} {b : Nat} {x : Int32} (hm : mdS Z m nw od fd tp rd ah kp ka ln sz it mv) (hb : b < 6) : CtI l G yX9_foretold cX9_foretold 12 .int 2 42 [.ref m, .int (nI b), .int x] Z d (rfI (gA d fd) x b) d := by
  match b, hb with
  | 0, _ => exact c_X9_foretold_0 hm
  | 1, _ => exact c_X9_foretold_1 hm
  | 2, _ => exact c_X9_foretold_2 hm
  | 3, _ => exact c_X9_foretold_3 hm
  | 4, _ => exact c_X9_foretold_4 hm
  | 5, _ => exact c_X9_foretold_5 hm
