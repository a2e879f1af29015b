theorem bit_half {w : Int32} {n : Nat} (h0 : ¬ w ≤ 0) (h : w.toInt < 2 ^ (n + 1)) : (w / 2).toInt < 2 ^ n := by
  have h1 : ¬ w < 0 := fun q => h0 (by rw [ma_le]; rw [ma_lt] at q; omega)
  obtain ⟨j, hj, rfl⟩ := nI_of h1
  rw [nI_toInt hj] at h
  rw [show nI j / 2 = nI (j / 2) from pk_div hj (by decide) (by decide), nI_toInt (by omega)]
  have h2 : (j : Int) < 2 * 2 ^ n := by rw [Int.pow_succ] at h; omega
  omega
theorem le0_of {w : Int32} (h : w.toInt < 2 ^ 0) : w ≤ 0 := by
  rw [ma_le, show (0 : Int32).toInt = 0 by decide]
  simp at h
  omega
def bitR : Nat → Int32 → Int32 → Int32
  | 0, _, a => a
  | n + 1, w, a => if w ≤ 0 then a else bitR n (w / 2) (a + 2)
def rbiI (e : Int32) : Int32 := bitR 31 (mAbs e) 1
def rlL (mv : Nat → Int32) : Nat → Nat → Int32 → Int32
  | 0, _, a => a
  | n + 1, b, a => rlL mv n (b + 1) (a + (rbiI (ptI (mv b) 1 - rfI mv 1 b) + rbiI (ptI (mv b) 0 - rfI mv 0 b)))
def rN (a b : Nat) : Nat := a / 4 + 3 * (b / 4)
theorem rN_lt {a b : Nat} (h1 : a < 12) (h2 : b < 8) : rN a b < 6 := by unfold rN; omega
theorem rN_ix {a b : Nat} (h1 : a < 12) (h2 : b < 8) : nI a / 4 + 3 * (nI b / 4) = nI (rN a b) := by
  rw [show (4 : Int32) = nI 4 from rfl, show (3 : Int32) = nI 3 from rfl, pk_div (by omega) (by decide) (by decide), pk_div (by omega) (by decide) (by decide), pk_mul, nI_add]; rfl
def rebI (mv fo : Nat → Int32) (a b : Nat) : Int32 := pix fo (nI a + xOfI (mv (rN a b))) (nI b + yOfI (mv (rN a b)))
def rlkP (mv f : Nat → Int32) (i : Nat) : Bool := decide (¬ rebI mv f (i % 12) (i / 12) = f (96 + i))
def rlaI (mv f : Nat → Int32) : Int32 := cntL (rlkP mv f) 96 0 0
def rpS (k : Int32) (fo fn : Nat → Int32) (m : Int32) : Int32 := accL (fun b => rcC k fo fn b m) 6 0 0
def rpQ (o : Nat → Int32) (k : Int32) (fo fn : Nat → Int32) : Int32 × Int32 := rgL o (rpS k fo fn) 49 0 (-1000004) 999999
def rcoI (o : Nat → Int32) (k : Int32) (fo fn : Nat → Int32) : Int32 := accL (fun b => rcC k fo fn b (rbE o k fo fn b)) 6 0 0
def rwL (o : Nat → Int32) (k : Int32) (fo fn : Nat → Int32) : Nat → Nat → Int32 → Int32
  | 0, _, s => s
  | n + 1, b, s => rwL o k fo fn n (b + 1) (s ||| if rqE o k fo fn (nI b) = rbE o k fo fn (nI b) then 0 else (1 : Int32) <<< (nI b &&& 31))
def rdoR (fo fn : Nat → Int32) (c r w : Int32) : Int32 := if (wthn c (-3) 14 ∧ wthn r (-3) 10) ∧ wthn w 0 1 then (if w = 0 then pix fo c r else pix fn c r) else -1000001
def rcuR (o f g : Nat → Int32) (un w : Int32) : Int32 := if w = 0 then f 192 else if w = 1 then rcoI o (f 192) f (fun k => f (96 + k)) else if w = 2 then rlL g 6 0 0 else if w = 3 then rlaI g f else if w = 4 then (rpQ o (f 192) f (fun k => f (96 + k))).1 else if w = 5 then (rpQ o (f 192) f (fun k => f (96 + k))).2 else if w = 6 then rwL o (f 192) f (fun k => f (96 + k)) 6 0 0 else if w = 7 then un else -1000001
def rcuD (d : mD) (fd : Nat) (g : Nat → Int32) (w : Int32) : mD := if w = 2 ∨ w = 3 then tA d fd g else d
def rtyR (n : Nat) (c : Int32) : Int32 := if wthn c 32 126 then (if n = 120 then -1000003 else nI (n + 1)) else -1000001
def rtyD (d : mD) (m tp n : Nat) (c : Int32) : mD := if wthn c 32 126 ∧ ¬ n = 120 then sI (tA d tp (upd (gA d tp) n c)) 295 m (nI (n + 1)) else d
def skp (le : Nat → Int32) : Nat → Nat → Nat
  | 0, p => p
  | k + 1, p => if le p = 32 then skp le k (p + 1) else p
theorem skp_le (le : Nat → Int32) : ∀ k p, skp le k p ≤ p + k
  | 0, p => Nat.le_refl _
  | k + 1, p => by
    rw [skp]; split
    · have := skp_le le k (p + 1); omega
    · omega
theorem skp_ge (le : Nat → Int32) : ∀ k p, p ≤ skp le k p
  | 0, p => Nat.le_refl _
  | k + 1, p => by
    rw [skp]; split
    · have := skp_ge le k (p + 1); omega
    · omega
/-- the place of the next letter behind blanks; the letter there, 0 at the end -/
def hrP (le : Nat → Int32) (n p : Nat) : Nat := skp le (n - p) p
def hrC (le : Nat → Int32) (n p : Nat) : Int32 := if hrP le n p < n then le (hrP le n p) else 0
theorem hrP_le (le : Nat → Int32) {n p : Nat} (h : p ≤ n) : hrP le n p ≤ n := by have := skp_le le (n - p) p; unfold hrP; omega
theorem hrP_ge (le : Nat → Int32) (n p : Nat) : p ≤ hrP le n p := skp_ge le _ _
theorem c_X9_bitsOf {l : Launch} {G : mG} {Z : mZ} {d : mD} {e : Int32} : CtI l G yX9_bitsOf cX9_bitsOf 3 .int 1 20 [.int e] Z d (rbiI e) d := by
  refine enterI RX9 2 [some (.int e), none, none] (by decide) rfl (rfl) rfl rfl (fun X hR => ?_)
  refine g_iconst (pc := 0) dX9_bitsOf_0 kc1 ?_
  refine is1 (pc := 1) dX9_bitsOf_1 rfl ?_
  refine il0 (pc := 2) dX9_bitsOf_2 ?_
  refine cl_X9_58 (pc := 3) (c_X9_sized) (by decide) ⟨Nat.zero_le _, Nat.zero_le _⟩ (Nat.le_of_ble_eq_true rfl) dX9_bitsOf_3 ?_
  refine is2 (pc := 6) dX9_bitsOf_6 rfl ?_
  have L7 : ∀ (n i : Nat) (w : Int32) (a : Int32), i + n = 31 → (w.toInt < 2 ^ n) → (bitR n w a = rbiI e) → mGo l G (mRm 1 20) X RX9 cX9_bitsOf 3 0 0 Z 7 [some (.int e), some (.int a), some (.int w)] [] d := by
    intro n; induction n with
    | zero =>
      intro i w a hin7 hw hF
      refine il2 (pc := 7) dX9_bitsOf_7 ?_
      refine g_ifle 21 (pc := 8) dX9_bitsOf_8 (by decide) (fun c8 => ?_) (fun c8 => absurd (le0_of hw) c8)
      refine il1 (pc := 21) dX9_bitsOf_21 ?_
      exact retI (pc := 22) hR dX9_bitsOf_22 (hF) (rfl)
    | succ n ih7 =>
      intro i w a hin7 hw hF
      refine il2 (pc := 7) dX9_bitsOf_7 ?_
      refine g_ifle 21 (pc := 8) dX9_bitsOf_8 (by decide) (fun c8 => ?_) (fun c8 => ?_)
      · skip
        refine il1 (pc := 21) dX9_bitsOf_21 ?_
        exact retI (pc := 22) hR dX9_bitsOf_22 (by rw [← hF, bitR, if_pos c8]) (rfl)
      · skip
        refine ic1 (pc := 11) dX9_bitsOf_11 kc2 rfl ?_
        refine il2 (pc := 14) dX9_bitsOf_14 ?_
        refine g_iconst (pc := 15) dX9_bitsOf_15 kc2 ?_
        refine g_idiv (pc := 16) dX9_bitsOf_16 (by decide) ?_
        refine is2 (pc := 17) dX9_bitsOf_17 rfl ?_
        refine g_goto 7 (pc := 18) dX9_bitsOf_18 (by decide) ?_
        exact ih7 (i + 1) _ _ (by omega) (bit_half c8 hw) (by rw [← hF, bitR, if_neg c8])
  exact L7 31 0 _ _ (by omega) (by have := (ma_rng (mAbs e)).2; simpa using this) rfl
theorem c_X9_longField {l : Launch} {G : mG} {Z : mZ} {d : mD} {m nw od fd tp rd ah kp ka ln sz it mv : Nat} (hm : mdS Z m nw od fd tp rd ah kp ka ln sz it mv) : CtI l G yX9_longField cX9_longField 3 .int 7 165 [.ref m] Z d (rlL (layL (gA d od) (gA d nw 192) (gA d nw) (fun k => gA d nw (96 + k)) 6 0 (gA d fd)) 6 0 0) (tA d fd (layL (gA d od) (gA d nw 192) (gA d nw) (fun k => gA d nw (96 + k)) 6 0 (gA d fd))) := by
  refine enterI RX9 2 [some (.ref m), none, none] (by decide) rfl (rfl) rfl rfl (fun X hR => ?_)
  refine al0 (pc := 0) dX9_longField_0 ?_
  refine cl_X9_126 (pc := 1) (c_X9_lays hm) hm.o9 (by decide) ⟨Nat.zero_le _, Nat.zero_le _⟩ (Nat.le_of_ble_eq_true rfl) dX9_longField_1 ?_
  refine g_iconst (pc := 4) dX9_longField_4 kc0 ?_
  refine is1 (pc := 5) dX9_longField_5 rfl ?_
  refine g_iconst (pc := 6) dX9_longField_6 kc0 ?_
  refine is2 (pc := 7) dX9_longField_7 rfl ?_
  have L8 : ∀ (n i : Nat) (acc : Int32), i + n = 6 → (rlL (layL (gA d od) (gA d nw 192) (gA d nw) (fun k => gA d nw (96 + k)) 6 0 (gA d fd)) n i acc = rlL (layL (gA d od) (gA d nw 192) (gA d nw) (fun k => gA d nw (96 + k)) 6 0 (gA d fd)) 6 0 0) → mGo l G (mRm 7 165) X RX9 cX9_longField 3 0 0 Z 8 [some (.ref m), some (.int acc), some (.int (nI i))] [] (tA d fd (layL (gA d od) (gA d nw 192) (gA d nw) (fun k => gA d nw (96 + k)) 6 0 (gA d fd))) := by
    intro n; induction n with
    | zero =>
      intro i acc hin8 hF
      refine il2 (pc := 8) dX9_longField_8 ?_
      refine g_bipush (pc := 9) dX9_longField_9 kb6 ?_
      refine g_icmpge 56 (pc := 11) dX9_longField_11 (by decide) (fun c11 => ?_) (fun c11 => absurd (nI_le (a := 6) (by omega) (by omega)) c11)
      refine il1 (pc := 56) dX9_longField_56 ?_
      exact retI (pc := 57) hR dX9_longField_57 (hF) (rfl)
    | succ n ih8 =>
      intro i acc hin8 hF
      refine il2 (pc := 8) dX9_longField_8 ?_
      refine g_bipush (pc := 9) dX9_longField_9 kb6 ?_
      refine g_icmpge 56 (pc := 11) dX9_longField_11 (by decide) (fun c11 => absurd c11 (nI_ge (b := 6) (by omega) (by omega))) (fun c11 => ?_)
      refine il1 (pc := 14) dX9_longField_14 ?_
      refine al0 (pc := 15) dX9_longField_15 ?_
      refine il2 (pc := 16) dX9_longField_16 ?_
      refine g_iconst (pc := 17) dX9_longField_17 kc1 ?_
      refine cl_X9_122 (pc := 18) (c_X9_part (b := i) hm (by omega)) hm.o9 (by decide) ⟨Nat.zero_le _, Nat.zero_le _⟩ (Nat.le_of_ble_eq_true rfl) dX9_longField_18 ?_
      rw [gA_tA, if_pos rfl]
      refine al0 (pc := 21) dX9_longField_21 ?_
      refine il2 (pc := 22) dX9_longField_22 ?_
      refine g_iconst (pc := 23) dX9_longField_23 kc1 ?_
      refine cl_X9_129 (pc := 24) (c_X9_foretold (b := i) hm (by omega)) hm.o9 (by decide) ⟨Nat.zero_le _, Nat.zero_le _⟩ (Nat.le_of_ble_eq_true rfl) dX9_longField_24 ?_
      rw [gA_tA, if_pos rfl]
      refine g_isub (pc := 27) dX9_longField_27 ?_
      refine cl_X9_132 (pc := 28) (c_X9_bitsOf) (by decide) ⟨Nat.zero_le _, Nat.zero_le _⟩ (Nat.le_of_ble_eq_true rfl) dX9_longField_28 ?_
      refine al0 (pc := 31) dX9_longField_31 ?_
      refine il2 (pc := 32) dX9_longField_32 ?_
      refine g_iconst (pc := 33) dX9_longField_33 kc0 ?_
      refine cl_X9_122 (pc := 34) (c_X9_part (b := i) hm (by omega)) hm.o9 (by decide) ⟨Nat.zero_le _, Nat.zero_le _⟩ (Nat.le_of_ble_eq_true rfl) dX9_longField_34 ?_
      rw [gA_tA, if_pos rfl]
      refine al0 (pc := 37) dX9_longField_37 ?_
      refine il2 (pc := 38) dX9_longField_38 ?_
      refine g_iconst (pc := 39) dX9_longField_39 kc0 ?_
      refine cl_X9_129 (pc := 40) (c_X9_foretold (b := i) hm (by omega)) hm.o9 (by decide) ⟨Nat.zero_le _, Nat.zero_le _⟩ (Nat.le_of_ble_eq_true rfl) dX9_longField_40 ?_
      rw [gA_tA, if_pos rfl]
      refine g_isub (pc := 43) dX9_longField_43 ?_
      refine cl_X9_132 (pc := 44) (c_X9_bitsOf) (by decide) ⟨Nat.zero_le _, Nat.zero_le _⟩ (Nat.le_of_ble_eq_true rfl) dX9_longField_44 ?_
      refine g_iadd (pc := 47) dX9_longField_47 ?_
      refine g_iadd (pc := 48) dX9_longField_48 ?_
      refine is1 (pc := 49) dX9_longField_49 rfl ?_
      refine ic2 (pc := 50) dX9_longField_50 kc1 rfl ?_
      refine g_goto 8 (pc := 53) dX9_longField_53 (by decide) ?_
      rw [nI_1]
      exact ih8 (i + 1) _ (by omega) hF
  exact L8 6 0 0 (by omega) rfl
theorem c_X9_rebuiltAt {l : Launch} {G : mG} {Z : mZ} {d : mD} {m nw od fd tp rd ah kp ka ln sz it mv : Nat} {a b : Nat} (hm : mdS Z m nw od fd tp rd ah kp ka ln sz it mv) (ha : a < 12) (hb : b < 8) : CtI l G yX9_rebuiltAt cX9_rebuiltAt 4 .int 2 44 [.ref m, .int (nI a), .int (nI b)] Z d (rebI (gA d fd) (gA d nw) a b) d := by
  refine enterI RX9 1 [some (.ref m), some (.int (nI a)), some (.int (nI b)), none] (by decide) rfl (rfl) rfl rfl (fun X hR => ?_)
  refine al0 (pc := 0) dX9_rebuiltAt_0 ?_
  refine gf_X9_16 (pc := 1) hm.o9 hm.r293 dX9_rebuiltAt_1 ?_
  refine il1 (pc := 4) dX9_rebuiltAt_4 ?_
  refine g_iconst (pc := 5) dX9_rebuiltAt_5 kc4 ?_
  refine g_idiv (pc := 6) dX9_rebuiltAt_6 (by decide) ?_
  refine g_iconst (pc := 7) dX9_rebuiltAt_7 kc3 ?_
  refine il2 (pc := 8) dX9_rebuiltAt_8 ?_
  refine g_iconst (pc := 9) dX9_rebuiltAt_9 kc4 ?_
  refine g_idiv (pc := 10) dX9_rebuiltAt_10 (by decide) ?_
  refine g_imul (pc := 11) dX9_rebuiltAt_11 ?_
  refine g_iadd (pc := 12) dX9_rebuiltAt_12 ?_
  refine g_iald (pc := 13) (rN a b) hm.a_fd (rN_lt ha hb) (rN_ix ha hb) (by decide) dX9_rebuiltAt_13 ?_
  refine is3 (pc := 14) dX9_rebuiltAt_14 rfl ?_
  refine al0 (pc := 15) dX9_rebuiltAt_15 ?_
  refine g_iconst (pc := 16) dX9_rebuiltAt_16 kc0 ?_
  refine il1 (pc := 17) dX9_rebuiltAt_17 ?_
  refine il3 (pc := 18) dX9_rebuiltAt_18 ?_
  refine cl_X9_55 (pc := 19) (c_X9_xOf) (by decide) ⟨Nat.zero_le _, Nat.zero_le _⟩ (Nat.le_of_ble_eq_true rfl) dX9_rebuiltAt_19 ?_
  refine g_iadd (pc := 22) dX9_rebuiltAt_22 ?_
  refine il2 (pc := 23) dX9_rebuiltAt_23 ?_
  refine il3 (pc := 24) dX9_rebuiltAt_24 ?_
  refine cl_X9_61 (pc := 25) (c_X9_yOf) (by decide) ⟨Nat.zero_le _, Nat.zero_le _⟩ (Nat.le_of_ble_eq_true rfl) dX9_rebuiltAt_25 ?_
  refine g_iadd (pc := 28) dX9_rebuiltAt_28 ?_
  refine cl_X9_76 (pc := 29) (c_X9_dotAt (pb := 0) hm (by decide)) hm.o9 (by decide) ⟨Nat.zero_le _, Nat.zero_le _⟩ (Nat.le_of_ble_eq_true rfl) dX9_rebuiltAt_29 ?_
  rw [pix0]
  exact retI (pc := 32) hR dX9_rebuiltAt_32 (rfl) (rfl)
theorem c_X9_lacks {l : Launch} {G : mG} {Z : mZ} {d : mD} {m nw od fd tp rd ah kp ka ln sz it mv : Nat} (hm : mdS Z m nw od fd tp rd ah kp ka ln sz it mv) : CtI l G yX9_lacks cX9_lacks 3 .int 7 165 [.ref m] Z d (rlaI (layL (gA d od) (gA d nw 192) (gA d nw) (fun k => gA d nw (96 + k)) 6 0 (gA d fd)) (gA d nw)) (tA d fd (layL (gA d od) (gA d nw 192) (gA d nw) (fun k => gA d nw (96 + k)) 6 0 (gA d fd))) := by
  refine enterI RX9 2 [some (.ref m), none, none] (by decide) rfl (rfl) rfl rfl (fun X hR => ?_)
  refine al0 (pc := 0) dX9_lacks_0 ?_
  refine cl_X9_126 (pc := 1) (c_X9_lays hm) hm.o9 (by decide) ⟨Nat.zero_le _, Nat.zero_le _⟩ (Nat.le_of_ble_eq_true rfl) dX9_lacks_1 ?_
  refine g_iconst (pc := 4) dX9_lacks_4 kc0 ?_
  refine is1 (pc := 5) dX9_lacks_5 rfl ?_
  refine g_iconst (pc := 6) dX9_lacks_6 kc0 ?_
  refine is2 (pc := 7) dX9_lacks_7 rfl ?_
  have L8 : ∀ (n i : Nat) (acc : Int32), i + n = 96 → (cntL (rlkP (layL (gA d od) (gA d nw 192) (gA d nw) (fun k => gA d nw (96 + k)) 6 0 (gA d fd)) (gA d nw)) n i acc = rlaI (layL (gA d od) (gA d nw 192) (gA d nw) (fun k => gA d nw (96 + k)) 6 0 (gA d fd)) (gA d nw)) → mGo l G (mRm 7 165) X RX9 cX9_lacks 3 0 0 Z 8 [some (.ref m), some (.int acc), some (.int (nI i))] [] (tA d fd (layL (gA d od) (gA d nw 192) (gA d nw) (fun k => gA d nw (96 + k)) 6 0 (gA d fd))) := by
    intro n; induction n with
    | zero =>
      intro i acc hin8 hF
      refine il2 (pc := 8) dX9_lacks_8 ?_
      refine g_bipush (pc := 9) dX9_lacks_9 kb96 ?_
      refine g_icmpge 52 (pc := 11) dX9_lacks_11 (by decide) (fun c11 => ?_) (fun c11 => absurd (nI_le (a := 96) (by omega) (by omega)) c11)
      refine il1 (pc := 52) dX9_lacks_52 ?_
      exact retI (pc := 53) hR dX9_lacks_53 (hF) (rfl)
    | succ n ih8 =>
      intro i acc hin8 hF
      refine il2 (pc := 8) dX9_lacks_8 ?_
      refine g_bipush (pc := 9) dX9_lacks_9 kb96 ?_
      refine g_icmpge 52 (pc := 11) dX9_lacks_11 (by decide) (fun c11 => absurd c11 (nI_ge (b := 96) (by omega) (by omega))) (fun c11 => ?_)
      refine il1 (pc := 14) dX9_lacks_14 ?_
      refine al0 (pc := 15) dX9_lacks_15 ?_
      refine il2 (pc := 16) dX9_lacks_16 ?_
      refine g_bipush (pc := 17) dX9_lacks_17 kb12 ?_
      refine g_irem (pc := 19) dX9_lacks_19 (by decide) ?_
      rw [show mRem (nI i) 12 = nI (i % 12) from rem_nI 12 (by omega) (by decide) (by decide)]
      refine il2 (pc := 20) dX9_lacks_20 ?_
      refine g_bipush (pc := 21) dX9_lacks_21 kb12 ?_
      refine g_idiv (pc := 23) dX9_lacks_23 (by decide) ?_
      rw [show nI i / 12 = nI (i / 12) from pk_div (by omega) (by decide) (by decide)]
      refine cl_X9_135 (pc := 24) (c_X9_rebuiltAt (a := i % 12) (b := i / 12) hm (by omega) (by omega)) hm.o9 (by decide) ⟨Nat.zero_le _, Nat.zero_le _⟩ (Nat.le_of_ble_eq_true rfl) dX9_lacks_24 ?_
      rw [gA_tA, if_pos rfl, gA_tA, if_neg hm.n_nw_fd]
      refine al0 (pc := 27) dX9_lacks_27 ?_
      refine gf_X9_7 (pc := 28) hm.o9 hm.r288 dX9_lacks_28 ?_
      refine g_bipush (pc := 31) dX9_lacks_31 kb96 ?_
      refine il2 (pc := 33) dX9_lacks_33 ?_
      refine g_iadd (pc := 34) dX9_lacks_34 ?_
      refine g_iald (pc := 35) (96 + i) hm.a_nw (by omega) (nI_add 96 i) (by decide) dX9_lacks_35 ?_
      rw [gA_tA, if_neg hm.n_nw_fd]
      refine g_icmpne 43 (pc := 36) dX9_lacks_36 (by decide) (fun c36 => ?_) (fun c36 => ?_)
      · skip
        refine g_iconst (pc := 43) dX9_lacks_43 kc1 ?_
        refine g_iadd (pc := 44) dX9_lacks_44 ?_
        refine is1 (pc := 45) dX9_lacks_45 rfl ?_
        refine ic2 (pc := 46) dX9_lacks_46 kc1 rfl ?_
        refine g_goto 8 (pc := 49) dX9_lacks_49 (by decide) ?_
        rw [nI_1]
        exact ih8 (i + 1) _ (by omega) (by rw [← hF, cntL]; simp [rlkP, c36])
      · skip
        refine g_iconst (pc := 39) dX9_lacks_39 kc0 ?_
        refine g_goto 44 (pc := 40) dX9_lacks_40 (by decide) ?_
        refine g_iadd (pc := 44) dX9_lacks_44 ?_
        refine is1 (pc := 45) dX9_lacks_45 rfl ?_
        refine ic2 (pc := 46) dX9_lacks_46 kc1 rfl ?_
        refine g_goto 8 (pc := 49) dX9_lacks_49 (by decide) ?_
        rw [nI_1]
        exact ih8 (i + 1) _ (by omega) (by rw [← hF, cntL]; simp [rlkP, c36])
  exact L8 96 0 0 (by omega) rfl
theorem c_X9_pan {l : Launch} {G : mG} {Z : mZ} {d : mD} {m nw od fd tp rd ah kp ka ln sz it mv : Nat} {w : Int32} (hm : mdS Z m nw od fd tp rd ah kp ka ln sz it mv) : CtI l G yX9_pan cX9_pan 7 .int 4 97 [.ref m, .int w] Z d (rhR (rpQ (gA d od) (gA d nw 192) (gA d nw) (fun k => gA d nw (96 + k))) w) d := by
  refine enterI RX9 5 [some (.ref m), some (.int w), none, none, none, none, none] (by decide) rfl (rfl) rfl rfl (fun X hR => ?_)
  refine g_ldc (pc := 0) dX9_pan_0 wk_X9_108 ?_
  refine is2 (pc := 2) dX9_pan_2 rfl ?_
  refine g_ldc (pc := 3) dX9_pan_3 wk_X9_138 ?_
  refine is3 (pc := 5) dX9_pan_5 rfl ?_
  refine g_iconst (pc := 6) dX9_pan_6 kc0 ?_
  refine is4 (pc := 7) dX9_pan_7 rfl ?_
  have L9 : ∀ (n i : Nat) (ro : Int32) (le : Int32), i + n = 49 → (rgL (gA d od) (rpS (gA d nw 192) (gA d nw) (fun k => gA d nw (96 + k))) n i ro le = rpQ (gA d od) (gA d nw 192) (gA d nw) (fun k => gA d nw (96 + k))) → mGo l G (mRm 4 97) X RX9 cX9_pan 7 0 0 Z 9 [some (.ref m), some (.int w), some (.int ro), some (.int le), some (.int (nI i)), none, none] [] d := by
    intro n; induction n with
    | zero =>
      intro i ro le hin9 hF
      refine il4 (pc := 9) dX9_pan_9 ?_
      refine g_bipush (pc := 11) dX9_pan_11 kb49 ?_
      refine g_icmpge 98 (pc := 13) dX9_pan_13 (by decide) (fun c13 => ?_) (fun c13 => absurd (nI_le (a := 49) (by omega) (by omega)) c13)
      refine il1 (pc := 98) dX9_pan_98 ?_
      refine g_ifeq 106 (pc := 99) dX9_pan_99 (by decide) (fun c99 => ?_) (fun c99 => ?_)
      · skip
        refine il3 (pc := 106) dX9_pan_106 ?_
        exact retI (pc := 107) hR dX9_pan_107 (by rw [← hF]; simp [rhR, rgL, c99]) (rfl)
      · skip
        refine il2 (pc := 102) dX9_pan_102 ?_
        refine g_goto 107 (pc := 103) dX9_pan_103 (by decide) ?_
        exact retI (pc := 107) hR dX9_pan_107 (by rw [← hF]; simp [rhR, rgL, c99]) (rfl)
    | succ n ih9 =>
      intro i ro le hin9 hF
      refine il4 (pc := 9) dX9_pan_9 ?_
      refine g_bipush (pc := 11) dX9_pan_11 kb49 ?_
      refine g_icmpge 98 (pc := 13) dX9_pan_13 (by decide) (fun c13 => absurd c13 (nI_ge (b := 49) (by omega) (by omega))) (fun c13 => ?_)
      refine g_iconst (pc := 16) dX9_pan_16 kc0 ?_
      refine is5 (pc := 17) dX9_pan_17 rfl ?_
      refine g_iconst (pc := 19) dX9_pan_19 kc0 ?_
      refine is6 (pc := 20) dX9_pan_20 rfl ?_
      have L22 : ∀ (n2 i2 : Nat) (s9 : Int32), i2 + n2 = 6 → (accL (fun b => rcC (gA d nw 192) (gA d nw) (fun k => gA d nw (96 + k)) b (gA d od i)) n2 i2 s9 = rpS (gA d nw 192) (gA d nw) (fun k => gA d nw (96 + k)) (gA d od i)) → mGo l G (mRm 4 97) X RX9 cX9_pan 7 0 0 Z 22 [some (.ref m), some (.int w), some (.int ro), some (.int le), some (.int (nI i)), some (.int s9), some (.int (nI i2))] [] d := by
        intro n2; induction n2 with
        | zero =>
          intro i2 s9 hin22 hG
          have g1 : s9 = rpS (gA d nw 192) (gA d nw) (fun k => gA d nw (96 + k)) (gA d od i) := hG
          subst g1
          refine il6 (pc := 22) dX9_pan_22 ?_
          refine g_bipush (pc := 24) dX9_pan_24 kb6 ?_
          refine g_icmpge 61 (pc := 26) dX9_pan_26 (by decide) (fun c26 => ?_) (fun c26 => absurd (nI_le (a := 6) (by omega) (by omega)) c26)
          refine il5 (pc := 61) dX9_pan_61 ?_
          refine il3 (pc := 63) dX9_pan_63 ?_
          refine g_icmpge 77 (pc := 64) dX9_pan_64 (by decide) (fun c64 => ?_) (fun c64 => ?_)
          · skip
            refine il2 (pc := 77) dX9_pan_77 ?_
            refine is2 (pc := 78) dX9_pan_78 rfl ?_
            refine il5 (pc := 79) dX9_pan_79 ?_
            refine il3 (pc := 81) dX9_pan_81 ?_
            refine g_icmpge 90 (pc := 82) dX9_pan_82 (by decide) (fun c82 => ?_) (fun c82 => absurd c64 c82)
            refine il3 (pc := 90) dX9_pan_90 ?_
            refine is3 (pc := 91) dX9_pan_91 rfl ?_
            refine ic4 (pc := 92) dX9_pan_92 kc1 rfl ?_
            refine g_goto 9 (pc := 95) dX9_pan_95 (by decide) ?_
            rw [nI_1]
            refine dr5 ?_
            refine dr6 ?_
            exact ih9 (i + 1) _ _ (by omega) (by rw [← hF, rgL, if_neg (Int32.not_lt.mpr c64)])
          · skip
            refine al0 (pc := 67) dX9_pan_67 ?_
            refine gf_X9_13 (pc := 68) hm.o9 hm.r289 dX9_pan_68 ?_
            refine il4 (pc := 71) dX9_pan_71 ?_
            refine g_iald (pc := 73) i hm.a_od (by omega) (rfl) (by decide) dX9_pan_73 ?_
            refine g_goto 78 (pc := 74) dX9_pan_74 (by decide) ?_
            refine is2 (pc := 78) dX9_pan_78 rfl ?_
            refine il5 (pc := 79) dX9_pan_79 ?_
            refine il3 (pc := 81) dX9_pan_81 ?_
            refine g_icmpge 90 (pc := 82) dX9_pan_82 (by decide) (fun c82 => absurd c82 c64) (fun c82 => ?_)
            refine il5 (pc := 85) dX9_pan_85 ?_
            refine g_goto 91 (pc := 87) dX9_pan_87 (by decide) ?_
            refine is3 (pc := 91) dX9_pan_91 rfl ?_
            refine ic4 (pc := 92) dX9_pan_92 kc1 rfl ?_
            refine g_goto 9 (pc := 95) dX9_pan_95 (by decide) ?_
            rw [nI_1]
            refine dr5 ?_
            refine dr6 ?_
            exact ih9 (i + 1) _ _ (by omega) (by rw [← hF, rgL, if_pos (Int32.not_le.mp c64)])
        | succ n2 ih22 =>
          intro i2 s9 hin22 hG
          refine il6 (pc := 22) dX9_pan_22 ?_
          refine g_bipush (pc := 24) dX9_pan_24 kb6 ?_
          refine g_icmpge 61 (pc := 26) dX9_pan_26 (by decide) (fun c26 => absurd c26 (nI_ge (b := 6) (by omega) (by omega))) (fun c26 => ?_)
          refine il5 (pc := 29) dX9_pan_29 ?_
          refine al0 (pc := 31) dX9_pan_31 ?_
          refine al0 (pc := 32) dX9_pan_32 ?_
          refine gf_X9_7 (pc := 33) hm.o9 hm.r288 dX9_pan_33 ?_
          refine g_sipush (pc := 36) dX9_pan_36 ks192 ?_
          refine g_iald (pc := 39) 192 hm.a_nw (by decide) (rfl) (by decide) dX9_pan_39 ?_
          refine il6 (pc := 40) dX9_pan_40 ?_
          refine al0 (pc := 42) dX9_pan_42 ?_
          refine gf_X9_13 (pc := 43) hm.o9 hm.r289 dX9_pan_43 ?_
          refine il4 (pc := 46) dX9_pan_46 ?_
          refine g_iald (pc := 48) i hm.a_od (by omega) (rfl) (by decide) dX9_pan_48 ?_
          refine cl_X9_87 (pc := 49) (c_X9_costBy hm) hm.o9 (by decide) ⟨Nat.zero_le _, Nat.zero_le _⟩ (Nat.le_of_ble_eq_true rfl) dX9_pan_49 ?_
          refine g_iadd (pc := 52) dX9_pan_52 ?_
          refine is5 (pc := 53) dX9_pan_53 rfl ?_
          refine ic6 (pc := 55) dX9_pan_55 kc1 rfl ?_
          refine g_goto 22 (pc := 58) dX9_pan_58 (by decide) ?_
          rw [nI_1]
          exact ih22 (i2 + 1) _ (by omega) hG
      exact L22 6 0 0 (by omega) rfl
  exact L9 49 0 _ _ (by omega) rfl
theorem c_X9_dot {l : Launch} {G : mG} {Z : mZ} {d : mD} {m nw od fd tp rd ah kp ka ln sz it mv : Nat} {c r w : Int32} (hm : mdS Z m nw od fd tp rd ah kp ka ln sz it mv) : CtI l G yX9_dot cX9_dot 4 .int 2 44 [.ref m, .int c, .int r, .int w] Z d (dotR (gA d nw) (fun k => gA d nw (96 + k)) c r w) d := by
  refine enterI RX9 0 [some (.ref m), some (.int c), some (.int r), some (.int w)] (by decide) rfl (rfl) rfl rfl (fun X hR => ?_)
  refine il1 (pc := 0) dX9_dot_0 ?_
  refine g_i2l (pc := 1) dX9_dot_1 ?_
  refine g_ldc2 (pc := 2) dX9_dot_2 wk_X9_139 ?_
  refine g_ldc2 (pc := 5) dX9_dot_5 wk_X9_141 ?_
  refine cl_X9_70 (pc := 8) (c_X9_in) (by decide) ⟨Nat.zero_le _, Nat.zero_le _⟩ (Nat.le_of_ble_eq_true rfl) dX9_dot_8 ?_
  rw [inI c (-3) 14 (by decide) (by decide)]
  refine g_ifeq 57 (pc := 11) dX9_dot_11 (by decide) (fun c11 => ?_) (fun c11 => ?_)
  · skip
    (try simp only [mB_eq0, Decidable.not_not] at c11)
    refine g_ldc (pc := 57) dX9_dot_57 wk_X9_145 ?_
    exact retI (pc := 59) hR dX9_dot_59 (by rw [dotR, if_neg]; intro h9; simp [h9] at *) (rfl)
  · skip
    (try simp only [mB_eq0, Decidable.not_not] at c11)
    refine il2 (pc := 14) dX9_dot_14 ?_
    refine g_i2l (pc := 15) dX9_dot_15 ?_
    refine g_ldc2 (pc := 16) dX9_dot_16 wk_X9_139 ?_
    refine g_ldc2 (pc := 19) dX9_dot_19 wk_X9_143 ?_
    refine cl_X9_70 (pc := 22) (c_X9_in) (by decide) ⟨Nat.zero_le _, Nat.zero_le _⟩ (Nat.le_of_ble_eq_true rfl) dX9_dot_22 ?_
    rw [inI r (-3) 10 (by decide) (by decide)]
    refine g_ifeq 57 (pc := 25) dX9_dot_25 (by decide) (fun c25 => ?_) (fun c25 => ?_)
    · skip
      (try simp only [mB_eq0, Decidable.not_not] at c25)
      refine g_ldc (pc := 57) dX9_dot_57 wk_X9_145 ?_
      exact retI (pc := 59) hR dX9_dot_59 (by rw [dotR, if_neg]; intro h9; simp [h9] at *) (rfl)
    · skip
      (try simp only [mB_eq0, Decidable.not_not] at c25)
      refine il3 (pc := 28) dX9_dot_28 ?_
      refine g_i2l (pc := 29) dX9_dot_29 ?_
      refine g_lconst (pc := 30) dX9_dot_30 kl0 ?_
      refine g_lconst (pc := 31) dX9_dot_31 kl1 ?_
      refine cl_X9_70 (pc := 32) (c_X9_in) (by decide) ⟨Nat.zero_le _, Nat.zero_le _⟩ (Nat.le_of_ble_eq_true rfl) dX9_dot_32 ?_
      rw [inI w (0) 1 (by decide) (by decide)]
      refine g_ifeq 57 (pc := 35) dX9_dot_35 (by decide) (fun c35 => ?_) (fun c35 => ?_)
      · skip
        (try simp only [mB_eq0, Decidable.not_not] at c35)
        refine g_ldc (pc := 57) dX9_dot_57 wk_X9_145 ?_
        exact retI (pc := 59) hR dX9_dot_59 (by rw [dotR, if_neg]; intro h9; simp [h9] at *) (rfl)
      · skip
        (try simp only [mB_eq0, Decidable.not_not] at c35)
        refine al0 (pc := 38) dX9_dot_38 ?_
        refine il3 (pc := 39) dX9_dot_39 ?_
        refine g_ifne 47 (pc := 40) dX9_dot_40 (by decide) (fun c40 => ?_) (fun c40 => ?_)
        · skip
          refine g_bipush (pc := 47) dX9_dot_47 kb96 ?_
          refine il1 (pc := 49) dX9_dot_49 ?_
          refine il2 (pc := 50) dX9_dot_50 ?_
          refine cl_X9_76 (pc := 51) (c_X9_dotAt (pb := 96) hm (by decide)) hm.o9 (by decide) ⟨Nat.zero_le _, Nat.zero_le _⟩ (Nat.le_of_ble_eq_true rfl) dX9_dot_51 ?_
          refine g_goto 59 (pc := 54) dX9_dot_54 (by decide) ?_
          exact retI (pc := 59) hR dX9_dot_59 (by rw [dotR, if_pos ⟨⟨c11, c25⟩, c35⟩]; simp [c40]) (rfl)
        · skip
          refine g_iconst (pc := 43) dX9_dot_43 kc0 ?_
          refine g_goto 49 (pc := 44) dX9_dot_44 (by decide) ?_
          refine il1 (pc := 49) dX9_dot_49 ?_
          refine il2 (pc := 50) dX9_dot_50 ?_
          refine cl_X9_76 (pc := 51) (c_X9_dotAt (pb := 0) hm (by decide)) hm.o9 (by decide) ⟨Nat.zero_le _, Nat.zero_le _⟩ (Nat.le_of_ble_eq_true rfl) dX9_dot_51 ?_
          rw [pix0]
          refine g_goto 59 (pc := 54) dX9_dot_54 (by decide) ?_
          exact retI (pc := 59) hR dX9_dot_59 (by rw [dotR, if_pos ⟨⟨c11, c25⟩, c35⟩]; simp [c40]) (rfl)
theorem c_X9_costs {l : Launch} {G : mG} {Z : mZ} {d : mD} {m nw od fd tp rd ah kp ka ln sz it mv : Nat} (hm : mdS Z m nw od fd tp rd ah kp ka ln sz it mv) : CtI l G yX9_costs cX9_costs 3 .int 6 144 [.ref m] Z d (rcoI (gA d od) (gA d nw 192) (gA d nw) (fun k => gA d nw (96 + k))) d := by
  refine enterI RX9 2 [some (.ref m), none, none] (by decide) rfl (rfl) rfl rfl (fun X hR => ?_)
  refine g_iconst (pc := 0) dX9_costs_0 kc0 ?_
  refine is1 (pc := 1) dX9_costs_1 rfl ?_
  refine g_iconst (pc := 2) dX9_costs_2 kc0 ?_
  refine is2 (pc := 3) dX9_costs_3 rfl ?_
  have L4 : ∀ (n i : Nat) (acc : Int32), i + n = 6 → (accL (fun b => rcC (gA d nw 192) (gA d nw) (fun k => gA d nw (96 + k)) b (rbE (gA d od) (gA d nw 192) (gA d nw) (fun k => gA d nw (96 + k)) b)) n i acc = rcoI (gA d od) (gA d nw 192) (gA d nw) (fun k => gA d nw (96 + k))) → mGo l G (mRm 6 144) X RX9 cX9_costs 3 0 0 Z 4 [some (.ref m), some (.int acc), some (.int (nI i))] [] d := by
    intro n; induction n with
    | zero =>
      intro i acc hin4 hF
      refine il2 (pc := 4) dX9_costs_4 ?_
      refine g_bipush (pc := 5) dX9_costs_5 kb6 ?_
      refine g_icmpge 37 (pc := 7) dX9_costs_7 (by decide) (fun c7 => ?_) (fun c7 => absurd (nI_le (a := 6) (by omega) (by omega)) c7)
      refine il1 (pc := 37) dX9_costs_37 ?_
      exact retI (pc := 38) hR dX9_costs_38 (hF) (rfl)
    | succ n ih4 =>
      intro i acc hin4 hF
      refine il2 (pc := 4) dX9_costs_4 ?_
      refine g_bipush (pc := 5) dX9_costs_5 kb6 ?_
      refine g_icmpge 37 (pc := 7) dX9_costs_7 (by decide) (fun c7 => absurd c7 (nI_ge (b := 6) (by omega) (by omega))) (fun c7 => ?_)
      refine il1 (pc := 10) dX9_costs_10 ?_
      refine al0 (pc := 11) dX9_costs_11 ?_
      refine al0 (pc := 12) dX9_costs_12 ?_
      refine gf_X9_7 (pc := 13) hm.o9 hm.r288 dX9_costs_13 ?_
      refine g_sipush (pc := 16) dX9_costs_16 ks192 ?_
      refine g_iald (pc := 19) 192 hm.a_nw (by decide) (rfl) (by decide) dX9_costs_19 ?_
      refine il2 (pc := 20) dX9_costs_20 ?_
      refine al0 (pc := 21) dX9_costs_21 ?_
      refine il2 (pc := 22) dX9_costs_22 ?_
      refine cl_X9_116 (pc := 23) (c_X9_best hm) hm.o9 (by decide) ⟨Nat.zero_le _, Nat.zero_le _⟩ (Nat.le_of_ble_eq_true rfl) dX9_costs_23 ?_
      refine cl_X9_87 (pc := 26) (c_X9_costBy hm) hm.o9 (by decide) ⟨Nat.zero_le _, Nat.zero_le _⟩ (Nat.le_of_ble_eq_true rfl) dX9_costs_26 ?_
      refine g_iadd (pc := 29) dX9_costs_29 ?_
      refine is1 (pc := 30) dX9_costs_30 rfl ?_
      refine ic2 (pc := 31) dX9_costs_31 kc1 rfl ?_
      refine g_goto 4 (pc := 34) dX9_costs_34 (by decide) ?_
      rw [nI_1]
      exact ih4 (i + 1) _ (by omega) hF
  exact L4 6 0 0 (by omega) rfl
theorem c_X9_wrongs {l : Launch} {G : mG} {Z : mZ} {d : mD} {m nw od fd tp rd ah kp ka ln sz it mv : Nat} (hm : mdS Z m nw od fd tp rd ah kp ka ln sz it mv) : CtI l G yX9_wrongs cX9_wrongs 3 .int 6 144 [.ref m] Z d (rwL (gA d od) (gA d nw 192) (gA d nw) (fun k => gA d nw (96 + k)) 6 0 0) d := by
  refine enterI RX9 2 [some (.ref m), none, none] (by decide) rfl (rfl) rfl rfl (fun X hR => ?_)
  refine g_iconst (pc := 0) dX9_wrongs_0 kc0 ?_
  refine is1 (pc := 1) dX9_wrongs_1 rfl ?_
  refine g_iconst (pc := 2) dX9_wrongs_2 kc0 ?_
  refine is2 (pc := 3) dX9_wrongs_3 rfl ?_
  have L4 : ∀ (n i : Nat) (s9 : Int32), i + n = 6 → (rwL (gA d od) (gA d nw 192) (gA d nw) (fun k => gA d nw (96 + k)) n i s9 = rwL (gA d od) (gA d nw 192) (gA d nw) (fun k => gA d nw (96 + k)) 6 0 0) → mGo l G (mRm 6 144) X RX9 cX9_wrongs 3 0 0 Z 4 [some (.ref m), some (.int s9), some (.int (nI i))] [] d := by
    intro n; induction n with
    | zero =>
      intro i s9 hin4 hF
      refine il2 (pc := 4) dX9_wrongs_4 ?_
      refine g_bipush (pc := 5) dX9_wrongs_5 kb6 ?_
      refine g_icmpge 39 (pc := 7) dX9_wrongs_7 (by decide) (fun c7 => ?_) (fun c7 => absurd (nI_le (a := 6) (by omega) (by omega)) c7)
      refine il1 (pc := 39) dX9_wrongs_39 ?_
      exact retI (pc := 40) hR dX9_wrongs_40 (hF) (rfl)
    | succ n ih4 =>
      intro i s9 hin4 hF
      refine il2 (pc := 4) dX9_wrongs_4 ?_
      refine g_bipush (pc := 5) dX9_wrongs_5 kb6 ?_
      refine g_icmpge 39 (pc := 7) dX9_wrongs_7 (by decide) (fun c7 => absurd c7 (nI_ge (b := 6) (by omega) (by omega))) (fun c7 => ?_)
      refine il1 (pc := 10) dX9_wrongs_10 ?_
      refine al0 (pc := 11) dX9_wrongs_11 ?_
      refine il2 (pc := 12) dX9_wrongs_12 ?_
      refine cl_X9_146 (pc := 13) (c_X9_quick hm) hm.o9 (by decide) ⟨Nat.zero_le _, Nat.zero_le _⟩ (Nat.le_of_ble_eq_true rfl) dX9_wrongs_13 ?_
      refine al0 (pc := 16) dX9_wrongs_16 ?_
      refine il2 (pc := 17) dX9_wrongs_17 ?_
      refine cl_X9_116 (pc := 18) (c_X9_best hm) hm.o9 (by decide) ⟨Nat.zero_le _, Nat.zero_le _⟩ (Nat.le_of_ble_eq_true rfl) dX9_wrongs_18 ?_
      refine g_icmpne 28 (pc := 21) dX9_wrongs_21 (by decide) (fun c21 => ?_) (fun c21 => ?_)
      · skip
        refine g_iconst (pc := 28) dX9_wrongs_28 kc1 ?_
        refine il2 (pc := 29) dX9_wrongs_29 ?_
        refine g_ishl (pc := 30) dX9_wrongs_30 ?_
        refine g_ior (pc := 31) dX9_wrongs_31 ?_
        refine is1 (pc := 32) dX9_wrongs_32 rfl ?_
        refine ic2 (pc := 33) dX9_wrongs_33 kc1 rfl ?_
        refine g_goto 4 (pc := 36) dX9_wrongs_36 (by decide) ?_
        rw [nI_1]
        exact ih4 (i + 1) _ (by omega) (by rw [← hF, rwL, if_neg c21])
      · skip
        refine g_iconst (pc := 24) dX9_wrongs_24 kc0 ?_
        refine g_goto 31 (pc := 25) dX9_wrongs_25 (by decide) ?_
        refine g_ior (pc := 31) dX9_wrongs_31 ?_
        refine is1 (pc := 32) dX9_wrongs_32 rfl ?_
        refine ic2 (pc := 33) dX9_wrongs_33 kc1 rfl ?_
        refine g_goto 4 (pc := 36) dX9_wrongs_36 (by decide) ?_
        rw [nI_1]
        exact ih4 (i + 1) _ (by omega) (by rw [← hF, rwL, if_pos c21])
  exact L4 6 0 0 (by omega) rfl
theorem c_X9_count {l : Launch} {G : mG} {Z : mZ} {d : mD} {m nw od fd tp rd ah kp ka ln sz it mv : Nat} {w : Int32} (hm : mdS Z m nw od fd tp rd ah kp ka ln sz it mv) : CtI l G yX9_count cX9_count 2 .int 8 187 [.ref m, .int w] Z d (rcuR (gA d od) (gA d nw) (layL (gA d od) (gA d nw 192) (gA d nw) (fun k => gA d nw (96 + k)) 6 0 (gA d fd)) (gI d 299 m) w) (rcuD d fd (layL (gA d od) (gA d nw 192) (gA d nw) (fun k => gA d nw (96 + k)) 6 0 (gA d fd)) w) := by
  refine enterI RX9 0 [some (.ref m), some (.int w)] (by decide) rfl (rfl) rfl rfl (fun X hR => ?_)
  refine il1 (pc := 0) dX9_count_0 ?_
  by_cases c1_0 : w = 0
  · skip
    refine g_tblIn (pc := 1) 48 dX9_count_1 (by rw [c1_0]; decide) (by rw [c1_0]; decide) (by rw [c1_0]; rfl) (by decide) ?_
    refine al0 (pc := 48) dX9_count_48 ?_
    refine gf_X9_7 (pc := 49) hm.o9 hm.r288 dX9_count_49 ?_
    refine g_sipush (pc := 52) dX9_count_52 ks192 ?_
    refine g_iald (pc := 55) 192 hm.a_nw (by decide) (rfl) (by decide) dX9_count_55 ?_
    exact retI (pc := 56) hR dX9_count_56 (by simp [rcuR, c1_0]) (by simp [rcuD, c1_0])
  by_cases c1_1 : w = 1
  · skip
    refine g_tblIn (pc := 1) 57 dX9_count_1 (by rw [c1_1]; decide) (by rw [c1_1]; decide) (by rw [c1_1]; rfl) (by decide) ?_
    refine al0 (pc := 57) dX9_count_57 ?_
    refine cl_X9_149 (pc := 58) (c_X9_costs hm) hm.o9 (by decide) ⟨Nat.zero_le _, Nat.zero_le _⟩ (Nat.le_of_ble_eq_true rfl) dX9_count_58 ?_
    exact retI (pc := 61) hR dX9_count_61 (by simp [rcuR, c1_1]) (by simp [rcuD, c1_1])
  by_cases c1_2 : w = 2
  · skip
    refine g_tblIn (pc := 1) 62 dX9_count_1 (by rw [c1_2]; decide) (by rw [c1_2]; decide) (by rw [c1_2]; rfl) (by decide) ?_
    refine al0 (pc := 62) dX9_count_62 ?_
    refine cl_X9_153 (pc := 63) (c_X9_longField hm) hm.o9 (by decide) ⟨Nat.zero_le _, Nat.zero_le _⟩ (Nat.le_of_ble_eq_true rfl) dX9_count_63 ?_
    exact retI (pc := 66) hR dX9_count_66 (by simp [rcuR, c1_2]) (by simp [rcuD, c1_2])
  by_cases c1_3 : w = 3
  · skip
    refine g_tblIn (pc := 1) 67 dX9_count_1 (by rw [c1_3]; decide) (by rw [c1_3]; decide) (by rw [c1_3]; rfl) (by decide) ?_
    refine al0 (pc := 67) dX9_count_67 ?_
    refine cl_X9_156 (pc := 68) (c_X9_lacks hm) hm.o9 (by decide) ⟨Nat.zero_le _, Nat.zero_le _⟩ (Nat.le_of_ble_eq_true rfl) dX9_count_68 ?_
    exact retI (pc := 71) hR dX9_count_71 (by simp [rcuR, c1_3]) (by simp [rcuD, c1_3])
  by_cases c1_4 : w = 4
  · skip
    refine g_tblIn (pc := 1) 72 dX9_count_1 (by rw [c1_4]; decide) (by rw [c1_4]; decide) (by rw [c1_4]; rfl) (by decide) ?_
    refine al0 (pc := 72) dX9_count_72 ?_
    refine il1 (pc := 73) dX9_count_73 ?_
    refine g_iconst (pc := 74) dX9_count_74 kc4 ?_
    refine g_icmpne 82 (pc := 75) dX9_count_75 (by decide) (fun c75 => absurd c1_4 c75) (fun c75 => ?_)
    refine g_iconst (pc := 78) dX9_count_78 kc1 ?_
    refine g_goto 83 (pc := 79) dX9_count_79 (by decide) ?_
    refine cl_X9_159 (pc := 83) (c_X9_pan hm) hm.o9 (by decide) ⟨Nat.zero_le _, Nat.zero_le _⟩ (Nat.le_of_ble_eq_true rfl) dX9_count_83 ?_
    rw [rhR, if_neg (by decide)]
    exact retI (pc := 86) hR dX9_count_86 (by simp [rcuR, c1_4, c75]) (by simp [rcuD, c1_4, c75])
  by_cases c1_5 : w = 5
  · skip
    refine g_tblIn (pc := 1) 72 dX9_count_1 (by rw [c1_5]; decide) (by rw [c1_5]; decide) (by rw [c1_5]; rfl) (by decide) ?_
    refine al0 (pc := 72) dX9_count_72 ?_
    refine il1 (pc := 73) dX9_count_73 ?_
    refine g_iconst (pc := 74) dX9_count_74 kc4 ?_
    refine g_icmpne 82 (pc := 75) dX9_count_75 (by decide) (fun c75 => ?_) (fun c75 => absurd c75 c1_4)
    refine g_iconst (pc := 82) dX9_count_82 kc0 ?_
    refine cl_X9_159 (pc := 83) (c_X9_pan hm) hm.o9 (by decide) ⟨Nat.zero_le _, Nat.zero_le _⟩ (Nat.le_of_ble_eq_true rfl) dX9_count_83 ?_
    rw [rhR, if_pos rfl]
    exact retI (pc := 86) hR dX9_count_86 (by simp [rcuR, c1_5, c75]) (by simp [rcuD, c1_5, c75])
  by_cases c1_6 : w = 6
  · skip
    refine g_tblIn (pc := 1) 87 dX9_count_1 (by rw [c1_6]; decide) (by rw [c1_6]; decide) (by rw [c1_6]; rfl) (by decide) ?_
    refine al0 (pc := 87) dX9_count_87 ?_
    refine cl_X9_163 (pc := 88) (c_X9_wrongs hm) hm.o9 (by decide) ⟨Nat.zero_le _, Nat.zero_le _⟩ (Nat.le_of_ble_eq_true rfl) dX9_count_88 ?_
    exact retI (pc := 91) hR dX9_count_91 (by simp [rcuR, c1_6]) (by simp [rcuD, c1_6])
  by_cases c1_7 : w = 7
  · skip
    refine g_tblIn (pc := 1) 92 dX9_count_1 (by rw [c1_7]; decide) (by rw [c1_7]; decide) (by rw [c1_7]; rfl) (by decide) ?_
    refine al0 (pc := 92) dX9_count_92 ?_
    refine gf_X9_166 (pc := 93) hm.o9 dX9_count_93 ?_
    exact retI (pc := 96) hR dX9_count_96 (by simp [rcuR, c1_7]) (by simp [rcuD, c1_7])
  refine g_tblOut (pc := 1) 97 dX9_count_1 (by have q0 := lv_neT c1_0 (k := 0) (a := 0) (by decide); have q1 := lv_neT c1_1 (k := 1) (a := 1) (by decide); have q2 := lv_neT c1_2 (k := 2) (a := 2) (by decide); have q3 := lv_neT c1_3 (k := 3) (a := 3) (by decide); have q4 := lv_neT c1_4 (k := 4) (a := 4) (by decide); have q5 := lv_neT c1_5 (k := 5) (a := 5) (by decide); have q6 := lv_neT c1_6 (k := 6) (a := 6) (by decide); have q7 := lv_neT c1_7 (k := 7) (a := 7) (by decide); omega) (by decide) ?_
  refine g_ldc (pc := 97) dX9_count_97 wk_X9_145 ?_
  exact retI (pc := 99) hR dX9_count_99 (by simp [rcuR, c1_0, c1_1, c1_2, c1_3, c1_4, c1_5, c1_6, c1_7]) (by simp [rcuD, c1_0, c1_1, c1_2, c1_3, c1_4, c1_5, c1_6, c1_7])
theorem c_X9_type {l : Launch} {G : mG} {Z : mZ} {d : mD} {m nw od fd tp rd ah kp ka ln sz it mv : Nat} {n : Nat} {c : Int32} (hm : mdS Z m nw od fd tp rd ah kp ka ln sz it mv) (hn : gI d 295 m = nI n) (hn2 : n ≤ 120) : CtI l G yX9_type cX9_type 2 .int 1 25 [.ref m, .int c] Z d (rtyR n c) (rtyD d m tp n c) := by
  refine enterI RX9 0 [some (.ref m), some (.int c)] (by decide) rfl (rfl) rfl rfl (fun X hR => ?_)
  refine il1 (pc := 0) dX9_type_0 ?_
  refine g_i2l (pc := 1) dX9_type_1 ?_
  refine g_ldc2 (pc := 2) dX9_type_2 wk_X9_169 ?_
  refine g_ldc2 (pc := 5) dX9_type_5 wk_X9_171 ?_
  refine cl_X9_70 (pc := 8) (c_X9_in) (by decide) ⟨Nat.zero_le _, Nat.zero_le _⟩ (Nat.le_of_ble_eq_true rfl) dX9_type_8 ?_
  rw [inI c (32) 126 (by decide) (by decide)]
  refine g_ifne 17 (pc := 11) dX9_type_11 (by decide) (fun c11 => ?_) (fun c11 => ?_)
  · skip
    (try simp only [mB_eq0, Decidable.not_not] at c11)
    refine al0 (pc := 17) dX9_type_17 ?_
    refine gf_X9_173 (pc := 18) hm.o9 dX9_type_18 ?_
    refine g_bipush (pc := 21) dX9_type_21 kb120 ?_
    refine g_icmpne 29 (pc := 23) dX9_type_23 (by decide) (fun c23 => ?_) (fun c23 => ?_)
    · skip
      have hne : ¬ n = 120 := fun h => c23 (by rw [hn, h]; rfl)
      refine al0 (pc := 29) dX9_type_29 ?_
      refine gf_X9_19 (pc := 30) hm.o9 hm.r294 dX9_type_30 ?_
      refine al0 (pc := 33) dX9_type_33 ?_
      refine gf_X9_173 (pc := 34) hm.o9 dX9_type_34 ?_
      refine il1 (pc := 37) dX9_type_37 ?_
      refine g_iast (pc := 38) n hm.a_tp (by omega) (hn) (by decide) dX9_type_38 ?_
      refine al0 (pc := 39) dX9_type_39 ?_
      refine g_dupR (pc := 40) dX9_type_40 ?_
      refine gf_X9_173 (pc := 41) hm.o9 dX9_type_41 ?_
      refine g_iconst (pc := 44) dX9_type_44 kc1 ?_
      refine g_iadd (pc := 45) dX9_type_45 ?_
      refine pf_X9_173 (pc := 46) hm.o9 dX9_type_46 ?_
      rw [gI_tA, hn, nI_1]
      refine al0 (pc := 49) dX9_type_49 ?_
      refine gf_X9_173 (pc := 50) hm.o9 dX9_type_50 ?_
      exact retI (pc := 53) hR dX9_type_53 (by rw [gI_eq, rtyR, if_pos c11, if_neg hne]) (by rw [rtyD, if_pos ⟨c11, hne⟩])
    · skip
      have hne : n = 120 := by rw [hn] at c23; exact (nI_eq (b := 120) (by omega) (by decide)).mp c23
      refine g_ldc (pc := 26) dX9_type_26 wk_X9_176 ?_
      exact retI (pc := 28) hR dX9_type_28 (by rw [rtyR, if_pos c11, if_pos hne]) (by rw [rtyD, if_neg]; intro h9; exact h9.2 hne)
  · skip
    (try simp only [mB_eq0, Decidable.not_not] at c11)
    refine g_ldc (pc := 14) dX9_type_14 wk_X9_145 ?_
    exact retI (pc := 16) hR dX9_type_16 (by rw [rtyR, if_neg c11]) (by rw [rtyD, if_neg]; intro h9; exact c11 h9.1)
theorem c_X9_here {l : Launch} {G : mG} {Z : mZ} {d : mD} {m nw od fd tp rd ah kp ka ln sz it mv : Nat} {n p : Nat} (hm : mdS Z m nw od fd tp rd ah kp ka ln sz it mv) (hn : gI d 295 m = nI n) (hn2 : n ≤ 120) (hpl : gI d 296 m = nI p) (hpn : p ≤ n) : CtI l G yX9_here cX9_here 1 .int 0 0 [.ref m] Z d (hrC (gA d tp) n p) (sI d 296 m (nI (hrP (gA d tp) n p))) := by
  have hle := hrP_le (gA d tp) hpn
  refine enterI RX9 0 [some (.ref m)] (by decide) rfl (rfl) rfl rfl (fun X hR => ?_)
  have L0 : ∀ (n9 i : Nat), i + n9 = (n - p) → (skp (gA d tp) n9 (p + i) = hrP (gA d tp) n p) → mGo l G (mRm 0 0) X RX9 cX9_here 1 0 0 Z 0 [some (.ref m)] [] (sI d 296 m (nI (p + i))) := by
    intro n9; induction n9 with
    | zero =>
      intro i  hin0 hF
      refine al0 (pc := 0) dX9_here_0 ?_
      refine gf_X9_177 (pc := 1) hm.o9 dX9_here_1 ?_
      rw [gI_eq]
      refine al0 (pc := 4) dX9_here_4 ?_
      refine gf_X9_173 (pc := 5) hm.o9 dX9_here_5 ?_
      rw [gI_ne (by decide), hn]
      refine g_icmpge 38 (pc := 8) dX9_here_8 (by decide) (fun c8 => ?_) (fun c8 => absurd (nI_le (by omega) (by omega)) c8)
      refine al0 (pc := 38) dX9_here_38 ?_
      have hq9 : p + i = hrP (gA d tp) n p := hF
      rw [hq9]
      refine gf_X9_177 (pc := 39) hm.o9 dX9_here_39 ?_
      rw [gI_eq]
      refine al0 (pc := 42) dX9_here_42 ?_
      refine gf_X9_173 (pc := 43) hm.o9 dX9_here_43 ?_
      rw [gI_ne (by decide), hn]
      refine g_icmpge 61 (pc := 46) dX9_here_46 (by decide) (fun c46 => ?_) (fun c46 => ?_)
      · skip
        have hlt : ¬ hrP (gA d tp) n p < n := fun h => by have := (nI_leI (by omega) (by omega)).mp c46; omega
        refine g_iconst (pc := 61) dX9_here_61 kc0 ?_
        exact retI (pc := 62) hR dX9_here_62 (by rw [hrC, if_neg hlt]) (rfl)
      · skip
        have hlt : hrP (gA d tp) n p < n := by rcases Nat.lt_or_ge (hrP (gA d tp) n p) n with h | h; exact h; exact absurd (nI_le h (by omega)) c46
        refine al0 (pc := 49) dX9_here_49 ?_
        refine gf_X9_19 (pc := 50) hm.o9 hm.r294 dX9_here_50 ?_
        refine al0 (pc := 53) dX9_here_53 ?_
        refine gf_X9_177 (pc := 54) hm.o9 dX9_here_54 ?_
        rw [gI_eq]
        refine g_iald (pc := 57) (hrP (gA d tp) n p) hm.a_tp (by omega) (rfl) (by decide) dX9_here_57 ?_
        rw [gA_sI]
        refine g_goto 62 (pc := 58) dX9_here_58 (by decide) ?_
        exact retI (pc := 62) hR dX9_here_62 (by rw [hrC, if_pos hlt]) (rfl)
    | succ n9 ih0 =>
      intro i  hin0 hF
      refine al0 (pc := 0) dX9_here_0 ?_
      refine gf_X9_177 (pc := 1) hm.o9 dX9_here_1 ?_
      rw [gI_eq]
      refine al0 (pc := 4) dX9_here_4 ?_
      refine gf_X9_173 (pc := 5) hm.o9 dX9_here_5 ?_
      rw [gI_ne (by decide), hn]
      refine g_icmpge 38 (pc := 8) dX9_here_8 (by decide) (fun c8 => absurd c8 (nI_ge (by omega) (by omega))) (fun c8 => ?_)
      refine al0 (pc := 11) dX9_here_11 ?_
      refine gf_X9_19 (pc := 12) hm.o9 hm.r294 dX9_here_12 ?_
      refine al0 (pc := 15) dX9_here_15 ?_
      refine gf_X9_177 (pc := 16) hm.o9 dX9_here_16 ?_
      rw [gI_eq]
      refine g_iald (pc := 19) (p + i) hm.a_tp (by omega) (rfl) (by decide) dX9_here_19 ?_
      rw [gA_sI]
      refine g_bipush (pc := 20) dX9_here_20 kb32 ?_
      refine g_icmpne 38 (pc := 22) dX9_here_22 (by decide) (fun c22 => ?_) (fun c22 => ?_)
      · skip
        refine al0 (pc := 38) dX9_here_38 ?_
        have hq9 : p + i = hrP (gA d tp) n p := by rw [← hF, skp, if_neg c22]
        rw [hq9]
        refine gf_X9_177 (pc := 39) hm.o9 dX9_here_39 ?_
        rw [gI_eq]
        refine al0 (pc := 42) dX9_here_42 ?_
        refine gf_X9_173 (pc := 43) hm.o9 dX9_here_43 ?_
        rw [gI_ne (by decide), hn]
        refine g_icmpge 61 (pc := 46) dX9_here_46 (by decide) (fun c46 => ?_) (fun c46 => ?_)
        · skip
          have hlt : ¬ hrP (gA d tp) n p < n := fun h => by have := (nI_leI (by omega) (by omega)).mp c46; omega
          refine g_iconst (pc := 61) dX9_here_61 kc0 ?_
          exact retI (pc := 62) hR dX9_here_62 (by rw [hrC, if_neg hlt]) (rfl)
        · skip
          have hlt : hrP (gA d tp) n p < n := by rcases Nat.lt_or_ge (hrP (gA d tp) n p) n with h | h; exact h; exact absurd (nI_le h (by omega)) c46
          refine al0 (pc := 49) dX9_here_49 ?_
          refine gf_X9_19 (pc := 50) hm.o9 hm.r294 dX9_here_50 ?_
          refine al0 (pc := 53) dX9_here_53 ?_
          refine gf_X9_177 (pc := 54) hm.o9 dX9_here_54 ?_
          rw [gI_eq]
          refine g_iald (pc := 57) (hrP (gA d tp) n p) hm.a_tp (by omega) (rfl) (by decide) dX9_here_57 ?_
          rw [gA_sI]
          refine g_goto 62 (pc := 58) dX9_here_58 (by decide) ?_
          exact retI (pc := 62) hR dX9_here_62 (by rw [hrC, if_pos hlt]) (rfl)
      · skip
        refine al0 (pc := 25) dX9_here_25 ?_
        refine g_dupR (pc := 26) dX9_here_26 ?_
        refine gf_X9_177 (pc := 27) hm.o9 dX9_here_27 ?_
        rw [gI_eq]
        refine g_iconst (pc := 30) dX9_here_30 kc1 ?_
        refine g_iadd (pc := 31) dX9_here_31 ?_
        refine pf_X9_177 (pc := 32) hm.o9 dX9_here_32 ?_
        rw [sI_sI]
        refine g_goto 0 (pc := 35) dX9_here_35 (by decide) ?_
        rw [nI_1, Nat.add_assoc]
        exact ih0 (i + 1) (by omega) (by rw [← hF, skp, if_pos c22, Nat.add_assoc])
  have q8 := L0 (n - p) 0 (by omega) rfl
  rw [Nat.add_zero, ← hpl, sI_self] at q8
  exact q8
