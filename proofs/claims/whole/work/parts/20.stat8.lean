theorem c_X8_isWithin {l : Launch} {G : mG} {Z : mZ} {d : mD} {v lo hi : Int32} : CtI l G yX8_isWithin cX8_isWithin 3 .boolean 0 0 [.int v, .int lo, .int hi] Z d (mB (wthn v lo hi)) d := by
  refine enterI RX8 0 [some (.int v), some (.int lo), some (.int hi)] (by decide) rfl (narB _) rfl rfl (fun X hR => ?_)
  refine il0 (pc := 0) dX8_isWithin_0 ?_
  refine il1 (pc := 1) dX8_isWithin_1 ?_
  refine g_icmplt 14 (pc := 2) dX8_isWithin_2 (by decide) (fun c2 => ?_) (fun c2 => ?_)
  · skip
    refine g_iconst (pc := 14) dX8_isWithin_14 kc0 ?_
    exact retI (pc := 15) hR dX8_isWithin_15 (by simp [mB, wthn, ← Int32.not_lt, c2]) (rfl)
  · skip
    refine il0 (pc := 5) dX8_isWithin_5 ?_
    refine il2 (pc := 6) dX8_isWithin_6 ?_
    refine g_icmpgt 14 (pc := 7) dX8_isWithin_7 (by decide) (fun c7 => ?_) (fun c7 => ?_)
    · skip
      refine g_iconst (pc := 14) dX8_isWithin_14 kc0 ?_
      exact retI (pc := 15) hR dX8_isWithin_15 (by simp [mB, wthn, ← Int32.not_lt, c2, c7]) (rfl)
    · skip
      refine g_iconst (pc := 10) dX8_isWithin_10 kc1 ?_
      refine g_goto 15 (pc := 11) dX8_isWithin_11 (by decide) ?_
      exact retI (pc := 15) hR dX8_isWithin_15 (by simp [mB, wthn, ← Int32.not_lt, c2, c7]) (rfl)
theorem c_X8_isInPicture {l : Launch} {G : mG} {Z : mZ} {d : mD} {c r : Int32} : CtI l G yX8_isInPicture cX8_isInPicture 2 .boolean 1 22 [.int c, .int r] Z d (mB (wthn c 0 11 ∧ wthn r 0 7)) d := by
  refine enterI RX8 0 [some (.int c), some (.int r)] (by decide) rfl (narB _) rfl rfl (fun X hR => ?_)
  refine il0 (pc := 0) dX8_isInPicture_0 ?_
  refine g_iconst (pc := 1) dX8_isInPicture_1 kc0 ?_
  refine g_bipush (pc := 2) dX8_isInPicture_2 kb11 ?_
  refine cl_X8_105 (pc := 4) (c_X8_isWithin) (by decide) ⟨Nat.zero_le _, Nat.zero_le _⟩ (Nat.le_of_ble_eq_true rfl) dX8_isInPicture_4 ?_
  refine g_ifeq 24 (pc := 7) dX8_isInPicture_7 (by decide) (fun c7 => ?_) (fun c7 => ?_)
  · skip
    refine g_iconst (pc := 24) dX8_isInPicture_24 kc0 ?_
    exact retI (pc := 25) hR dX8_isInPicture_25 (by simp only [mB_eq0, mB_ne0] at c7; simp [mB, c7]) (rfl)
  · skip
    refine il1 (pc := 10) dX8_isInPicture_10 ?_
    refine g_iconst (pc := 11) dX8_isInPicture_11 kc0 ?_
    refine g_bipush (pc := 12) dX8_isInPicture_12 kb7 ?_
    refine cl_X8_105 (pc := 14) (c_X8_isWithin) (by decide) ⟨Nat.zero_le _, Nat.zero_le _⟩ (Nat.le_of_ble_eq_true rfl) dX8_isInPicture_14 ?_
    refine g_ifeq 24 (pc := 17) dX8_isInPicture_17 (by decide) (fun c17 => ?_) (fun c17 => ?_)
    · skip
      refine g_iconst (pc := 24) dX8_isInPicture_24 kc0 ?_
      exact retI (pc := 25) hR dX8_isInPicture_25 (by simp only [mB_eq0, mB_ne0] at c7 c17; simp [mB, c7, c17]) (rfl)
    · skip
      refine g_iconst (pc := 20) dX8_isInPicture_20 kc1 ?_
      refine g_goto 25 (pc := 21) dX8_isInPicture_21 (by decide) ?_
      exact retI (pc := 25) hR dX8_isInPicture_25 (by simp only [mB_eq0, mB_ne0] at c7 c17; simp [mB, c7, c17]) (rfl)
theorem c_X8_isSheet {l : Launch} {G : mG} {Z : mZ} {d : mD} {v : Int32} : CtI l G yX8_isSheet cX8_isSheet 1 .boolean 1 22 [.int v] Z d (mB (wthn v 0 3)) d := by
  refine enterI RX8 0 [some (.int v)] (by decide) rfl (narB _) rfl rfl (fun X hR => ?_)
  refine il0 (pc := 0) dX8_isSheet_0 ?_
  refine g_iconst (pc := 1) dX8_isSheet_1 kc0 ?_
  refine g_iconst (pc := 2) dX8_isSheet_2 kc3 ?_
  refine cl_X8_105 (pc := 3) (c_X8_isWithin) (by decide) ⟨Nat.zero_le _, Nat.zero_le _⟩ (Nat.le_of_ble_eq_true rfl) dX8_isSheet_3 ?_
  exact retI (pc := 6) hR dX8_isSheet_6 (rfl) (rfl)
theorem c_X8_isLane {l : Launch} {G : mG} {Z : mZ} {d : mD} {v : Int32} : CtI l G yX8_isLane cX8_isLane 1 .boolean 1 22 [.int v] Z d (mB (wthn v 0 3)) d := by
  refine enterI RX8 0 [some (.int v)] (by decide) rfl (narB _) rfl rfl (fun X hR => ?_)
  refine il0 (pc := 0) dX8_isLane_0 ?_
  refine g_iconst (pc := 1) dX8_isLane_1 kc0 ?_
  refine g_iconst (pc := 2) dX8_isLane_2 kc3 ?_
  refine cl_X8_105 (pc := 3) (c_X8_isWithin) (by decide) ⟨Nat.zero_le _, Nat.zero_le _⟩ (Nat.le_of_ble_eq_true rfl) dX8_isLane_3 ?_
  exact retI (pc := 6) hR dX8_isLane_6 (rfl) (rfl)
theorem c_X8_xOf {l : Launch} {G : mG} {Z : mZ} {d : mD} {v : Int32} : CtI l G yX8_xOf cX8_xOf 1 .int 0 0 [.int v] Z d (xOfI v) d := by
  refine enterI RX8 0 [some (.int v)] (by decide) rfl (rfl) rfl rfl (fun X hR => ?_)
  refine il0 (pc := 0) dX8_xOf_0 ?_
  refine g_bipush (pc := 1) dX8_xOf_1 kb7 ?_
  refine g_irem (pc := 3) dX8_xOf_3 (by decide) ?_
  refine g_iconst (pc := 4) dX8_xOf_4 kc3 ?_
  refine g_isub (pc := 5) dX8_xOf_5 ?_
  exact retI (pc := 6) hR dX8_xOf_6 (rfl) (rfl)
theorem c_X8_yOf {l : Launch} {G : mG} {Z : mZ} {d : mD} {v : Int32} : CtI l G yX8_yOf cX8_yOf 1 .int 0 0 [.int v] Z d (yOfI v) d := by
  refine enterI RX8 0 [some (.int v)] (by decide) rfl (rfl) rfl rfl (fun X hR => ?_)
  refine il0 (pc := 0) dX8_yOf_0 ?_
  refine g_bipush (pc := 1) dX8_yOf_1 kb7 ?_
  refine g_idiv (pc := 3) dX8_yOf_3 (by decide) ?_
  refine g_iconst (pc := 4) dX8_yOf_4 kc3 ?_
  refine g_isub (pc := 5) dX8_yOf_5 ?_
  exact retI (pc := 6) hR dX8_yOf_6 (rfl) (rfl)
theorem c_X8_moveBy {l : Launch} {G : mG} {Z : mZ} {d : mD} {x y : Int32} : CtI l G yX8_moveBy cX8_moveBy 2 .int 0 0 [.int x, .int y] Z d (movI x y) d := by
  refine enterI RX8 0 [some (.int x), some (.int y)] (by decide) rfl (rfl) rfl rfl (fun X hR => ?_)
  refine g_bipush (pc := 0) dX8_moveBy_0 kb7 ?_
  refine il1 (pc := 2) dX8_moveBy_2 ?_
  refine g_iconst (pc := 3) dX8_moveBy_3 kc3 ?_
  refine g_iadd (pc := 4) dX8_moveBy_4 ?_
  refine g_imul (pc := 5) dX8_moveBy_5 ?_
  refine il0 (pc := 6) dX8_moveBy_6 ?_
  refine g_iadd (pc := 7) dX8_moveBy_7 ?_
  refine g_iconst (pc := 8) dX8_moveBy_8 kc3 ?_
  refine g_iadd (pc := 9) dX8_moveBy_9 ?_
  exact retI (pc := 10) hR dX8_moveBy_10 (rfl) (rfl)
theorem c_X8_stepsOf {l : Launch} {G : mG} {Z : mZ} {d : mD} {v : Int32} : CtI l G yX8_stepsOf cX8_stepsOf 1 .int 1 21 [.int v] Z d (farI v) d := by
  refine enterI RX8 0 [some (.int v)] (by decide) rfl (rfl) rfl rfl (fun X hR => ?_)
  refine il0 (pc := 0) dX8_stepsOf_0 ?_
  refine cl_X8_195 (pc := 1) (c_X8_xOf) (by decide) ⟨Nat.zero_le _, Nat.zero_le _⟩ (Nat.le_of_ble_eq_true rfl) dX8_stepsOf_1 ?_
  refine cl_X8_276 (pc := 4) (by decide) (Nat.le_of_ble_eq_true rfl) ⟨Nat.zero_le _, Nat.zero_le _⟩ dX8_stepsOf_4 ?_
  refine il0 (pc := 7) dX8_stepsOf_7 ?_
  refine cl_X8_199 (pc := 8) (c_X8_yOf) (by decide) ⟨Nat.zero_le _, Nat.zero_le _⟩ (Nat.le_of_ble_eq_true rfl) dX8_stepsOf_8 ?_
  refine cl_X8_276 (pc := 11) (by decide) (Nat.le_of_ble_eq_true rfl) ⟨Nat.zero_le _, Nat.zero_le _⟩ dX8_stepsOf_11 ?_
  refine g_iadd (pc := 14) dX8_stepsOf_14 ?_
  exact retI (pc := 15) hR dX8_stepsOf_15 (rfl) (rfl)
theorem c_X8_firstColumn {l : Launch} {G : mG} {Z : mZ} {d : mD} {v : Int32} : CtI l G yX8_firstColumn cX8_firstColumn 1 .int 0 0 [.int v] Z d (colI v) d := by
  refine enterI RX8 0 [some (.int v)] (by decide) rfl (rfl) rfl rfl (fun X hR => ?_)
  refine il0 (pc := 0) dX8_firstColumn_0 ?_
  refine g_iconst (pc := 1) dX8_firstColumn_1 kc3 ?_
  refine g_irem (pc := 2) dX8_firstColumn_2 (by decide) ?_
  refine g_iconst (pc := 3) dX8_firstColumn_3 kc4 ?_
  refine g_imul (pc := 4) dX8_firstColumn_4 ?_
  exact retI (pc := 5) hR dX8_firstColumn_5 (rfl) (rfl)
theorem c_X8_firstRow {l : Launch} {G : mG} {Z : mZ} {d : mD} {v : Int32} : CtI l G yX8_firstRow cX8_firstRow 1 .int 0 0 [.int v] Z d (rowI v) d := by
  refine enterI RX8 0 [some (.int v)] (by decide) rfl (rfl) rfl rfl (fun X hR => ?_)
  refine il0 (pc := 0) dX8_firstRow_0 ?_
  refine g_iconst (pc := 1) dX8_firstRow_1 kc3 ?_
  refine g_idiv (pc := 2) dX8_firstRow_2 (by decide) ?_
  refine g_iconst (pc := 3) dX8_firstRow_3 kc4 ?_
  refine g_imul (pc := 4) dX8_firstRow_4 ?_
  exact retI (pc := 5) hR dX8_firstRow_5 (rfl) (rfl)
theorem c_X8_blockAt {l : Launch} {G : mG} {Z : mZ} {d : mD} {c r : Int32} : CtI l G yX8_blockAt cX8_blockAt 2 .int 0 0 [.int c, .int r] Z d (blkI c r) d := by
  refine enterI RX8 0 [some (.int c), some (.int r)] (by decide) rfl (rfl) rfl rfl (fun X hR => ?_)
  refine il1 (pc := 0) dX8_blockAt_0 ?_
  refine g_iconst (pc := 1) dX8_blockAt_1 kc4 ?_
  refine g_idiv (pc := 2) dX8_blockAt_2 (by decide) ?_
  refine g_iconst (pc := 3) dX8_blockAt_3 kc3 ?_
  refine g_imul (pc := 4) dX8_blockAt_4 ?_
  refine il0 (pc := 5) dX8_blockAt_5 ?_
  refine g_iconst (pc := 6) dX8_blockAt_6 kc4 ?_
  refine g_idiv (pc := 7) dX8_blockAt_7 (by decide) ?_
  refine g_iadd (pc := 8) dX8_blockAt_8 ?_
  exact retI (pc := 9) hR dX8_blockAt_9 (rfl) (rfl)
theorem c_X8_power {l : Launch} {G : mG} {Z : mZ} {d : mD} {b : Int32} {t : Nat} (ht : t < 2 ^ 31) : CtI l G yX8_power cX8_power 4 .int 0 0 [.int b, .int (nI t)] Z d (powI b t 1) d := by
  refine enterI RX8 2 [some (.int b), some (.int (nI t)), none, none] (by decide) rfl (rfl) rfl rfl (fun X hR => ?_)
  refine g_iconst (pc := 0) dX8_power_0 kc1 ?_
  refine is2 (pc := 1) dX8_power_1 rfl ?_
  refine g_iconst (pc := 2) dX8_power_2 kc0 ?_
  refine is3 (pc := 3) dX8_power_3 rfl ?_
  have L4 : ∀ (n i : Nat) (p : Int32), i + n = t → (powI b n p = powI b t 1) → mGo l G (mRm 0 0) X RX8 cX8_power 4 0 0 Z 4 [some (.int b), some (.int (nI t)), some (.int p), some (.int (nI i))] [] d := by
    intro n; induction n with
    | zero =>
      intro i p hin4 hF
      refine il3 (pc := 4) dX8_power_4 ?_
      refine il1 (pc := 5) dX8_power_5 ?_
      refine g_icmpge 19 (pc := 6) dX8_power_6 (by decide) (fun c6 => ?_) (fun c6 => absurd (nI_le (by omega) (by omega)) c6)
      refine il2 (pc := 19) dX8_power_19 ?_
      exact retI (pc := 20) hR dX8_power_20 (hF) (rfl)
    | succ n ih4 =>
      intro i p hin4 hF
      refine il3 (pc := 4) dX8_power_4 ?_
      refine il1 (pc := 5) dX8_power_5 ?_
      refine g_icmpge 19 (pc := 6) dX8_power_6 (by decide) (fun c6 => absurd c6 (nI_ge (by omega) (by omega))) (fun c6 => ?_)
      refine il2 (pc := 9) dX8_power_9 ?_
      refine il0 (pc := 10) dX8_power_10 ?_
      refine g_imul (pc := 11) dX8_power_11 ?_
      refine is2 (pc := 12) dX8_power_12 rfl ?_
      refine ic3 (pc := 13) dX8_power_13 kc1 rfl ?_
      refine g_goto 4 (pc := 16) dX8_power_16 (by decide) ?_
      rw [nI_1]
      exact ih4 (i + 1) _ (by omega) hF
  exact L4 t 0 1 (by omega) rfl
theorem c_X8_commonDivisor {l : Launch} {G : mG} {Z : mZ} {d : mD} {a b : Int32} : CtI l G yX8_commonDivisor cX8_commonDivisor 4 .int 0 0 [.int a, .int b] Z d (gcdI 64 a b) d := by
  refine enterI RX8 2 [some (.int a), some (.int b), none, none] (by decide) rfl (rfl) rfl rfl (fun X hR => ?_)
  refine g_iconst (pc := 0) dX8_commonDivisor_0 kc0 ?_
  refine is2 (pc := 1) dX8_commonDivisor_1 rfl ?_
  have L2 : ∀ (n i : Nat) (a2 : Int32) (b2 : Int32), i + n = 64 → (gcdI n a2 b2 = gcdI 64 a b) → mGo l G (mRm 0 0) X RX8 cX8_commonDivisor 4 0 0 Z 2 [some (.int a2), some (.int b2), some (.int (nI i)), none] [] d := by
    intro n; induction n with
    | zero =>
      intro i a2 b2 hin2 hF
      refine il2 (pc := 2) dX8_commonDivisor_2 ?_
      refine g_bipush (pc := 3) dX8_commonDivisor_3 kb64 ?_
      refine g_icmpge 26 (pc := 5) dX8_commonDivisor_5 (by decide) (fun c5 => ?_) (fun c5 => absurd (nI_le (a := 64) (by omega) (by omega)) c5)
      refine il0 (pc := 26) dX8_commonDivisor_26 ?_
      exact retI (pc := 27) hR dX8_commonDivisor_27 (hF) (rfl)
    | succ n ih2 =>
      intro i a2 b2 hin2 hF
      refine il2 (pc := 2) dX8_commonDivisor_2 ?_
      refine g_bipush (pc := 3) dX8_commonDivisor_3 kb64 ?_
      refine g_icmpge 26 (pc := 5) dX8_commonDivisor_5 (by decide) (fun c5 => absurd c5 (nI_ge (b := 64) (by omega) (by omega))) (fun c5 => ?_)
      refine il1 (pc := 8) dX8_commonDivisor_8 ?_
      refine g_ifeq 26 (pc := 9) dX8_commonDivisor_9 (by decide) (fun c9 => ?_) (fun c9 => ?_)
      · skip
        refine il0 (pc := 26) dX8_commonDivisor_26 ?_
        exact retI (pc := 27) hR dX8_commonDivisor_27 (by rw [← hF, gcdI, if_pos c9]) (rfl)
      · skip
        refine il0 (pc := 12) dX8_commonDivisor_12 ?_
        refine il1 (pc := 13) dX8_commonDivisor_13 ?_
        refine g_irem (pc := 14) dX8_commonDivisor_14 (c9) ?_
        refine is3 (pc := 15) dX8_commonDivisor_15 rfl ?_
        refine il1 (pc := 16) dX8_commonDivisor_16 ?_
        refine is0 (pc := 17) dX8_commonDivisor_17 ?_
        refine il3 (pc := 18) dX8_commonDivisor_18 ?_
        refine is1 (pc := 19) dX8_commonDivisor_19 rfl ?_
        refine ic2 (pc := 20) dX8_commonDivisor_20 kc1 rfl ?_
        refine g_goto 2 (pc := 23) dX8_commonDivisor_23 (by decide) ?_
        rw [nI_1]
        refine dr3 ?_
        exact ih2 (i + 1) _ _ (by omega) (by rw [← hF, gcdI, if_neg c9])
  exact L2 64 0 a b (by omega) rfl
