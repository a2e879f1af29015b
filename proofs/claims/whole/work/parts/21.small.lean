def scB (d : mD) (s s2 a b a2 b2 : Nat) : mD :=
  let d1 := tA d a (va_cpy (gA d a2) (gA d a) 0 0 96)
  let d2 := tA d1 b (va_cpy (gA d1 b2) (gA d1 b) 0 0 96)
  let d3 := sI d2 98 s (gI d2 98 s2)
  sI d3 99 s (gI d3 99 s2)
def scT (d : mD) (s b : Nat) : mD := tA (sI d 99 s (drwI (gI d 99 s))) b (turF (gA d b) (gI d 99 s))
theorem tJ_tJ (d : mD) (a : Nat) (f g : Nat → Int64) : tJ (tJ d a f) a g = tJ d a g := by
  simp only [tJ]; congr 3; funext b; split <;> rfl
theorem tA_tA (d : mD) (a : Nat) (f g : Nat → Int32) : tA (tA d a f) a g = tA d a g := by
  simp only [tA]; congr 2; funext b; split <;> rfl
theorem tO_tO (d : mD) (a : Nat) (f g : Nat → Option Nat) : tO (tO d a f) a g = tO d a g := by
  simp only [tO]; congr 3; funext b; split <;> rfl
theorem tJ_self (d : mD) (a : Nat) : tJ d a (gJ d a) = d := by
  obtain ⟨x, y, z, w⟩ := d; simp only [tJ, gJ]; congr 3; funext b; split
  · next h => rw [h]
  · rfl
theorem tA_self (d : mD) (a : Nat) : tA d a (gA d a) = d := by
  obtain ⟨x, y, z, w⟩ := d; simp only [tA, gA]; congr 2; funext b; split
  · next h => rw [h]
  · rfl
theorem tO_self (d : mD) (a : Nat) : tO d a (gO d a) = d := by
  obtain ⟨x, y, z, w⟩ := d; simp only [tO, gO]; congr 3; funext b; split
  · next h => rw [h]
  · rfl
theorem sI_sI (d : mD) (f a : Nat) (v w : Int32) : sI (sI d f a v) f a w = sI d f a w := by
  simp only [sI]; congr 1; funext g b; split <;> rfl
theorem sI_self (d : mD) (f a : Nat) : sI d f a (gI d f a) = d := by
  obtain ⟨x, y⟩ := d; simp only [sI, gI]; congr 1; funext g b; split
  · next h => rw [h.1, h.2]
  · rfl
def shB (d : mD) (h a : Nat) (ln n9 : Int32) : mD := tJ (sI (sI (sI d 161 h 1) 162 h ln) 163 h n9) a (filJ 0 (gJ d a) 24 0)
theorem c_X2_at {l : Launch} {G : mG} {Z : mZ} {d : mD} {p a : Nat} {c r : Int32} (hp : pic Z p a) : CtI l G yX2_at cX2_at 5 .int 1 21 [.ref p, .int c, .int r] Z d (pix (gA d a) c r) d := by
  refine enterI RX2 2 [some (.ref p), some (.int c), some (.int r), none, none] (by decide) rfl (rfl) rfl rfl (fun X hR => ?_)
  refine g_iconst (pc := 0) dX2_at_0 kc0 ?_
  refine g_bipush (pc := 1) dX2_at_1 kb11 ?_
  refine il1 (pc := 3) dX2_at_3 ?_
  refine cl_X2_15 (pc := 4) (by decide) (Nat.le_of_ble_eq_true rfl) ⟨Nat.zero_le _, Nat.zero_le _⟩ dX2_at_4 ?_
  refine cl_X2_21 (pc := 7) (by decide) (Nat.le_of_ble_eq_true rfl) ⟨Nat.zero_le _, Nat.zero_le _⟩ dX2_at_7 ?_
  refine is3 (pc := 10) dX2_at_10 rfl ?_
  refine g_iconst (pc := 11) dX2_at_11 kc0 ?_
  refine g_bipush (pc := 12) dX2_at_12 kb7 ?_
  refine il2 (pc := 14) dX2_at_14 ?_
  refine cl_X2_15 (pc := 15) (by decide) (Nat.le_of_ble_eq_true rfl) ⟨Nat.zero_le _, Nat.zero_le _⟩ dX2_at_15 ?_
  refine cl_X2_21 (pc := 18) (by decide) (Nat.le_of_ble_eq_true rfl) ⟨Nat.zero_le _, Nat.zero_le _⟩ dX2_at_18 ?_
  refine is4 (pc := 21) dX2_at_21 rfl ?_
  refine al0 (pc := 23) dX2_at_23 ?_
  refine gf_X2_9 (pc := 24) hp.1 hp.2.1 dX2_at_24 ?_
  refine il4 (pc := 27) dX2_at_27 ?_
  refine g_bipush (pc := 29) dX2_at_29 kb12 ?_
  refine g_imul (pc := 31) dX2_at_31 ?_
  refine il3 (pc := 32) dX2_at_32 ?_
  refine g_iadd (pc := 33) dX2_at_33 ?_
  refine g_iald (pc := 34) (12 * clN r 7 + clN c 11) hp.2.2 (pix_lt c r) (by rw [← pix_ix, ← clN_mm r (m := 7) (by omega), ← clN_mm c (m := 11) (by omega)]; rfl) (by decide) dX2_at_34 ?_
  exact retI (pc := 35) hR dX2_at_35 (rfl) (rfl)
theorem c_X2_halfAt {l : Launch} {G : mG} {Z : mZ} {d : mD} {p a : Nat} {c r : Int32} (hp : pic Z p a) : CtI l G yX2_halfAt cX2_halfAt 6 .int 1 21 [.ref p, .int c, .int r] Z d (hpix (gA d a) c r) d := by
  have hlt := hpix_lt c r
  have hix : 2 * mMax 0 (mMin 3 r) * 12 + 2 * mMax 0 (mMin 5 c) = nI (24 * clN r 3 + 2 * clN c 5) := by
    have h1 := clN_mm r (m := 3) (by omega)
    have h2 := clN_mm c (m := 5) (by omega)
    rw [show (nI 3) = 3 from rfl] at h1
    rw [show (nI 5) = 5 from rfl] at h2
    rw [h1, h2]; exact hpix_ix c r
  refine enterI RX2 3 [some (.ref p), some (.int c), some (.int r), none, none, none] (by decide) rfl (rfl) rfl rfl (fun X hR => ?_)
  refine g_iconst (pc := 0) dX2_halfAt_0 kc2 ?_
  refine g_iconst (pc := 1) dX2_halfAt_1 kc0 ?_
  refine g_iconst (pc := 2) dX2_halfAt_2 kc5 ?_
  refine il1 (pc := 3) dX2_halfAt_3 ?_
  refine cl_X2_15 (pc := 4) (by decide) (Nat.le_of_ble_eq_true rfl) ⟨Nat.zero_le _, Nat.zero_le _⟩ dX2_halfAt_4 ?_
  refine cl_X2_21 (pc := 7) (by decide) (Nat.le_of_ble_eq_true rfl) ⟨Nat.zero_le _, Nat.zero_le _⟩ dX2_halfAt_7 ?_
  refine g_imul (pc := 10) dX2_halfAt_10 ?_
  refine is3 (pc := 11) dX2_halfAt_11 rfl ?_
  refine g_iconst (pc := 12) dX2_halfAt_12 kc2 ?_
  refine g_iconst (pc := 13) dX2_halfAt_13 kc0 ?_
  refine g_iconst (pc := 14) dX2_halfAt_14 kc3 ?_
  refine il2 (pc := 15) dX2_halfAt_15 ?_
  refine cl_X2_15 (pc := 16) (by decide) (Nat.le_of_ble_eq_true rfl) ⟨Nat.zero_le _, Nat.zero_le _⟩ dX2_halfAt_16 ?_
  refine cl_X2_21 (pc := 19) (by decide) (Nat.le_of_ble_eq_true rfl) ⟨Nat.zero_le _, Nat.zero_le _⟩ dX2_halfAt_19 ?_
  refine g_imul (pc := 22) dX2_halfAt_22 ?_
  refine is4 (pc := 23) dX2_halfAt_23 rfl ?_
  refine il4 (pc := 25) dX2_halfAt_25 ?_
  refine g_bipush (pc := 27) dX2_halfAt_27 kb12 ?_
  refine g_imul (pc := 29) dX2_halfAt_29 ?_
  refine il3 (pc := 30) dX2_halfAt_30 ?_
  refine g_iadd (pc := 31) dX2_halfAt_31 ?_
  refine is5 (pc := 32) dX2_halfAt_32 rfl ?_
  refine al0 (pc := 34) dX2_halfAt_34 ?_
  refine gf_X2_9 (pc := 35) hp.1 hp.2.1 dX2_halfAt_35 ?_
  refine il5 (pc := 38) dX2_halfAt_38 ?_
  refine g_iald (pc := 40) (24 * clN r 3 + 2 * clN c 5) hp.2.2 (by omega) (hix) (by decide) dX2_halfAt_40 ?_
  refine al0 (pc := 41) dX2_halfAt_41 ?_
  refine gf_X2_9 (pc := 42) hp.1 hp.2.1 dX2_halfAt_42 ?_
  refine il5 (pc := 45) dX2_halfAt_45 ?_
  refine g_iconst (pc := 47) dX2_halfAt_47 kc1 ?_
  refine g_iadd (pc := 48) dX2_halfAt_48 ?_
  refine g_iald (pc := 49) (24 * clN r 3 + 2 * clN c 5 + 1) hp.2.2 (by omega) (by rw [hix]; exact nI_1 _) (by decide) dX2_halfAt_49 ?_
  refine g_iadd (pc := 50) dX2_halfAt_50 ?_
  refine al0 (pc := 51) dX2_halfAt_51 ?_
  refine gf_X2_9 (pc := 52) hp.1 hp.2.1 dX2_halfAt_52 ?_
  refine il5 (pc := 55) dX2_halfAt_55 ?_
  refine g_bipush (pc := 57) dX2_halfAt_57 kb12 ?_
  refine g_iadd (pc := 59) dX2_halfAt_59 ?_
  refine g_iald (pc := 60) (24 * clN r 3 + 2 * clN c 5 + 12) hp.2.2 (by omega) (by rw [hix]; exact nI_add _ 12) (by decide) dX2_halfAt_60 ?_
  refine g_iadd (pc := 61) dX2_halfAt_61 ?_
  refine al0 (pc := 62) dX2_halfAt_62 ?_
  refine gf_X2_9 (pc := 63) hp.1 hp.2.1 dX2_halfAt_63 ?_
  refine il5 (pc := 66) dX2_halfAt_66 ?_
  refine g_bipush (pc := 68) dX2_halfAt_68 kb12 ?_
  refine g_iadd (pc := 70) dX2_halfAt_70 ?_
  refine g_iconst (pc := 71) dX2_halfAt_71 kc1 ?_
  refine g_iadd (pc := 72) dX2_halfAt_72 ?_
  refine g_iald (pc := 73) (24 * clN r 3 + 2 * clN c 5 + 12 + 1) hp.2.2 (by omega) (by rw [hix, show (12 : Int32) = nI 12 from rfl, nI_add]; exact nI_1 _) (by decide) dX2_halfAt_73 ?_
  refine g_iadd (pc := 74) dX2_halfAt_74 ?_
  refine g_iconst (pc := 75) dX2_halfAt_75 kc4 ?_
  refine g_idiv (pc := 76) dX2_halfAt_76 (by decide) ?_
  exact retI (pc := 77) hR dX2_halfAt_77 (rfl) (rfl)
theorem c_X2_othersThan {l : Launch} {G : mG} {Z : mZ} {d : mD} {p a q b : Nat} (hp : pic Z p a) (hq : pic Z q b) : CtI l G yX2_othersThan cX2_othersThan 4 .int 0 0 [.ref p, .ref q] Z d (cntL (fun i => decide (¬ gA d a i = gA d b i)) 96 0 0) d := by
  refine enterI RX2 2 [some (.ref p), some (.ref q), none, none] (by decide) rfl (rfl) rfl rfl (fun X hR => ?_)
  refine g_iconst (pc := 0) dX2_othersThan_0 kc0 ?_
  refine is2 (pc := 1) dX2_othersThan_1 rfl ?_
  refine g_iconst (pc := 2) dX2_othersThan_2 kc0 ?_
  refine is3 (pc := 3) dX2_othersThan_3 rfl ?_
  have L4 : ∀ (n i : Nat) (acc : Int32), i + n = 96 → (cntL (fun i => decide (¬ gA d a i = gA d b i)) n i acc = cntL (fun i => decide (¬ gA d a i = gA d b i)) 96 0 0) → mGo l G (mRm 0 0) X RX2 cX2_othersThan 4 0 0 Z 4 [some (.ref p), some (.ref q), some (.int acc), some (.int (nI i))] [] d := by
    intro n; induction n with
    | zero =>
      intro i acc hin4 hF
      refine il3 (pc := 4) dX2_othersThan_4 ?_
      refine g_bipush (pc := 5) dX2_othersThan_5 kb96 ?_
      refine g_icmpge 34 (pc := 7) dX2_othersThan_7 (by decide) (fun c7 => ?_) (fun c7 => absurd (nI_le (a := 96) (by omega) (by omega)) c7)
      refine il2 (pc := 34) dX2_othersThan_34 ?_
      exact retI (pc := 35) hR dX2_othersThan_35 (hF) (rfl)
    | succ n ih4 =>
      intro i acc hin4 hF
      refine il3 (pc := 4) dX2_othersThan_4 ?_
      refine g_bipush (pc := 5) dX2_othersThan_5 kb96 ?_
      refine g_icmpge 34 (pc := 7) dX2_othersThan_7 (by decide) (fun c7 => absurd c7 (nI_ge (b := 96) (by omega) (by omega))) (fun c7 => ?_)
      refine al0 (pc := 10) dX2_othersThan_10 ?_
      refine gf_X2_9 (pc := 11) hp.1 hp.2.1 dX2_othersThan_11 ?_
      refine il3 (pc := 14) dX2_othersThan_14 ?_
      refine g_iald (pc := 15) i hp.2.2 (by omega) (rfl) (by decide) dX2_othersThan_15 ?_
      refine al1 (pc := 16) dX2_othersThan_16 ?_
      refine gf_X2_9 (pc := 17) hq.1 hq.2.1 dX2_othersThan_17 ?_
      refine il3 (pc := 20) dX2_othersThan_20 ?_
      refine g_iald (pc := 21) i hq.2.2 (by omega) (rfl) (by decide) dX2_othersThan_21 ?_
      refine g_icmpeq 28 (pc := 22) dX2_othersThan_22 (by decide) (fun c22 => ?_) (fun c22 => ?_)
      · skip
        refine ic3 (pc := 28) dX2_othersThan_28 kc1 rfl ?_
        refine g_goto 4 (pc := 31) dX2_othersThan_31 (by decide) ?_
        rw [nI_1]
        exact ih4 (i + 1) _ (by omega) (by rw [← hF, cntL]; simp [c22])
      · skip
        refine ic2 (pc := 25) dX2_othersThan_25 kc1 rfl ?_
        refine ic3 (pc := 28) dX2_othersThan_28 kc1 rfl ?_
        refine g_goto 4 (pc := 31) dX2_othersThan_31 (by decide) ?_
        rw [nI_1]
        exact ih4 (i + 1) _ (by omega) (by rw [← hF, cntL]; simp [c22])
  exact L4 96 0 0 (by omega) rfl
theorem c_X2_become {l : Launch} {G : mG} {Z : mZ} {d : mD} {p a b : Nat} (hp : pic Z p a) (hb : ar Z 10 b 96) : CtV l G yX2_become cX2_become 2 1 60 [.ref p, .ref b] Z d (tA d a (va_cpy (gA d b) (gA d a) 0 0 96)) := by
  refine enterV RX2 0 [some (.ref p), some (.ref b)] (by decide) rfl rfl rfl (fun X hR => ?_)
  refine al1 (pc := 0) dX2_become_0 ?_
  refine g_iconst (pc := 1) dX2_become_1 kc0 ?_
  refine al0 (pc := 2) dX2_become_2 ?_
  refine gf_X2_9 (pc := 3) hp.1 hp.2.1 dX2_become_3 ?_
  refine g_iconst (pc := 6) dX2_become_6 kc0 ?_
  refine g_bipush (pc := 7) dX2_become_7 kb96 ?_
  refine g_cpI (pc := 9) 0 0 96 wm_X2_24 hb hp.2.2 rfl rfl rfl (by decide) (by decide) (by decide) (by decide) (by decide) (by decide) dX2_become_9 ?_
  exact retV (pc := 12) hR dX2_become_12 (rfl)
theorem c_X3_become {l : Launch} {G : mG} {Z : mZ} {d : mD} {s p q a b s2 p2 q2 a2 b2 : Nat} (hs : scn Z s p q a b) (ht : scn Z s2 p2 q2 a2 b2) : CtV l G yX3_become cX3_become 2 2 81 [.ref s, .ref s2] Z d (scB d s s2 a b a2 b2) := by
  refine enterV RX3 0 [some (.ref s), some (.ref s2)] (by decide) rfl rfl rfl (fun X hR => ?_)
  refine al0 (pc := 0) dX3_become_0 ?_
  refine gf_X3_12 (pc := 1) hs.1 hs.2.1 dX3_become_1 ?_
  refine al1 (pc := 4) dX3_become_4 ?_
  refine gf_X3_12 (pc := 5) ht.1 ht.2.1 dX3_become_5 ?_
  refine gf_X3_28 (pc := 8) ht.2.2.2.1.1 ht.2.2.2.1.2.1 dX3_become_8 ?_
  refine cl_X3_32 (pc := 11) (c_X2_become hs.2.2.2.1 ht.2.2.2.1.2.2) hs.2.2.2.1.1 (by decide) ⟨Nat.zero_le _, Nat.zero_le _⟩ (Nat.le_of_ble_eq_true rfl) dX3_become_11 ?_
  refine al0 (pc := 14) dX3_become_14 ?_
  refine gf_X3_18 (pc := 15) hs.1 hs.2.2.1 dX3_become_15 ?_
  refine al1 (pc := 18) dX3_become_18 ?_
  refine gf_X3_18 (pc := 19) ht.1 ht.2.2.1 dX3_become_19 ?_
  refine gf_X3_28 (pc := 22) ht.2.2.2.2.1 ht.2.2.2.2.2.1 dX3_become_22 ?_
  refine cl_X3_32 (pc := 25) (c_X2_become hs.2.2.2.2 ht.2.2.2.2.2.2) hs.2.2.2.2.1 (by decide) ⟨Nat.zero_le _, Nat.zero_le _⟩ (Nat.le_of_ble_eq_true rfl) dX3_become_25 ?_
  refine al0 (pc := 28) dX3_become_28 ?_
  refine al1 (pc := 29) dX3_become_29 ?_
  refine gf_X3_21 (pc := 30) ht.1 dX3_become_30 ?_
  refine pf_X3_21 (pc := 33) hs.1 dX3_become_33 ?_
  refine al0 (pc := 36) dX3_become_36 ?_
  refine al1 (pc := 37) dX3_become_37 ?_
  refine gf_X3_25 (pc := 38) ht.1 dX3_become_38 ?_
  refine pf_X3_25 (pc := 41) hs.1 dX3_become_41 ?_
  exact retV (pc := 44) hR dX3_become_44 (rfl)
theorem c_X3_turn {l : Launch} {G : mG} {Z : mZ} {d : mD} {s p q a b : Nat} (hs : scn Z s p q a b) : CtV l G yX3_turn cX3_turn 2 0 0 [.ref s] Z d (scT d s b) := by
  obtain ⟨he, hlt⟩ := drw_nI (gI d 99 s)
  have hx9 : drwI (gI d 99 s) / 65536 = nI (drwN (gI d 99 s) / 65536) := by rw [he]; exact pk_div hlt (by decide) (by decide)
  refine enterV RX3 1 [some (.ref s), none] (by decide) rfl rfl rfl (fun X hR => ?_)
  refine al0 (pc := 0) dX3_turn_0 ?_
  refine al0 (pc := 1) dX3_turn_1 ?_
  refine gf_X3_25 (pc := 2) hs.1 dX3_turn_2 ?_
  refine g_ldc (pc := 5) dX3_turn_5 wk_X3_36 ?_
  refine g_imul (pc := 7) dX3_turn_7 ?_
  refine g_sipush (pc := 8) dX3_turn_8 ks12345 ?_
  refine g_iadd (pc := 11) dX3_turn_11 ?_
  refine g_ldc (pc := 12) dX3_turn_12 wk_X3_37 ?_
  refine g_iand (pc := 14) dX3_turn_14 ?_
  refine pf_X3_25 (pc := 15) hs.1 dX3_turn_15 ?_
  refine al0 (pc := 18) dX3_turn_18 ?_
  refine gf_X3_25 (pc := 19) hs.1 dX3_turn_19 ?_
  refine g_ldc (pc := 22) dX3_turn_22 wk_X3_38 ?_
  refine g_idiv (pc := 24) dX3_turn_24 (by decide) ?_
  refine is1 (pc := 25) dX3_turn_25 rfl ?_
  refine al0 (pc := 26) dX3_turn_26 ?_
  refine gf_X3_18 (pc := 27) hs.1 hs.2.2.1 dX3_turn_27 ?_
  refine gf_X3_28 (pc := 30) hs.2.2.2.2.1 hs.2.2.2.2.2.1 dX3_turn_30 ?_
  refine il1 (pc := 33) dX3_turn_33 ?_
  refine g_bipush (pc := 34) dX3_turn_34 kb96 ?_
  refine g_irem (pc := 36) dX3_turn_36 (by decide) ?_
  refine il1 (pc := 37) dX3_turn_37 ?_
  refine g_bipush (pc := 38) dX3_turn_38 kb96 ?_
  refine g_idiv (pc := 40) dX3_turn_40 (by decide) ?_
  refine g_bipush (pc := 41) dX3_turn_41 kb10 ?_
  refine g_irem (pc := 43) dX3_turn_43 (by decide) ?_
  refine g_iast (pc := 44) (drwN (gI d 99 s) / 65536 % 96) hs.2.2.2.2.2.2 (Nat.mod_lt _ (by decide)) ((by show mRem (gI (sI d 99 s (drwI (gI d 99 s))) 99 s / 65536) 96 = _; rw [gI_sI, if_pos ⟨rfl, rfl⟩, hx9]; exact pk_rem (by omega) (by decide) (by decide))) (by decide) dX3_turn_44 ?_
  exact retV (pc := 45) hR dX3_turn_45 (by show tA (sI d 99 s (drwI (gI d 99 s))) b (upd _ _ (mRem ((gI (sI d 99 s (drwI (gI d 99 s))) 99 s / 65536) / 96) 10)) = _; rw [gI_sI, if_pos ⟨rfl, rfl⟩, hx9]; rw [show nI (drwN (gI d 99 s) / 65536) / 96 = nI (drwN (gI d 99 s) / 65536 / 96) from pk_div (by omega) (by decide) (by decide), show mRem (nI (drwN (gI d 99 s) / 65536 / 96)) 10 = nI (drwN (gI d 99 s) / 65536 / 96 % 10) from pk_rem (by omega) (by decide) (by decide)]; rfl)
theorem c_X5_spans {l : Launch} {G : mG} {Z : mZ} {d : mD} {h a : Nat} {i n : Int32} (hh : sht Z h a) : CtI l G yX5_spans cX5_spans 3 .boolean 0 0 [.ref h, .int i, .int n] Z d (mB (spn (gI d 163 h) i n)) d := by
  refine enterI RX5 0 [some (.ref h), some (.int i), some (.int n)] (by decide) rfl (narB _) rfl rfl (fun X hR => ?_)
  refine il1 (pc := 0) dX5_spans_0 ?_
  refine g_iflt 30 (pc := 1) dX5_spans_1 (by decide) (fun c1 => ?_) (fun c1 => ?_)
  · skip
    refine g_iconst (pc := 30) dX5_spans_30 kc0 ?_
    exact retI (pc := 31) hR dX5_spans_31 (by simp [mB, spn, ← Int32.not_lt, c1]) (rfl)
  · skip
    refine il2 (pc := 4) dX5_spans_4 ?_
    refine g_iflt 30 (pc := 5) dX5_spans_5 (by decide) (fun c5 => ?_) (fun c5 => ?_)
    · skip
      refine g_iconst (pc := 30) dX5_spans_30 kc0 ?_
      exact retI (pc := 31) hR dX5_spans_31 (by simp [mB, spn, ← Int32.not_lt, c1, c5]) (rfl)
    · skip
      refine il1 (pc := 8) dX5_spans_8 ?_
      refine al0 (pc := 9) dX5_spans_9 ?_
      refine gf_X5_23 (pc := 10) hh.1 dX5_spans_10 ?_
      refine g_icmpgt 30 (pc := 13) dX5_spans_13 (by decide) (fun c13 => ?_) (fun c13 => ?_)
      · skip
        refine g_iconst (pc := 30) dX5_spans_30 kc0 ?_
        exact retI (pc := 31) hR dX5_spans_31 (by simp [mB, spn, ← Int32.not_lt, c1, c5, c13]) (rfl)
      · skip
        refine il2 (pc := 16) dX5_spans_16 ?_
        refine al0 (pc := 17) dX5_spans_17 ?_
        refine gf_X5_23 (pc := 18) hh.1 dX5_spans_18 ?_
        refine il1 (pc := 21) dX5_spans_21 ?_
        refine g_isub (pc := 22) dX5_spans_22 ?_
        refine g_icmpgt 30 (pc := 23) dX5_spans_23 (by decide) (fun c23 => ?_) (fun c23 => ?_)
        · skip
          refine g_iconst (pc := 30) dX5_spans_30 kc0 ?_
          exact retI (pc := 31) hR dX5_spans_31 (by simp [mB, spn, ← Int32.not_lt, c1, c5, c13, c23]) (rfl)
        · skip
          refine g_iconst (pc := 26) dX5_spans_26 kc1 ?_
          refine g_goto 31 (pc := 27) dX5_spans_27 (by decide) ?_
          exact retI (pc := 31) hR dX5_spans_31 (by simp [mB, spn, ← Int32.not_lt, c1, c5, c13, c23]) (rfl)
theorem c_X5_refusal {l : Launch} {G : mG} {Z : mZ} {d : mD} {h a : Nat} {ln i n : Int32} (hh : sht Z h a) : CtI l G yX5_refusal cX5_refusal 4 .int 1 22 [.ref h, .int ln, .int i, .int n] Z d (refI (gI d 161 h) (gI d 162 h) (gI d 163 h) ln i n) d := by
  refine enterI RX5 0 [some (.ref h), some (.int ln), some (.int i), some (.int n)] (by decide) rfl (rfl) rfl rfl (fun X hR => ?_)
  refine al0 (pc := 0) dX5_refusal_0 ?_
  refine gf_X5_15 (pc := 1) hh.1 dX5_refusal_1 ?_
  refine g_ifne 10 (pc := 4) dX5_refusal_4 (by decide) (fun c4 => ?_) (fun c4 => ?_)
  · skip
    refine al0 (pc := 10) dX5_refusal_10 ?_
    refine gf_X5_19 (pc := 11) hh.1 dX5_refusal_11 ?_
    refine il1 (pc := 14) dX5_refusal_14 ?_
    refine g_icmpeq 21 (pc := 15) dX5_refusal_15 (by decide) (fun c15 => ?_) (fun c15 => ?_)
    · skip
      refine al0 (pc := 21) dX5_refusal_21 ?_
      refine il2 (pc := 22) dX5_refusal_22 ?_
      refine il3 (pc := 23) dX5_refusal_23 ?_
      refine cl_X5_28 (pc := 24) (c_X5_spans hh) hh.1 (by decide) ⟨Nat.zero_le _, Nat.zero_le _⟩ (Nat.le_of_ble_eq_true rfl) dX5_refusal_24 ?_
      refine g_ifeq 34 (pc := 27) dX5_refusal_27 (by decide) (fun c27 => ?_) (fun c27 => ?_)
      · skip
        refine g_ldc (pc := 34) dX5_refusal_34 wk_X5_32 ?_
        exact retI (pc := 36) hR dX5_refusal_36 (by (try simp only [mB_eq0, mB_ne0] at c4 c15 c27); simp [refI, c4, c15, c27]) (rfl)
      · skip
        refine g_iconst (pc := 30) dX5_refusal_30 kc0 ?_
        refine g_goto 36 (pc := 31) dX5_refusal_31 (by decide) ?_
        exact retI (pc := 36) hR dX5_refusal_36 (by (try simp only [mB_eq0, mB_ne0] at c4 c15 c27); simp [refI, c4, c15, c27]) (rfl)
    · skip
      refine g_ldc (pc := 18) dX5_refusal_18 wk_X5_27 ?_
      exact retI (pc := 20) hR dX5_refusal_20 (by (try simp only [mB_eq0, mB_ne0] at c4 c15); simp [refI, c4, c15]) (rfl)
  · skip
    refine g_ldc (pc := 7) dX5_refusal_7 wk_X5_26 ?_
    exact retI (pc := 9) hR dX5_refusal_9 (by (try simp only [mB_eq0, mB_ne0] at c4); simp [refI, c4]) (rfl)
theorem c_X5_begin {l : Launch} {G : mG} {Z : mZ} {d : mD} {h a : Nat} {ln n9 : Int32} (hh : sht Z h a) : CtV l G yX5_begin cX5_begin 4 0 0 [.ref h, .int ln, .int n9] Z d (shB d h a ln n9) := by
  refine enterV RX5 1 [some (.ref h), some (.int ln), some (.int n9), none] (by decide) rfl rfl rfl (fun X hR => ?_)
  refine al0 (pc := 0) dX5_begin_0 ?_
  refine g_iconst (pc := 1) dX5_begin_1 kc1 ?_
  refine pf_X5_15 (pc := 2) hh.1 (by decide) (by decide) dX5_begin_2 ?_
  refine al0 (pc := 5) dX5_begin_5 ?_
  refine il1 (pc := 6) dX5_begin_6 ?_
  refine pf_X5_19 (pc := 7) hh.1 dX5_begin_7 ?_
  refine al0 (pc := 10) dX5_begin_10 ?_
  refine il2 (pc := 11) dX5_begin_11 ?_
  refine pf_X5_23 (pc := 12) hh.1 dX5_begin_12 ?_
  refine g_iconst (pc := 15) dX5_begin_15 kc0 ?_
  refine is3 (pc := 16) dX5_begin_16 rfl ?_
  have L17 : ∀ (n i : Nat) (f : Nat → Int64), i + n = 24 → (filJ 0 f n i = filJ 0 (gJ d a) 24 0) → mGo l G (mRm 0 0) X RX5 cX5_begin 4 0 0 Z 17 [some (.ref h), some (.int ln), some (.int n9), some (.int (nI i))] [] (tJ (sI (sI (sI d 161 h 1) 162 h ln) 163 h n9) a f) := by
    intro n; induction n with
    | zero =>
      intro i f hin17 hF
      refine il3 (pc := 17) dX5_begin_17 ?_
      refine g_bipush (pc := 18) dX5_begin_18 kb24 ?_
      refine g_icmpge 36 (pc := 20) dX5_begin_20 (by decide) (fun c20 => ?_) (fun c20 => absurd (nI_le (a := 24) (by omega) (by omega)) c20)
      exact retV (pc := 36) hR dX5_begin_36 (by rw [shB, ← hF]; rfl)
    | succ n ih17 =>
      intro i f hin17 hF
      refine il3 (pc := 17) dX5_begin_17 ?_
      refine g_bipush (pc := 18) dX5_begin_18 kb24 ?_
      refine g_icmpge 36 (pc := 20) dX5_begin_20 (by decide) (fun c20 => absurd c20 (nI_ge (b := 24) (by omega) (by omega))) (fun c20 => ?_)
      refine al0 (pc := 23) dX5_begin_23 ?_
      refine gf_X5_9 (pc := 24) hh.1 hh.2.1 dX5_begin_24 ?_
      refine il3 (pc := 27) dX5_begin_27 ?_
      refine g_lconst (pc := 28) dX5_begin_28 kl0 ?_
      refine g_last (pc := 29) i hh.2.2 (by omega) (rfl) (by decide) dX5_begin_29 ?_
      refine ic3 (pc := 30) dX5_begin_30 kc1 rfl ?_
      refine g_goto 17 (pc := 33) dX5_begin_33 (by decide) ?_
      rw [nI_1, gJ_tJ, if_pos rfl, tJ_tJ]
      exact ih17 (i + 1) _ (by omega) hF
  rw [← tJ_self (sI (sI (sI d 161 h 1) 162 h ln) 163 h n9) a]
  exact L17 24 0 _ (by omega) rfl
theorem c_X5_put {l : Launch} {G : mG} {Z : mZ} {d : mD} {h a : Nat} {j : Nat} {v : Int64} (hh : sht Z h a) (hj : j < 24) : CtV l G yX5_put cX5_put 4 0 0 [.ref h, .int (nI j), .long v] Z d (tJ d a (vp_updL (gJ d a) j (cutL (gI d 162 h) v))) := by
  refine enterV RX5 0 [some (.ref h), some (.int (nI j)), some (.long v), none] (by decide) rfl rfl rfl (fun X hR => ?_)
  refine al0 (pc := 0) dX5_put_0 ?_
  refine gf_X5_19 (pc := 1) hh.1 dX5_put_1 ?_
  by_cases c4_0 : gI d 162 h = 0
  · skip
    refine g_tblIn (pc := 4) 32 dX5_put_4 (by rw [c4_0]; decide) (by rw [c4_0]; decide) (by rw [c4_0]; rfl) (by decide) ?_
    refine al0 (pc := 32) dX5_put_32 ?_
    refine gf_X5_9 (pc := 33) hh.1 hh.2.1 dX5_put_33 ?_
    refine il1 (pc := 36) dX5_put_36 ?_
    refine ll2 (pc := 37) dX5_put_37 ?_
    refine g_l2i (pc := 38) dX5_put_38 ?_
    refine g_i2b (pc := 39) dX5_put_39 ?_
    refine g_i2l (pc := 40) dX5_put_40 ?_
    refine g_last (pc := 41) j hh.2.2 (hj) (rfl) (by decide) dX5_put_41 ?_
    refine g_goto 77 (pc := 42) dX5_put_42 (by decide) ?_
    exact retV (pc := 77) hR dX5_put_77 (by simp [cutL, c4_0])
  by_cases c4_1 : gI d 162 h = 1
  · skip
    refine g_tblIn (pc := 4) 45 dX5_put_4 (by rw [c4_1]; decide) (by rw [c4_1]; decide) (by rw [c4_1]; rfl) (by decide) ?_
    refine al0 (pc := 45) dX5_put_45 ?_
    refine gf_X5_9 (pc := 46) hh.1 hh.2.1 dX5_put_46 ?_
    refine il1 (pc := 49) dX5_put_49 ?_
    refine ll2 (pc := 50) dX5_put_50 ?_
    refine g_l2i (pc := 51) dX5_put_51 ?_
    refine g_i2s (pc := 52) dX5_put_52 ?_
    refine g_i2l (pc := 53) dX5_put_53 ?_
    refine g_last (pc := 54) j hh.2.2 (hj) (rfl) (by decide) dX5_put_54 ?_
    refine g_goto 77 (pc := 55) dX5_put_55 (by decide) ?_
    exact retV (pc := 77) hR dX5_put_77 (by simp [cutL, c4_1])
  by_cases c4_2 : gI d 162 h = 2
  · skip
    refine g_tblIn (pc := 4) 58 dX5_put_4 (by rw [c4_2]; decide) (by rw [c4_2]; decide) (by rw [c4_2]; rfl) (by decide) ?_
    refine al0 (pc := 58) dX5_put_58 ?_
    refine gf_X5_9 (pc := 59) hh.1 hh.2.1 dX5_put_59 ?_
    refine il1 (pc := 62) dX5_put_62 ?_
    refine ll2 (pc := 63) dX5_put_63 ?_
    refine g_l2i (pc := 64) dX5_put_64 ?_
    refine g_i2l (pc := 65) dX5_put_65 ?_
    refine g_last (pc := 66) j hh.2.2 (hj) (rfl) (by decide) dX5_put_66 ?_
    refine g_goto 77 (pc := 67) dX5_put_67 (by decide) ?_
    exact retV (pc := 77) hR dX5_put_77 (by simp [cutL, c4_2])
  refine g_tblOut (pc := 4) 70 dX5_put_4 (by have q0 := lv_neT c4_0 (k := 0) (a := 0) (by decide); have q1 := lv_neT c4_1 (k := 1) (a := 1) (by decide); have q2 := lv_neT c4_2 (k := 2) (a := 2) (by decide); omega) (by decide) ?_
  refine al0 (pc := 70) dX5_put_70 ?_
  refine gf_X5_9 (pc := 71) hh.1 hh.2.1 dX5_put_71 ?_
  refine il1 (pc := 74) dX5_put_74 ?_
  refine ll2 (pc := 75) dX5_put_75 ?_
  refine g_last (pc := 76) j hh.2.2 (hj) (rfl) (by decide) dX5_put_76 ?_
  exact retV (pc := 77) hR dX5_put_77 (by simp [cutL, c4_0, c4_1, c4_2])
